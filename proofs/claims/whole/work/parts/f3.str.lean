/-! the straight constructors -/
theorem nw_acg {c0 : ClassId} {N : Nat} {f g : Nat → Value} (h : ∀ j, j < N → f j = g j) : arrV c0 N f = arrV c0 N g := by
  unfold arrV
  have : (Array.ofFn (n := N) fun j => f j.val) = Array.ofFn (n := N) fun j => g j.val := congrArg Array.ofFn (funext fun j => h j.val j.isLt)
  rw [this]
theorem nw_ar {D : va_G} {ad : q_R → Nat} {cA : Nat → ClassId} {h h' : q_H} {t k i a : Nat} {H : Heap} (he : (q_fl t).isEmpty = true) (h1 : ∀ j, j < q_al t → h.1 t 0 k j = h'.1 t 0 k j) (h2 : ∀ j, j < q_al t → h.2 t 0 k j = h'.2 t 0 k j) (q : va_at D vwCl (a, q_ce ad cA h (t, k, i)) H) : va_at D vwCl (a, q_ce ad cA h' (t, k, i)) H := by
  rw [q_ce_a he] at q ⊢
  have q1 : H[a]? = some (vp_cell (cA (q_at t)) (q_al t, q_ea ad h t k)) := q
  show H[a]? = some (vp_cell (cA (q_at t)) (q_al t, q_ea ad h' t k))
  rw [q1]
  refine congrArg some ?_
  unfold q_ea
  cases Nat.ble (q_at t) 1 with
  | true => exact nw_acg (fun j hj => congrArg Value.int (h1 j hj))
  | false =>
    cases Nat.beq (q_at t) 2 with
    | true => exact nw_acg (fun j hj => congrArg Value.long (h2 j hj))
    | false => rfl
theorem nw_ob {ad : q_R → Nat} {cA : Nat → ClassId} {h h' : q_H} {t k i : Nat} (he : (q_fl t).isEmpty = false) (h1 : ∀ f, h.1 t f k i = h'.1 t f k i) (h2 : ∀ f, h.2 t f k i = h'.2 t f k i) : q_ce ad cA h (t, k, i) = q_ce ad cA h' (t, k, i) := by
  rw [q_ce_o he, q_ce_o he]
  refine congrArg (fun x => (Sum.inr (q_ci t, x) : va_E)) ?_
  unfold q_fv
  apply List.map_congr_left
  intro q _
  unfold q_fv1
  rw [h1, h2]
theorem nw_sig0 : ∀ sig, parseMethodDescriptor "()V" = some sig → 0 = sig.parameters.length := fun sig h => by
  rw [show parseMethodDescriptor "()V" = some ⟨[], none⟩ from by decide +kernel] at h
  cases h
  rfl
theorem nw_nr {U : State} {X : State → Prop} (h : X U) : X U := h
theorem nw_lX {adK adV : Nat → Nat} {A1 A2 : Nat → Prop} {U : State} (hA : ∀ q, A2 q → A1 q) (h : lw_X adK adV A1 U) : lw_X adK adV A2 U := ⟨h.1, h.2.1, vk_S.narrow h.2.2.1 hA, va_Z.narrow h.2.2.2.1 hA, va_Zq.narrow h.2.2.2.2 hA⟩
theorem nw_z2 {t f k i : Nat} (h : t ≠ 39) : z_h0.2 t f k i = 0 := if_neg (fun q => h q.1)
set_option maxRecDepth 100000 in
theorem nw_ab : Cond.arrayClass .byte ∈ lw_tblG := q_g4 (i := 192) rfl rfl
set_option maxRecDepth 100000 in
theorem nw_al : Cond.arrayClass .long ∈ lw_tblG := q_g1 (i := 227) rfl rfl
set_option maxRecDepth 100000 in
theorem nw_inX0 : Cond.instantiable RX0 5 ∈ lw_tblG := q_g2 (i := 30) rfl rfl
set_option maxRecDepth 100000 in
theorem nw_iiX0 : Cond.initialized RX0 ∈ lw_tblG := q_g1 (i := 9) rfl rfl
set_option maxRecDepth 100000 in
theorem nw_coX0 : Cond.code yX0_init cX0_init 1 none ∈ lw_tblG := q_g2 (i := 33) rfl rfl
set_option maxRecDepth 100000 in
theorem nw_imX0 : Cond.instanceMethod yX0_init ∈ lw_tblG := q_g2 (i := 32) rfl rfl
