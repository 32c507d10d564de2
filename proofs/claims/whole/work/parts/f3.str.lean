/-! the straight constructors -/
def c_h0 : q_H := (fun _ _ _ _ => 0, fun _ _ _ _ => 0)
theorem nw_acg {c0 : ClassId} {N : Nat} {f g : Nat → Value} (h : ∀ j, j < N → f j = g j) : arrV c0 N f = arrV c0 N g := by
  unfold arrV
  have : (Array.ofFn (n := N) fun j => f j.val) = Array.ofFn (n := N) fun j => g j.val := congrArg Array.ofFn (funext fun j => h j.val j.isLt)
  rw [this]
theorem nw_ar {D : va_G} {ad : q_R → Nat} {cA : Nat → ClassId} {h h' : q_H} {t k i a : Nat} {H : Heap} (he : (q_fl t).isEmpty = true) (h1 : ∀ j, j < q_al t → h.1 t 0 k j = h'.1 t 0 k j) (h2 : ∀ j, j < q_al t → h.2 t 0 k j = h'.2 t 0 k j) (q : va_at D vwCl (a, q_ce ad cA h (t, k, i)) H) : va_at D vwCl (a, q_ce ad cA h' (t, k, i)) H := by
  rw [q_ce_a he] at q ⊢
  have q1 : H[a]? = some (vp_cell (cA (q_at t)) (q_al t, q_ea ad h t k)) := q
  show H[a]? = some (vp_cell (cA (q_at t)) (q_al t, q_ea ad h' t k))
  rw [q1]
  refine congrArg some ?_
  unfold q_ea
  cases Nat.ble (q_at t) 1 with
  | true => exact nw_acg (fun j hj => congrArg Value.int (h1 j hj))
  | false =>
    cases Nat.beq (q_at t) 2 with
    | true => exact nw_acg (fun j hj => congrArg Value.long (h2 j hj))
    | false => rfl
theorem nw_ob {ad : q_R → Nat} {cA : Nat → ClassId} {h h' : q_H} {t k i : Nat} (he : (q_fl t).isEmpty = false) (h1 : ∀ f, h.1 t f k i = h'.1 t f k i) (h2 : ∀ f, h.2 t f k i = h'.2 t f k i) : q_ce ad cA h (t, k, i) = q_ce ad cA h' (t, k, i) := by
  rw [q_ce_o he, q_ce_o he]
  refine congrArg (fun x => (Sum.inr (q_ci t, x) : va_E)) ?_
  unfold q_fv
  apply List.map_congr_left
  intro q _
  unfold q_fv1
  rw [h1, h2]
theorem nw_sig0 : ∀ sig, parseMethodDescriptor "()V" = some sig → 0 = sig.parameters.length := fun sig h => by
  rw [show parseMethodDescriptor "()V" = some ⟨[], none⟩ from by decide +kernel] at h
  cases h
  rfl
theorem nw_nr {U : State} {X : State → Prop} (h : X U) : X U := h
theorem nw_lX {adK adV : Nat → Nat} {A1 A2 : Nat → Prop} {U : State} (hA : ∀ q, A2 q → A1 q) (h : lw_X adK adV A1 U) : lw_X adK adV A2 U := ⟨h.1, h.2.1, vk_S.narrow h.2.2.1 hA, va_Z.narrow h.2.2.2.1 hA, va_Zq.narrow h.2.2.2.2 hA⟩
theorem nw_z2 {t f k i : Nat} (h : t ≠ 39) : z_h0.2 t f k i = 0 := if_neg (fun q => h q.1)
set_option maxRecDepth 100000 in
theorem nw_ab : Cond.arrayClass .byte ∈ lw_tblG := q_g4 (i := 192) rfl rfl
set_option maxRecDepth 100000 in
theorem nw_al : Cond.arrayClass .long ∈ lw_tblG := q_g1 (i := 227) rfl rfl
set_option maxRecDepth 100000 in
theorem nw_inX0 : Cond.instantiable RX0 5 ∈ lw_tblG := q_g2 (i := 30) rfl rfl
set_option maxRecDepth 100000 in
theorem nw_iiX0 : Cond.initialized RX0 ∈ lw_tblG := q_g1 (i := 9) rfl rfl
set_option maxRecDepth 100000 in
theorem nw_coX0 : Cond.code yX0_init cX0_init 1 none ∈ lw_tblG := q_g2 (i := 33) rfl rfl
set_option maxRecDepth 100000 in
theorem nw_imX0 : Cond.instanceMethod yX0_init ∈ lw_tblG := q_g2 (i := 32) rfl rfl
theorem nw_fsX0 : ∀ j, j < 5 → defaultValue (tyX0 j) = vp_V (c_df 19) j := fun j hj => by
  rcases (show j = 0 ∨ j = 1 ∨ j = 2 ∨ j = 3 ∨ j = 4 by omega) with rfl | rfl | rfl | rfl | rfl <;> rfl
theorem nw_hnX0 : yX0_init.cls ≠ "java/lang/invoke/MethodHandle" ∧ yX0_init.cls ≠ "java/lang/invoke/VarHandle" := by decide +kernel
set_option maxHeartbeats 4000000 in
set_option maxRecDepth 100000 in
theorem nw_cX0 {l : Launch} {D : va_G} {B : Nat} {adK : Nat → Nat} {cA : Nat → ClassId} {adV : Nat → Nat} {k : Nat} (hk : k ≤ 5) : nw_M l D B adK cA adV 2 yX0_init cX0_init 1 (19, k, 0) [(20, k, 0), (21, k, 0), (22, k, 0), (23, k, 0)] 4 240 := by
  refine nw_met (by decide +kernel) (Nat.le_of_ble_eq_true rfl) rfl (fun p e s m below meth c ls hx hb hml hr hlk hown hin hts hP hl => ?_)
  obtain ⟨hsz, hO, hK, hX⟩ := hP
  have a19 : nw_ad B adK (19, k, 0) = nw_b B k + 79 := nw_ad_st (by decide)
  have a20 : nw_ad B adK (20, k, 0) = nw_b B k + 80 := nw_ad_st (by decide)
  have a21 : nw_ad B adK (21, k, 0) = nw_b B k + 81 := nw_ad_st (by decide)
  have a22 : nw_ad B adK (22, k, 0) = nw_b B k + 82 := nw_ad_st (by decide)
  have a23 : nw_ad B adK (23, k, 0) = nw_b B k + 83 := nw_ad_st (by decide)
  have hI0 := nw_I0 (ad := nw_ad B adK) (cA := cA) (h := c_h0) hO hsz
  have hS0 : va_S (fun q => nw_ad B adK (19, k, 0) ≤ q) s.heap s.heap [] := va_S.rf
  have hAz := Nat.le_refl (nw_ad B adK (19, k, 0))
  have h0 := lv_at hl 0 rfl
  refine lv_aload_n hx hb dX0_init_0 rfl h0 ?_
  refine W.objInit hx hb hown (hts _ cw_ol0) (hts _ cw_oi) (hts _ cw_oc) rfl (by rw [hml]; exact hl.1) rfl dX0_init_1 (Nat.le_of_ble_eq_true rfl) (Nat.le_of_ble_eq_true rfl) ?_
  refine W.eq (g2 := F0 m 4 ls []) rfl ?_
  refine lv_aload_n hx hb dX0_init_4 rfl h0 ?_
  refine lv_bipush hx hb dX0_init_5 (v := 60) (by decide) ?_
  refine nw_newa (atype := .int) (t0 := 0) (N := 60) (c0 := cA 0) (a0 := (60, .inl (fun _ => 0))) hx hb (hts _ cw_ai) hK rfl rfl (by decide) (by decide) (Nat.le_of_ble_eq_true rfl) (Nat.le_of_ble_eq_true rfl) (Nat.le_of_ble_eq_true rfl) hS0 dX0_init_7 (fun H1 e1 z1 o1 hS1 => ?_)
  have es1 : s.heap.size = nw_ad B adK (20, k, 0) := by have := hI0.2.2.2; omega
  rw [es1] at e1 ⊢
  have hI1 : nw_I D (nw_ad B adK) cA c_h0 (nw_ad B adK (19, k, 0)) 0 [.null, .null, .null, .null, .int 0] [(20, k, 0)] 1 H1 := nw_Ix (j := 1) hI0 o1 z1 (nw_1 (r := (20, k, 0)) e1) (fun r hr => by rw [List.mem_singleton] at hr; rw [hr]; omega)
  refine nw_put (T := TX0) (N := 5) hx hb hts (q_tagW 19 (by decide)) tyX0 tyX0_ok nmX0 hown hK hin hI1.1 rfl 0 (by decide) (hts _ cw_f0_9) rfl (ty := .array .int) (by decide +kernel) rfl rfl (Nat.le_of_ble_eq_true rfl) hS1 hAz dX0_init_9 (fun H2 L2 e2 z2 o2 hS2 => ?_)
  have hI2 : nw_I D (nw_ad B adK) cA c_h0 (nw_ad B adK (19, k, 0)) 0 [.ref (nw_ad B adK (20, k, 0)), .null, .null, .null, .int 0] [(20, k, 0)] 1 H2 := nw_Ip hI1 e2 z2 o2
  refine lv_aload_n hx hb dX0_init_12 rfl h0 ?_
  refine lv_bipush hx hb dX0_init_13 (v := 60) (by decide) ?_
  refine nw_newa (atype := .int) (t0 := 0) (N := 60) (c0 := cA 0) (a0 := (60, .inl (fun _ => 0))) hx hb (hts _ cw_ai) hK rfl rfl (by decide) (by decide) (Nat.le_of_ble_eq_true rfl) (Nat.le_of_ble_eq_true rfl) (Nat.le_of_ble_eq_true rfl) hS2 dX0_init_15 (fun H3 e3 z3 o3 hS3 => ?_)
  have es3 : H2.size = nw_ad B adK (21, k, 0) := by have := hI2.2.2.2; omega
  rw [es3] at e3 ⊢
  have hI3 : nw_I D (nw_ad B adK) cA c_h0 (nw_ad B adK (19, k, 0)) 0 [.ref (nw_ad B adK (20, k, 0)), .null, .null, .null, .int 0] [(20, k, 0), (21, k, 0)] 2 H3 := nw_Ix (j := 1) hI2 o3 z3 (nw_1 (r := (21, k, 0)) e3) (fun r hr => by rw [List.mem_singleton] at hr; rw [hr]; omega)
  refine nw_put (T := TX0) (N := 5) hx hb hts (q_tagW 19 (by decide)) tyX0 tyX0_ok nmX0 hown hK hin hI3.1 rfl 1 (by decide) (hts _ cw_f0_15) rfl (ty := .array .int) (by decide +kernel) rfl rfl (Nat.le_of_ble_eq_true rfl) hS3 hAz dX0_init_17 (fun H4 L4 e4 z4 o4 hS4 => ?_)
  have hI4 : nw_I D (nw_ad B adK) cA c_h0 (nw_ad B adK (19, k, 0)) 0 [.ref (nw_ad B adK (20, k, 0)), .ref (nw_ad B adK (21, k, 0)), .null, .null, .int 0] [(20, k, 0), (21, k, 0)] 2 H4 := nw_Ip hI3 e4 z4 o4
  refine lv_aload_n hx hb dX0_init_20 rfl h0 ?_
  refine lv_bipush hx hb dX0_init_21 (v := 60) (by decide) ?_
  refine nw_newa (atype := .int) (t0 := 0) (N := 60) (c0 := cA 0) (a0 := (60, .inl (fun _ => 0))) hx hb (hts _ cw_ai) hK rfl rfl (by decide) (by decide) (Nat.le_of_ble_eq_true rfl) (Nat.le_of_ble_eq_true rfl) (Nat.le_of_ble_eq_true rfl) hS4 dX0_init_23 (fun H5 e5 z5 o5 hS5 => ?_)
  have es5 : H4.size = nw_ad B adK (22, k, 0) := by have := hI4.2.2.2; omega
  rw [es5] at e5 ⊢
  have hI5 : nw_I D (nw_ad B adK) cA c_h0 (nw_ad B adK (19, k, 0)) 0 [.ref (nw_ad B adK (20, k, 0)), .ref (nw_ad B adK (21, k, 0)), .null, .null, .int 0] [(20, k, 0), (21, k, 0), (22, k, 0)] 3 H5 := nw_Ix (j := 1) hI4 o5 z5 (nw_1 (r := (22, k, 0)) e5) (fun r hr => by rw [List.mem_singleton] at hr; rw [hr]; omega)
  refine nw_put (T := TX0) (N := 5) hx hb hts (q_tagW 19 (by decide)) tyX0 tyX0_ok nmX0 hown hK hin hI5.1 rfl 2 (by decide) (hts _ cw_f0_18) rfl (ty := .array .int) (by decide +kernel) rfl rfl (Nat.le_of_ble_eq_true rfl) hS5 hAz dX0_init_25 (fun H6 L6 e6 z6 o6 hS6 => ?_)
  have hI6 : nw_I D (nw_ad B adK) cA c_h0 (nw_ad B adK (19, k, 0)) 0 [.ref (nw_ad B adK (20, k, 0)), .ref (nw_ad B adK (21, k, 0)), .ref (nw_ad B adK (22, k, 0)), .null, .int 0] [(20, k, 0), (21, k, 0), (22, k, 0)] 3 H6 := nw_Ip hI5 e6 z6 o6
  refine lv_aload_n hx hb dX0_init_28 rfl h0 ?_
  refine lv_bipush hx hb dX0_init_29 (v := 60) (by decide) ?_
  refine nw_newa (atype := .int) (t0 := 0) (N := 60) (c0 := cA 0) (a0 := (60, .inl (fun _ => 0))) hx hb (hts _ cw_ai) hK rfl rfl (by decide) (by decide) (Nat.le_of_ble_eq_true rfl) (Nat.le_of_ble_eq_true rfl) (Nat.le_of_ble_eq_true rfl) hS6 dX0_init_31 (fun H7 e7 z7 o7 hS7 => ?_)
  have es7 : H6.size = nw_ad B adK (23, k, 0) := by have := hI6.2.2.2; omega
  rw [es7] at e7 ⊢
  have hI7 : nw_I D (nw_ad B adK) cA c_h0 (nw_ad B adK (19, k, 0)) 0 [.ref (nw_ad B adK (20, k, 0)), .ref (nw_ad B adK (21, k, 0)), .ref (nw_ad B adK (22, k, 0)), .null, .int 0] [(20, k, 0), (21, k, 0), (22, k, 0), (23, k, 0)] 4 H7 := nw_Ix (j := 1) hI6 o7 z7 (nw_1 (r := (23, k, 0)) e7) (fun r hr => by rw [List.mem_singleton] at hr; rw [hr]; omega)
  refine nw_put (T := TX0) (N := 5) hx hb hts (q_tagW 19 (by decide)) tyX0 tyX0_ok nmX0 hown hK hin hI7.1 rfl 3 (by decide) (hts _ cw_f0_21) rfl (ty := .array .int) (by decide +kernel) rfl rfl (Nat.le_of_ble_eq_true rfl) hS7 hAz dX0_init_33 (fun H8 L8 e8 z8 o8 hS8 => ?_)
  have hI8 : nw_I D (nw_ad B adK) cA c_h0 (nw_ad B adK (19, k, 0)) 0 [.ref (nw_ad B adK (20, k, 0)), .ref (nw_ad B adK (21, k, 0)), .ref (nw_ad B adK (22, k, 0)), .ref (nw_ad B adK (23, k, 0)), .int 0] [(20, k, 0), (21, k, 0), (22, k, 0), (23, k, 0)] 4 H8 := nw_Ip hI7 e8 z8 o8
  have hW := nw_fin hI8 (by
    show (Sum.inr (0, [Value.ref (nw_ad B adK (20, k, 0)), Value.ref (nw_ad B adK (21, k, 0)), Value.ref (nw_ad B adK (22, k, 0)), Value.ref (nw_ad B adK (23, k, 0)), Value.int (z_h0.1 19 4 k 0)]) : va_E) = _
    rw [z_h0_k hk]
    rfl) (fun x hx => by
    simp only [List.mem_cons, List.not_mem_nil, or_false] at hx
    rcases hx with rfl | rfl | rfl | rfl
    · exact fun H q => nw_ar rfl (fun j hj => ((z_h0_k hk).trans (show z_t0 20 0 j = c_h0.1 20 0 k j from rfl)).symm) (fun j hj => (nw_z2 (by decide)).symm) q
    · exact fun H q => nw_ar rfl (fun j hj => ((z_h0_k hk).trans (show z_t0 21 0 j = c_h0.1 21 0 k j from rfl)).symm) (fun j hj => (nw_z2 (by decide)).symm) q
    · exact fun H q => nw_ar rfl (fun j hj => ((z_h0_k hk).trans (show z_t0 22 0 j = c_h0.1 22 0 k j from rfl)).symm) (fun j hj => (nw_z2 (by decide)).symm) q
    · exact fun H q => nw_ar rfl (fun j hj => ((z_h0_k hk).trans (show z_t0 23 0 j = c_h0.1 23 0 k j from rfl)).symm) (fun j hj => (nw_z2 (by decide)).symm) q)
  exact W.vret hx hb hr (fun t ht _ => ⟨⟨rfl, by rw [ht]; exact hI8.2.2.2, by rw [ht]; exact hW⟩, hS8.F ht⟩) hS8.2.2 dX0_init_36 hlk
set_option maxRecDepth 100000 in
theorem nw_inX1 : Cond.instantiable RX1 4 ∈ lw_tblG := q_g1 (i := 229) rfl rfl
set_option maxRecDepth 100000 in
theorem nw_iiX1 : Cond.initialized RX1 ∈ lw_tblG := q_g1 (i := 7) rfl rfl
set_option maxRecDepth 100000 in
theorem nw_coX1 : Cond.code yX1_init cX1_init 1 none ∈ lw_tblG := q_g1 (i := 232) rfl rfl
set_option maxRecDepth 100000 in
theorem nw_imX1 : Cond.instanceMethod yX1_init ∈ lw_tblG := q_g1 (i := 231) rfl rfl
theorem nw_fsX1 : ∀ j, j < 4 → defaultValue (tyX1 j) = vp_V (c_df 11) j := fun j hj => by
  rcases (show j = 0 ∨ j = 1 ∨ j = 2 ∨ j = 3 by omega) with rfl | rfl | rfl | rfl <;> rfl
theorem nw_hnX1 : yX1_init.cls ≠ "java/lang/invoke/MethodHandle" ∧ yX1_init.cls ≠ "java/lang/invoke/VarHandle" := by decide +kernel
set_option maxHeartbeats 4000000 in
set_option maxRecDepth 100000 in
theorem nw_cX1 {l : Launch} {D : va_G} {B : Nat} {adK : Nat → Nat} {cA : Nat → ClassId} {adV : Nat → Nat} {k : Nat} (hk : k ≤ 5) : nw_M l D B adK cA adV 2 yX1_init cX1_init 1 (11, k, 0) [(12, k, 0), (13, k, 0), (14, k, 0)] 3 180 := by
  refine nw_met (by decide +kernel) (Nat.le_of_ble_eq_true rfl) rfl (fun p e s m below meth c ls hx hb hml hr hlk hown hin hts hP hl => ?_)
  obtain ⟨hsz, hO, hK, hX⟩ := hP
  have a11 : nw_ad B adK (11, k, 0) = nw_b B k + 71 := nw_ad_st (by decide)
  have a12 : nw_ad B adK (12, k, 0) = nw_b B k + 72 := nw_ad_st (by decide)
  have a13 : nw_ad B adK (13, k, 0) = nw_b B k + 73 := nw_ad_st (by decide)
  have a14 : nw_ad B adK (14, k, 0) = nw_b B k + 74 := nw_ad_st (by decide)
  have hI0 := nw_I0 (ad := nw_ad B adK) (cA := cA) (h := c_h0) hO hsz
  have hS0 : va_S (fun q => nw_ad B adK (11, k, 0) ≤ q) s.heap s.heap [] := va_S.rf
  have hAz := Nat.le_refl (nw_ad B adK (11, k, 0))
  have h0 := lv_at hl 0 rfl
  refine lv_aload_n hx hb dX1_init_0 rfl h0 ?_
  refine W.objInit hx hb hown (hts _ cw_ol1) (hts _ cw_oi) (hts _ cw_oc) rfl (by rw [hml]; exact hl.1) rfl dX1_init_1 (Nat.le_of_ble_eq_true rfl) (Nat.le_of_ble_eq_true rfl) ?_
  refine W.eq (g2 := F0 m 4 ls []) rfl ?_
  refine lv_aload_n hx hb dX1_init_4 rfl h0 ?_
  refine lv_bipush hx hb dX1_init_5 (v := 60) (by decide) ?_
  refine nw_newa (atype := .int) (t0 := 0) (N := 60) (c0 := cA 0) (a0 := (60, .inl (fun _ => 0))) hx hb (hts _ cw_ai) hK rfl rfl (by decide) (by decide) (Nat.le_of_ble_eq_true rfl) (Nat.le_of_ble_eq_true rfl) (Nat.le_of_ble_eq_true rfl) hS0 dX1_init_7 (fun H1 e1 z1 o1 hS1 => ?_)
  have es1 : s.heap.size = nw_ad B adK (12, k, 0) := by have := hI0.2.2.2; omega
  rw [es1] at e1 ⊢
  have hI1 : nw_I D (nw_ad B adK) cA c_h0 (nw_ad B adK (11, k, 0)) 1 [.null, .null, .null, .int 0] [(12, k, 0)] 1 H1 := nw_Ix (j := 1) hI0 o1 z1 (nw_1 (r := (12, k, 0)) e1) (fun r hr => by rw [List.mem_singleton] at hr; rw [hr]; omega)
  refine nw_put (T := TX1) (N := 4) hx hb hts (q_tagW 11 (by decide)) tyX1 tyX1_ok nmX1 hown hK hin hI1.1 rfl 0 (by decide) (hts _ cw_f1_9) rfl (ty := .array .int) (by decide +kernel) rfl rfl (Nat.le_of_ble_eq_true rfl) hS1 hAz dX1_init_9 (fun H2 L2 e2 z2 o2 hS2 => ?_)
  have hI2 : nw_I D (nw_ad B adK) cA c_h0 (nw_ad B adK (11, k, 0)) 1 [.ref (nw_ad B adK (12, k, 0)), .null, .null, .int 0] [(12, k, 0)] 1 H2 := nw_Ip hI1 e2 z2 o2
  refine lv_aload_n hx hb dX1_init_12 rfl h0 ?_
  refine lv_bipush hx hb dX1_init_13 (v := 60) (by decide) ?_
  refine nw_newa (atype := .int) (t0 := 0) (N := 60) (c0 := cA 0) (a0 := (60, .inl (fun _ => 0))) hx hb (hts _ cw_ai) hK rfl rfl (by decide) (by decide) (Nat.le_of_ble_eq_true rfl) (Nat.le_of_ble_eq_true rfl) (Nat.le_of_ble_eq_true rfl) hS2 dX1_init_15 (fun H3 e3 z3 o3 hS3 => ?_)
  have es3 : H2.size = nw_ad B adK (13, k, 0) := by have := hI2.2.2.2; omega
  rw [es3] at e3 ⊢
  have hI3 : nw_I D (nw_ad B adK) cA c_h0 (nw_ad B adK (11, k, 0)) 1 [.ref (nw_ad B adK (12, k, 0)), .null, .null, .int 0] [(12, k, 0), (13, k, 0)] 2 H3 := nw_Ix (j := 1) hI2 o3 z3 (nw_1 (r := (13, k, 0)) e3) (fun r hr => by rw [List.mem_singleton] at hr; rw [hr]; omega)
  refine nw_put (T := TX1) (N := 4) hx hb hts (q_tagW 11 (by decide)) tyX1 tyX1_ok nmX1 hown hK hin hI3.1 rfl 1 (by decide) (hts _ cw_f1_15) rfl (ty := .array .int) (by decide +kernel) rfl rfl (Nat.le_of_ble_eq_true rfl) hS3 hAz dX1_init_17 (fun H4 L4 e4 z4 o4 hS4 => ?_)
  have hI4 : nw_I D (nw_ad B adK) cA c_h0 (nw_ad B adK (11, k, 0)) 1 [.ref (nw_ad B adK (12, k, 0)), .ref (nw_ad B adK (13, k, 0)), .null, .int 0] [(12, k, 0), (13, k, 0)] 2 H4 := nw_Ip hI3 e4 z4 o4
  refine lv_aload_n hx hb dX1_init_20 rfl h0 ?_
  refine lv_bipush hx hb dX1_init_21 (v := 60) (by decide) ?_
  refine nw_newa (atype := .int) (t0 := 0) (N := 60) (c0 := cA 0) (a0 := (60, .inl (fun _ => 0))) hx hb (hts _ cw_ai) hK rfl rfl (by decide) (by decide) (Nat.le_of_ble_eq_true rfl) (Nat.le_of_ble_eq_true rfl) (Nat.le_of_ble_eq_true rfl) hS4 dX1_init_23 (fun H5 e5 z5 o5 hS5 => ?_)
  have es5 : H4.size = nw_ad B adK (14, k, 0) := by have := hI4.2.2.2; omega
  rw [es5] at e5 ⊢
  have hI5 : nw_I D (nw_ad B adK) cA c_h0 (nw_ad B adK (11, k, 0)) 1 [.ref (nw_ad B adK (12, k, 0)), .ref (nw_ad B adK (13, k, 0)), .null, .int 0] [(12, k, 0), (13, k, 0), (14, k, 0)] 3 H5 := nw_Ix (j := 1) hI4 o5 z5 (nw_1 (r := (14, k, 0)) e5) (fun r hr => by rw [List.mem_singleton] at hr; rw [hr]; omega)
  refine nw_put (T := TX1) (N := 4) hx hb hts (q_tagW 11 (by decide)) tyX1 tyX1_ok nmX1 hown hK hin hI5.1 rfl 2 (by decide) (hts _ cw_f1_18) rfl (ty := .array .int) (by decide +kernel) rfl rfl (Nat.le_of_ble_eq_true rfl) hS5 hAz dX1_init_25 (fun H6 L6 e6 z6 o6 hS6 => ?_)
  have hI6 : nw_I D (nw_ad B adK) cA c_h0 (nw_ad B adK (11, k, 0)) 1 [.ref (nw_ad B adK (12, k, 0)), .ref (nw_ad B adK (13, k, 0)), .ref (nw_ad B adK (14, k, 0)), .int 0] [(12, k, 0), (13, k, 0), (14, k, 0)] 3 H6 := nw_Ip hI5 e6 z6 o6
  have hW := nw_fin hI6 (by
    show (Sum.inr (1, [Value.ref (nw_ad B adK (12, k, 0)), Value.ref (nw_ad B adK (13, k, 0)), Value.ref (nw_ad B adK (14, k, 0)), Value.int (z_h0.1 11 3 k 0)]) : va_E) = _
    rw [z_h0_k hk]
    rfl) (fun x hx => by
    simp only [List.mem_cons, List.not_mem_nil, or_false] at hx
    rcases hx with rfl | rfl | rfl
    · exact fun H q => nw_ar rfl (fun j hj => ((z_h0_k hk).trans (show z_t0 12 0 j = c_h0.1 12 0 k j from rfl)).symm) (fun j hj => (nw_z2 (by decide)).symm) q
    · exact fun H q => nw_ar rfl (fun j hj => ((z_h0_k hk).trans (show z_t0 13 0 j = c_h0.1 13 0 k j from rfl)).symm) (fun j hj => (nw_z2 (by decide)).symm) q
    · exact fun H q => nw_ar rfl (fun j hj => ((z_h0_k hk).trans (show z_t0 14 0 j = c_h0.1 14 0 k j from rfl)).symm) (fun j hj => (nw_z2 (by decide)).symm) q)
  exact W.vret hx hb hr (fun t ht _ => ⟨⟨rfl, by rw [ht]; exact hI6.2.2.2, by rw [ht]; exact hW⟩, hS6.F ht⟩) hS6.2.2 dX1_init_28 hlk
set_option maxRecDepth 100000 in
theorem nw_inX2 : Cond.instantiable RX2 4 ∈ lw_tblG := q_g2 (i := 10) rfl rfl
set_option maxRecDepth 100000 in
theorem nw_iiX2 : Cond.initialized RX2 ∈ lw_tblG := q_g1 (i := 8) rfl rfl
set_option maxRecDepth 100000 in
theorem nw_coX2 : Cond.code yX2_init cX2_init 1 none ∈ lw_tblG := q_g2 (i := 13) rfl rfl
set_option maxRecDepth 100000 in
theorem nw_imX2 : Cond.instanceMethod yX2_init ∈ lw_tblG := q_g2 (i := 12) rfl rfl
theorem nw_fsX2 : ∀ j, j < 4 → defaultValue (tyX2 j) = vp_V (c_df 15) j := fun j hj => by
  rcases (show j = 0 ∨ j = 1 ∨ j = 2 ∨ j = 3 by omega) with rfl | rfl | rfl | rfl <;> rfl
theorem nw_hnX2 : yX2_init.cls ≠ "java/lang/invoke/MethodHandle" ∧ yX2_init.cls ≠ "java/lang/invoke/VarHandle" := by decide +kernel
set_option maxHeartbeats 4000000 in
set_option maxRecDepth 100000 in
theorem nw_cX2 {l : Launch} {D : va_G} {B : Nat} {adK : Nat → Nat} {cA : Nat → ClassId} {adV : Nat → Nat} {k : Nat} (hk : k ≤ 5) : nw_M l D B adK cA adV 2 yX2_init cX2_init 1 (15, k, 0) [(16, k, 0), (17, k, 0), (18, k, 0)] 3 56 := by
  refine nw_met (by decide +kernel) (Nat.le_of_ble_eq_true rfl) rfl (fun p e s m below meth c ls hx hb hml hr hlk hown hin hts hP hl => ?_)
  obtain ⟨hsz, hO, hK, hX⟩ := hP
  have a15 : nw_ad B adK (15, k, 0) = nw_b B k + 75 := nw_ad_st (by decide)
  have a16 : nw_ad B adK (16, k, 0) = nw_b B k + 76 := nw_ad_st (by decide)
  have a17 : nw_ad B adK (17, k, 0) = nw_b B k + 77 := nw_ad_st (by decide)
  have a18 : nw_ad B adK (18, k, 0) = nw_b B k + 78 := nw_ad_st (by decide)
  have hI0 := nw_I0 (ad := nw_ad B adK) (cA := cA) (h := c_h0) hO hsz
  have hS0 : va_S (fun q => nw_ad B adK (15, k, 0) ≤ q) s.heap s.heap [] := va_S.rf
  have hAz := Nat.le_refl (nw_ad B adK (15, k, 0))
  have h0 := lv_at hl 0 rfl
  refine lv_aload_n hx hb dX2_init_0 rfl h0 ?_
  refine W.objInit hx hb hown (hts _ cw_ol2) (hts _ cw_oi) (hts _ cw_oc) rfl (by rw [hml]; exact hl.1) rfl dX2_init_1 (Nat.le_of_ble_eq_true rfl) (Nat.le_of_ble_eq_true rfl) ?_
  refine W.eq (g2 := F0 m 4 ls []) rfl ?_
  refine lv_aload_n hx hb dX2_init_4 rfl h0 ?_
  refine lv_bipush hx hb dX2_init_5 (v := 24) (by decide) ?_
  refine nw_newa (atype := .int) (t0 := 0) (N := 24) (c0 := cA 0) (a0 := (24, .inl (fun _ => 0))) hx hb (hts _ cw_ai) hK rfl rfl (by decide) (by decide) (Nat.le_of_ble_eq_true rfl) (Nat.le_of_ble_eq_true rfl) (Nat.le_of_ble_eq_true rfl) hS0 dX2_init_7 (fun H1 e1 z1 o1 hS1 => ?_)
  have es1 : s.heap.size = nw_ad B adK (16, k, 0) := by have := hI0.2.2.2; omega
  rw [es1] at e1 ⊢
  have hI1 : nw_I D (nw_ad B adK) cA c_h0 (nw_ad B adK (15, k, 0)) 2 [.null, .null, .null, .int 0] [(16, k, 0)] 1 H1 := nw_Ix (j := 1) hI0 o1 z1 (nw_1 (r := (16, k, 0)) e1) (fun r hr => by rw [List.mem_singleton] at hr; rw [hr]; omega)
  refine nw_put (T := TX2) (N := 4) hx hb hts (q_tagW 15 (by decide)) tyX2 tyX2_ok nmX2 hown hK hin hI1.1 rfl 0 (by decide) (hts _ cw_f2_9) rfl (ty := .array .int) (by decide +kernel) rfl rfl (Nat.le_of_ble_eq_true rfl) hS1 hAz dX2_init_9 (fun H2 L2 e2 z2 o2 hS2 => ?_)
  have hI2 : nw_I D (nw_ad B adK) cA c_h0 (nw_ad B adK (15, k, 0)) 2 [.ref (nw_ad B adK (16, k, 0)), .null, .null, .int 0] [(16, k, 0)] 1 H2 := nw_Ip hI1 e2 z2 o2
  refine lv_aload_n hx hb dX2_init_12 rfl h0 ?_
  refine lv_bipush hx hb dX2_init_13 (v := 24) (by decide) ?_
  refine nw_newa (atype := .int) (t0 := 0) (N := 24) (c0 := cA 0) (a0 := (24, .inl (fun _ => 0))) hx hb (hts _ cw_ai) hK rfl rfl (by decide) (by decide) (Nat.le_of_ble_eq_true rfl) (Nat.le_of_ble_eq_true rfl) (Nat.le_of_ble_eq_true rfl) hS2 dX2_init_15 (fun H3 e3 z3 o3 hS3 => ?_)
  have es3 : H2.size = nw_ad B adK (17, k, 0) := by have := hI2.2.2.2; omega
  rw [es3] at e3 ⊢
  have hI3 : nw_I D (nw_ad B adK) cA c_h0 (nw_ad B adK (15, k, 0)) 2 [.ref (nw_ad B adK (16, k, 0)), .null, .null, .int 0] [(16, k, 0), (17, k, 0)] 2 H3 := nw_Ix (j := 1) hI2 o3 z3 (nw_1 (r := (17, k, 0)) e3) (fun r hr => by rw [List.mem_singleton] at hr; rw [hr]; omega)
  refine nw_put (T := TX2) (N := 4) hx hb hts (q_tagW 15 (by decide)) tyX2 tyX2_ok nmX2 hown hK hin hI3.1 rfl 1 (by decide) (hts _ cw_f2_15) rfl (ty := .array .int) (by decide +kernel) rfl rfl (Nat.le_of_ble_eq_true rfl) hS3 hAz dX2_init_17 (fun H4 L4 e4 z4 o4 hS4 => ?_)
  have hI4 : nw_I D (nw_ad B adK) cA c_h0 (nw_ad B adK (15, k, 0)) 2 [.ref (nw_ad B adK (16, k, 0)), .ref (nw_ad B adK (17, k, 0)), .null, .int 0] [(16, k, 0), (17, k, 0)] 2 H4 := nw_Ip hI3 e4 z4 o4
  refine lv_aload_n hx hb dX2_init_20 rfl h0 ?_
  refine lv_bipush hx hb dX2_init_21 (v := 8) (by decide) ?_
  refine nw_newa (atype := .int) (t0 := 0) (N := 8) (c0 := cA 0) (a0 := (8, .inl (fun _ => 0))) hx hb (hts _ cw_ai) hK rfl rfl (by decide) (by decide) (Nat.le_of_ble_eq_true rfl) (Nat.le_of_ble_eq_true rfl) (Nat.le_of_ble_eq_true rfl) hS4 dX2_init_23 (fun H5 e5 z5 o5 hS5 => ?_)
  have es5 : H4.size = nw_ad B adK (18, k, 0) := by have := hI4.2.2.2; omega
  rw [es5] at e5 ⊢
  have hI5 : nw_I D (nw_ad B adK) cA c_h0 (nw_ad B adK (15, k, 0)) 2 [.ref (nw_ad B adK (16, k, 0)), .ref (nw_ad B adK (17, k, 0)), .null, .int 0] [(16, k, 0), (17, k, 0), (18, k, 0)] 3 H5 := nw_Ix (j := 1) hI4 o5 z5 (nw_1 (r := (18, k, 0)) e5) (fun r hr => by rw [List.mem_singleton] at hr; rw [hr]; omega)
  refine nw_put (T := TX2) (N := 4) hx hb hts (q_tagW 15 (by decide)) tyX2 tyX2_ok nmX2 hown hK hin hI5.1 rfl 2 (by decide) (hts _ cw_f2_18) rfl (ty := .array .int) (by decide +kernel) rfl rfl (Nat.le_of_ble_eq_true rfl) hS5 hAz dX2_init_25 (fun H6 L6 e6 z6 o6 hS6 => ?_)
  have hI6 : nw_I D (nw_ad B adK) cA c_h0 (nw_ad B adK (15, k, 0)) 2 [.ref (nw_ad B adK (16, k, 0)), .ref (nw_ad B adK (17, k, 0)), .ref (nw_ad B adK (18, k, 0)), .int 0] [(16, k, 0), (17, k, 0), (18, k, 0)] 3 H6 := nw_Ip hI5 e6 z6 o6
  have hW := nw_fin hI6 (by
    show (Sum.inr (2, [Value.ref (nw_ad B adK (16, k, 0)), Value.ref (nw_ad B adK (17, k, 0)), Value.ref (nw_ad B adK (18, k, 0)), Value.int (z_h0.1 15 3 k 0)]) : va_E) = _
    rw [z_h0_k hk]
    rfl) (fun x hx => by
    simp only [List.mem_cons, List.not_mem_nil, or_false] at hx
    rcases hx with rfl | rfl | rfl
    · exact fun H q => nw_ar rfl (fun j hj => ((z_h0_k hk).trans (show z_t0 16 0 j = c_h0.1 16 0 k j from rfl)).symm) (fun j hj => (nw_z2 (by decide)).symm) q
    · exact fun H q => nw_ar rfl (fun j hj => ((z_h0_k hk).trans (show z_t0 17 0 j = c_h0.1 17 0 k j from rfl)).symm) (fun j hj => (nw_z2 (by decide)).symm) q
    · exact fun H q => nw_ar rfl (fun j hj => ((z_h0_k hk).trans (show z_t0 18 0 j = c_h0.1 18 0 k j from rfl)).symm) (fun j hj => (nw_z2 (by decide)).symm) q)
  exact W.vret hx hb hr (fun t ht _ => ⟨⟨rfl, by rw [ht]; exact hI6.2.2.2, by rw [ht]; exact hW⟩, hS6.F ht⟩) hS6.2.2 dX2_init_28 hlk
set_option maxRecDepth 100000 in
theorem nw_inX6 : Cond.instantiable RX6 17 ∈ lw_tblG := q_g1 (i := 27) rfl rfl
set_option maxRecDepth 100000 in
theorem nw_iiX6 : Cond.initialized RX6 ∈ lw_tblG := q_g1 (i := 2) rfl rfl
set_option maxRecDepth 100000 in
theorem nw_coX6 : Cond.code yX6_init cX6_init 1 none ∈ lw_tblG := q_g1 (i := 30) rfl rfl
set_option maxRecDepth 100000 in
theorem nw_imX6 : Cond.instanceMethod yX6_init ∈ lw_tblG := q_g1 (i := 29) rfl rfl
theorem nw_fsX6 : ∀ j, j < 17 → defaultValue (tyX6 j) = vp_V (c_df 25) j := fun j hj => by
  rcases (show j = 0 ∨ j = 1 ∨ j = 2 ∨ j = 3 ∨ j = 4 ∨ j = 5 ∨ j = 6 ∨ j = 7 ∨ j = 8 ∨ j = 9 ∨ j = 10 ∨ j = 11 ∨ j = 12 ∨ j = 13 ∨ j = 14 ∨ j = 15 ∨ j = 16 by omega) with rfl | rfl | rfl | rfl | rfl | rfl | rfl | rfl | rfl | rfl | rfl | rfl | rfl | rfl | rfl | rfl | rfl <;> rfl
theorem nw_hnX6 : yX6_init.cls ≠ "java/lang/invoke/MethodHandle" ∧ yX6_init.cls ≠ "java/lang/invoke/VarHandle" := by decide +kernel
set_option maxHeartbeats 4000000 in
set_option maxRecDepth 100000 in
theorem nw_cX6 {l : Launch} {D : va_G} {B : Nat} {adK : Nat → Nat} {cA : Nat → ClassId} {adV : Nat → Nat}  : nw_M l D B adK cA adV 2 yX6_init cX6_init 1 (25, 6, 0) [(26, 6, 0), (27, 6, 0)] 2 705 := by
  refine nw_met (by decide +kernel) (Nat.le_of_ble_eq_true rfl) rfl (fun p e s m below meth c ls hx hb hml hr hlk hown hin hts hP hl => ?_)
  obtain ⟨hsz, hO, hK, hX⟩ := hP
  have a25 : nw_ad B adK (25, 6, 0) = B + 1 := rfl
  have a26 : nw_ad B adK (26, 6, 0) = B + 2 := rfl
  have a27 : nw_ad B adK (27, 6, 0) = B + 3 := rfl
  have hI0 := nw_I0 (ad := nw_ad B adK) (cA := cA) (h := c_h0) hO hsz
  have hS0 : va_S (fun q => nw_ad B adK (25, 6, 0) ≤ q) s.heap s.heap [] := va_S.rf
  have hAz := Nat.le_refl (nw_ad B adK (25, 6, 0))
  have h0 := lv_at hl 0 rfl
  refine lv_aload_n hx hb dX6_init_0 rfl h0 ?_
  refine W.objInit hx hb hown (hts _ cw_ol6) (hts _ cw_oi) (hts _ cw_oc) rfl (by rw [hml]; exact hl.1) rfl dX6_init_1 (Nat.le_of_ble_eq_true rfl) (Nat.le_of_ble_eq_true rfl) ?_
  refine W.eq (g2 := F0 m 4 ls []) rfl ?_
  refine lv_aload_n hx hb dX6_init_4 rfl h0 ?_
  refine lv_sipush hx hb dX6_init_5 (v := 700) (by decide) ?_
  refine nw_newa (atype := .int) (t0 := 0) (N := 700) (c0 := cA 0) (a0 := (700, .inl (fun _ => 0))) hx hb (hts _ cw_ai) hK rfl rfl (by decide) (by decide) (Nat.le_of_ble_eq_true rfl) (Nat.le_of_ble_eq_true rfl) (Nat.le_of_ble_eq_true rfl) hS0 dX6_init_8 (fun H1 e1 z1 o1 hS1 => ?_)
  have es1 : s.heap.size = nw_ad B adK (26, 6, 0) := by have := hI0.2.2.2; omega
  rw [es1] at e1 ⊢
  have hI1 : nw_I D (nw_ad B adK) cA c_h0 (nw_ad B adK (25, 6, 0)) 6 [.null, .int 0, .int 0, .int 0, .int 0, .int 0, .int 0, .int 0, .int 0, .null, .int 0, .int 0, .int 0, .int 0, .int 0, .int 0, .int 0] [(26, 6, 0)] 1 H1 := nw_Ix (j := 1) hI0 o1 z1 (nw_1 (r := (26, 6, 0)) e1) (fun r hr => by rw [List.mem_singleton] at hr; rw [hr]; omega)
  refine nw_put (T := TX6) (N := 17) hx hb hts (q_tagW 25 (by decide)) tyX6 tyX6_ok nmX6 hown hK hin hI1.1 rfl 0 (by decide) (hts _ cw_f6_9) rfl (ty := .array .int) (by decide +kernel) rfl rfl (Nat.le_of_ble_eq_true rfl) hS1 hAz dX6_init_10 (fun H2 L2 e2 z2 o2 hS2 => ?_)
  have hI2 : nw_I D (nw_ad B adK) cA c_h0 (nw_ad B adK (25, 6, 0)) 6 [.ref (nw_ad B adK (26, 6, 0)), .int 0, .int 0, .int 0, .int 0, .int 0, .int 0, .int 0, .int 0, .null, .int 0, .int 0, .int 0, .int 0, .int 0, .int 0, .int 0] [(26, 6, 0)] 1 H2 := nw_Ip hI1 e2 z2 o2
  refine lv_aload_n hx hb dX6_init_13 rfl h0 ?_
  refine lv_iconst hx hb dX6_init_14 (v := 5) (by decide) ?_
  refine nw_newa (atype := .int) (t0 := 0) (N := 5) (c0 := cA 0) (a0 := (5, .inl (fun _ => 0))) hx hb (hts _ cw_ai) hK rfl rfl (by decide) (by decide) (Nat.le_of_ble_eq_true rfl) (Nat.le_of_ble_eq_true rfl) (Nat.le_of_ble_eq_true rfl) hS2 dX6_init_15 (fun H3 e3 z3 o3 hS3 => ?_)
  have es3 : H2.size = nw_ad B adK (27, 6, 0) := by have := hI2.2.2.2; omega
  rw [es3] at e3 ⊢
  have hI3 : nw_I D (nw_ad B adK) cA c_h0 (nw_ad B adK (25, 6, 0)) 6 [.ref (nw_ad B adK (26, 6, 0)), .int 0, .int 0, .int 0, .int 0, .int 0, .int 0, .int 0, .int 0, .null, .int 0, .int 0, .int 0, .int 0, .int 0, .int 0, .int 0] [(26, 6, 0), (27, 6, 0)] 2 H3 := nw_Ix (j := 1) hI2 o3 z3 (nw_1 (r := (27, 6, 0)) e3) (fun r hr => by rw [List.mem_singleton] at hr; rw [hr]; omega)
  refine nw_put (T := TX6) (N := 17) hx hb hts (q_tagW 25 (by decide)) tyX6 tyX6_ok nmX6 hown hK hin hI3.1 rfl 9 (by decide) (hts _ cw_f6_15) rfl (ty := .array .int) (by decide +kernel) rfl rfl (Nat.le_of_ble_eq_true rfl) hS3 hAz dX6_init_17 (fun H4 L4 e4 z4 o4 hS4 => ?_)
  have hI4 : nw_I D (nw_ad B adK) cA c_h0 (nw_ad B adK (25, 6, 0)) 6 [.ref (nw_ad B adK (26, 6, 0)), .int 0, .int 0, .int 0, .int 0, .int 0, .int 0, .int 0, .int 0, .ref (nw_ad B adK (27, 6, 0)), .int 0, .int 0, .int 0, .int 0, .int 0, .int 0, .int 0] [(26, 6, 0), (27, 6, 0)] 2 H4 := nw_Ip hI3 e4 z4 o4
  refine lv_aload_n hx hb dX6_init_20 rfl h0 ?_
  refine lv_iconst hx hb dX6_init_21 (v := (-1)) (by decide) ?_
  refine nw_put (T := TX6) (N := 17) hx hb hts (q_tagW 25 (by decide)) tyX6 tyX6_ok nmX6 hown hK hin hI4.1 rfl 16 (by decide) (hts _ cw_f6_18) rfl (ty := .int) (by decide +kernel) rfl rfl (Nat.le_of_ble_eq_true rfl) hS4 hAz dX6_init_22 (fun H5 L5 e5 z5 o5 hS5 => ?_)
  have hI5 : nw_I D (nw_ad B adK) cA c_h0 (nw_ad B adK (25, 6, 0)) 6 [.ref (nw_ad B adK (26, 6, 0)), .int 0, .int 0, .int 0, .int 0, .int 0, .int 0, .int 0, .int 0, .ref (nw_ad B adK (27, 6, 0)), .int 0, .int 0, .int 0, .int 0, .int 0, .int 0, .int (-1)] [(26, 6, 0), (27, 6, 0)] 2 H5 := nw_Ip hI4 e5 z5 o5
  have hW := nw_fin hI5 (rfl) (fun x hx => by
    simp only [List.mem_cons, List.not_mem_nil, or_false] at hx
    rcases hx with rfl | rfl
    · exact fun H q => nw_ar rfl (fun j hj => rfl) (fun j hj => (nw_z2 (by decide)).symm) q
    · exact fun H q => nw_ar rfl (fun j hj => rfl) (fun j hj => (nw_z2 (by decide)).symm) q)
  exact W.vret hx hb hr (fun t ht _ => ⟨⟨rfl, by rw [ht]; exact hI5.2.2.2, by rw [ht]; exact hW⟩, hS5.F ht⟩) hS5.2.2 dX6_init_25 hlk
