/-! SOUNDNESS, an instruction at a time -/
section q_SD
variable {p : Program} {l : Launch} {e : Env} {R : Room} {s : State} {m : MethodId} {args : Array Value} {below : List Frame} {meth : Method} {c : Code} {Q : State → Prop}
/-- what goes on: from every state of the interpreter from where k comes to res, the machine comes to Q -/
def q_KK (p : Program) (l : Launch) (e : Env) (R : Room) (s : State) (m : MethodId) (args : Array Value) (below : List Frame) (meth : Method) (c : Code) (Q : State → Prop) (D : va_G) (dom : List q_R) (ad : q_R → Nat) (cA : Nat → ClassId) (A : Nat → Prop) (nL : Nat) (res : q_O) (k : q_K) : Prop :=
  ∀ (pc : Nat) (loc : q_L) (stk : List q_V) (h : q_H) (H : Heap) (locs : List Loc) (ls : Array Slot), k pc loc stk h = some res → va_P D vwCl (q_ws dom ad cA h) H → va_S A s.heap H locs → q_LR ad nL loc ls → q_okl dom loc → q_oks dom stk →
    W p l e R s m args below meth c H locs 0 0 Q (F0 m pc ls (stk.map (q_v ad)))
/-- what a frame stands on -/
def q_FX (p : Program) (s : State) (m : MethodId) (args : Array Value) (c : Code) (cc : ByteArray) (own nL : Nat) : Prop :=
  p.tables.exec = Jvm.exec ∧ c.code = cc ∧ c.maxLocals = nL ∧ s.vm.findClass (q_cn own) = some m.cls ∧ ∀ w ∈ lw_tblG, w.before args s = true
theorem q_ct_map (ad : q_R → Nat) : ∀ st : List q_V, ((st.map (q_v ad)).map fun v => v.category).sum = q_ct st := by
  intro st
  induction st with
  | nil => rfl
  | cons a st ih =>
    rcases a with x | x | x
    · show 1 + ((st.map (q_v ad)).map fun v => v.category).sum = q_ct st + 1
      rw [ih]; exact Nat.add_comm _ _
    · show 2 + ((st.map (q_v ad)).map fun v => v.category).sum = q_ct st + 2
      rw [ih]; exact Nat.add_comm _ _
    · show 1 + ((st.map (q_v ad)).map fun v => v.category).sum = q_ct st + 1
      rw [ih]; exact Nat.add_comm _ _
theorem q_in_vp {j : Int32} {n : Nat} (h : q_in j n = true) : vp_in j n := by
  unfold q_in at h
  rw [Bool.and_eq_true, decide_eq_true_eq] at h
  have h2 : j.toNatClampNeg < n := Nat.lt_of_lt_of_le (Nat.lt_succ_self _) (Nat.le_of_ble_eq_true h.2)
  intro q
  rcases q with q | q
  · exact absurd h.1 (by rw [Int32.not_le]; exact q)
  · omega
theorem q_tgt {pc : Nat} {off : Int} (h : (0 : Int) ≤ (pc : Int) + off) : (pc : Int) + off = ((q_tg pc off : Nat) : Int) := by
  unfold q_tg
  omega
/-- a world object, for a field -/
theorem q_objAt {D : va_G} {dom : List q_R} {ad : q_R → Nat} {cA : Nat → ClassId} {h : q_H} {t k i : Nat} (hr : (t, k, i) ∈ dom) (ht : (q_fl t).isEmpty = false) :
    ∃ q0 : Nat, dom[q0]? = some (t, k, i) ∧ (q_ws dom ad cA h)[q0]? = some (ad (t, k, i), .inr (q_ci t, q_fv ad h t k i)) := by
  obtain ⟨q0, h1, h2⟩ := q_ws_at (ad := ad) (cA := cA) (h := h) hr
  exact ⟨q0, h1, by rw [h2, q_ce_o ht]⟩
theorem q_arrAt {D : va_G} {dom : List q_R} {ad : q_R → Nat} {cA : Nat → ClassId} {h : q_H} {t k i : Nat} (hr : (t, k, i) ∈ dom) (ht : (q_fl t).isEmpty = true) :
    ∃ q0 : Nat, dom[q0]? = some (t, k, i) ∧ (q_ws dom ad cA h)[q0]? = some (ad (t, k, i), .inl (cA (q_at t), q_al t, q_ea ad h t k)) := by
  obtain ⟨q0, h1, h2⟩ := q_ws_at (ad := ad) (cA := cA) (h := h) hr
  exact ⟨q0, h1, by rw [h2, q_ce_a ht]⟩
theorem q_at_fl {t : Nat} (h : ¬ q_at t = 9) : (q_fl t).isEmpty = true := by
  cases hf : (q_fl t).isEmpty with
  | true => rfl
  | false =>
    have := q_fl_tag hf
    simp only [q_tags, List.mem_cons, List.mem_nil_iff, or_false] at this
    exfalso
    apply h
    rcases this with rfl | rfl | rfl | rfl | rfl | rfl | rfl | rfl | rfl | rfl <;> rfl
theorem q_fl_ne {t f c : Nat} (h : (q_fl t)[f]? = some c) : (q_fl t).isEmpty = false := by
  cases hq : q_fl t with
  | nil => rw [hq] at h; simp at h
  | cons a b => rfl
theorem q_any4 {L : List (Nat × Nat × Nat × Nat)} {a b x : Nat} (h : L.any (fun e => Nat.beq e.1 a && (Nat.beq e.2.1 b && Nat.beq e.2.2.1 x)) = true) : ∃ e ∈ L, e.1 = a ∧ e.2.1 = b ∧ e.2.2.1 = x := by
  obtain ⟨e, he, h1⟩ := List.any_eq_true.mp h
  simp only [Bool.and_eq_true] at h1
  exact ⟨e, he, Nat.eq_of_beq_eq_true h1.1, Nat.eq_of_beq_eq_true h1.2.1, Nat.eq_of_beq_eq_true h1.2.2⟩
theorem q_okd {dom : List q_R} {t k i : Nat} (h : q_okv dom (.inr (.inr (t, k, i)))) (ht : t ≠ 60) : (t, k, i) ∈ dom := by
  rcases h with h | h
  · exact h
  · exact absurd h.1 ht
/-- getfield -/
theorem q_s_get {cc : ByteArray} {own nL : Nat} (hF : q_FX p s m args c cc own nL) {D : va_G} {dom : List q_R} {ad : q_R → Nat} {cA : Nat → ClassId} {tys : List (ClassId × FieldType)} (hK : va_K D vwCl tys s)
    {h : q_H} {H : Heap} {locs : List Loc} {ls : Array Slot} {pc idx x t k i : Nat} {v : q_V} {rest : List Value} (hP : va_P D vwCl (q_ws dom ad cA h) H) (hr : (t, k, i) ∈ dom) (hx : t = x / 32) (hg : q_get t (x % 32) k i h = some v) (hl : q_fw own idx x ∈ lw_tblG) (hdg : decode cc pc = .ok (.getfield idx, 3))
    (kk : W p l e R s m args below meth c H locs 0 0 Q (F0 m (pc + 3) ls (q_v ad v :: rest))) : W p l e R s m args below meth c H locs 0 0 Q (F0 m pc ls (.ref (ad (t, k, i)) :: rest)) := by
  obtain ⟨hexec, hb, hml, hown, hts⟩ := hF
  have hc : ∃ cf, (q_fl t)[x % 32]? = some cf := by
    unfold q_get at hg
    cases hc : (q_fl t)[x % 32]? with
    | none => rw [hc] at hg; cases hg
    | some cf => exact ⟨cf, rfl⟩
  obtain ⟨cf, hc⟩ := hc
  have ht := q_fl_ne hc
  have htag := q_fl_tag ht
  obtain ⟨t1, t2, -, -, -⟩ := q_tagT t htag
  obtain ⟨q0, -, h2⟩ := q_objAt (D := D) (ad := ad) (cA := cA) (h := h) hr ht
  have hlt : x % 32 < (q_Tn t).2.2 := by
    rw [← t2]
    exact (List.getElem?_eq_some_iff.mp hc).1
  refine va_get (C := (q_Tn t).1) (T := (q_Tn t).2.1) (N := (q_Tn t).2.2) (own := q_cn own) (ref := ((q_Tn t).2.1 (x % 32)).1) hexec hb hts (q_tagW t htag) hown hK hP q0 h2 t1 (x % 32) hlt ?_ (fun _ h => h) (q_get_fv hg) hdg kk
  have h3 := hts _ hl
  unfold q_fw q_Tf at h3
  rw [← hx] at h3
  exact h3
theorem q_n01 {x : Int32} (h : q_01 x = true) : narrow .boolean (.int x) = .int x ∧ fits .boolean (.int x) = true := by
  unfold q_01 at h
  rw [Bool.or_eq_true, beq_iff_eq, beq_iff_eq] at h
  rcases h with rfl | rfl <;> exact ⟨by decide, by decide⟩
theorem q_hD {dom : List q_R} {ad : q_R → Nat} {cA : Nat → ClassId} {tys : List (ClassId × FieldType)} {A : Nat → Prop} (hC : q_Cx dom ad cA tys A) (h : q_H) : va_D A (q_ws dom ad cA h) := by
  obtain ⟨c1, c2, c3, c4, -, -⟩ := hC
  unfold q_ws
  refine ⟨fun a b y z ha hb he => ?_, fun a y ha => ?_⟩
  · rw [List.getElem?_map] at ha hb
    cases ha1 : dom[a]? with
    | none => rw [ha1] at ha; cases ha
    | some ra =>
      cases hb1 : dom[b]? with
      | none => rw [hb1] at hb; cases hb
      | some rb =>
        rw [ha1] at ha; rw [hb1] at hb
        cases ha; cases hb
        have := c1 ra (List.mem_of_getElem? ha1) rb (List.mem_of_getElem? hb1) he
        subst this
        exact c2 a b ra ha1 hb1
  · rw [List.getElem?_map] at ha
    cases ha1 : dom[a]? with
    | none => rw [ha1] at ha; cases ha
    | some ra => rw [ha1] at ha; cases ha; exact c3 ra (List.mem_of_getElem? ha1)
/-- putfield -/
theorem q_s_put {cc : ByteArray} {own nL : Nat} (hF : q_FX p s m args c cc own nL) {D : va_G} {dom : List q_R} {ad : q_R → Nat} {cA : Nat → ClassId} {tys : List (ClassId × FieldType)} {A : Nat → Prop} (hC : q_Cx dom ad cA tys A) (hK : va_K D vwCl tys s)
    {h h1 : q_H} {H : Heap} {locs : List Loc} {ls : Array Slot} {pc idx x t k i : Nat} {v : q_V} {rest : List Value} (hP : va_P D vwCl (q_ws dom ad cA h) H) (hS : va_S A s.heap H locs) (hr : (t, k, i) ∈ dom) (hx : t = x / 32) (hg : q_put t (x % 32) k i v h = some h1) (hl : q_fw own idx x ∈ lw_tblG) (hdg : decode cc pc = .ok (.putfield idx, 3))
    (kk : ∀ (H1 : Heap) (locs1 : List Loc), va_P D vwCl (q_ws dom ad cA h1) H1 → va_S A s.heap H1 locs1 → W p l e R s m args below meth c H1 locs1 0 0 Q (F0 m (pc + 3) ls rest)) : W p l e R s m args below meth c H locs 0 0 Q (F0 m pc ls (q_v ad v :: .ref (ad (t, k, i)) :: rest)) := by
  obtain ⟨hexec, hb, hml, hown, hts⟩ := hF
  obtain ⟨c1, c2, c3, c4, c5, c6⟩ := hC
  have hD : va_D A (q_ws dom ad cA h) := q_hD ⟨c1, c2, c3, c4, c5, c6⟩ h
  cases hc : (q_fl t)[x % 32]? with
  | none => unfold q_put at hg; rw [hc] at hg; cases hg
  | some cf =>
    have ht := q_fl_ne hc
    have htag := q_fl_tag ht
    obtain ⟨t1, t2, -, -, -⟩ := q_tagT t htag
    obtain ⟨q0, hq0, h2⟩ := q_objAt (D := D) (ad := ad) (cA := cA) (h := h) hr ht
    have hlt : x % 32 < (q_Tn t).2.2 := by
      rw [← t2]
      exact (List.getElem?_eq_some_iff.mp hc).1
    have hlen : x % 32 < (q_fv ad h t k i).length := by rw [q_fv_len, t2]; exact hlt
    have hlink : (Cond.fieldLink (q_cn own) idx ((q_Tn t).2.1 (x % 32)).1 ((q_Tn t).2.1 (x % 32)).2.1 ((q_Tn t).2.1 (x % 32)).2.2.1).before args s = true := by
      have h3 := hts _ hl
      unfold q_fw q_Tf at h3
      rw [← hx] at h3
      exact h3
    have fin : ∀ (ty : FieldType), parseFieldDescriptor ((q_Tn t).2.1 (x % 32)).2.2.1 = some ty → ((q_Tn t).2.1 (x % 32)).2.2.2 = false → narrow ty (q_v ad v) = q_v ad v → fits ty (q_v ad v) = true → q_ce ad cA h1 (t, k, i) = .inr (q_ci t, (q_fv ad h t k i).set (x % 32) (q_v ad v)) → (∀ r' ∈ dom, r' ≠ (t, k, i) → q_ce ad cA h1 r' = q_ce ad cA h r') → W p l e R s m args below meth c H locs 0 0 Q (F0 m pc ls (q_v ad v :: .ref (ad (t, k, i)) :: rest)) := by
      intro ty f1 f2 f3 f4 f5 f6
      refine va_put (C := (q_Tn t).1) (T := (q_Tn t).2.1) (N := (q_Tn t).2.2) (own := q_cn own) (ref := ((q_Tn t).2.1 (x % 32)).1) hexec hb hts (q_tagW t htag) (q_ty0 t) (q_tagY t htag) (q_tagN t htag) hown hK hP hD hS q0 h2 t1 (x % 32) hlt hlink (fun _ h => h) f2 f1 f3 f4 hlen hdg (fun H1 locs1 hP1 _ hS1 => ?_)
      rw [q_ws_set c2 hq0 f5 f6] at hP1
      exact kk H1 locs1 hP1 hS1
    have cell : ∀ (x1 : Int32), cf ≤ 1 → q_ce ad cA (q_si h t (x % 32) k i x1) (t, k, i) = .inr (q_ci t, (q_fv ad h t k i).set (x % 32) (.int x1)) := by
      intro x1 hcf
      rw [q_ce_o ht]
      congr 2
      apply List.ext_getElem?
      intro j
      by_cases hj : x % 32 = j
      · subst hj
        rw [List.getElem?_set_self hlen, q_fv_get, hc]
        simp only [Option.map_some, q_fv1, q_si, and_self, if_true]
        rw [show Nat.ble cf 1 = true from Nat.ble_eq_true_of_le hcf]
        rfl
      · rw [List.getElem?_set_ne hj, q_fv_get, q_fv_get]
        cases (q_fl t)[j]? with
        | none => rfl
        | some c' =>
          simp only [Option.map_some, q_fv1, q_si]
          have ne : ¬ j = x % 32 := fun z => hj z.symm
          simp only [ne, false_and, and_false, if_false]
    have cellL : ∀ (x1 : Int64), cf = 2 → q_ce ad cA (q_sl h t (x % 32) k i x1) (t, k, i) = .inr (q_ci t, (q_fv ad h t k i).set (x % 32) (.long x1)) := by
      intro x1 hcf
      rw [q_ce_o ht]
      congr 2
      apply List.ext_getElem?
      intro j
      by_cases hj : x % 32 = j
      · subst hj
        rw [List.getElem?_set_self hlen, q_fv_get, hc, hcf]
        simp only [Option.map_some, q_fv1, q_sl, and_self, if_true]
        rfl
      · rw [List.getElem?_set_ne hj, q_fv_get, q_fv_get]
        cases (q_fl t)[j]? with
        | none => rfl
        | some c' =>
          simp only [Option.map_some, q_fv1, q_sl]
          have ne : ¬ j = x % 32 := fun z => hj z.symm
          simp only [ne, false_and, and_false, if_false]
    unfold q_put at hg
    rw [hc] at hg
    rcases v with v | v | v
    · simp only at hg
      cases h0 : Nat.beq cf 0 with
      | true =>
        rw [h0] at hg
        simp only [cond_true] at hg
        cases hg
        have e0 := Nat.eq_of_beq_eq_true h0
        subst e0
        obtain ⟨f1, f2⟩ := q_tagF htag hc (by decide)
        exact fin .int f2 f1 rfl rfl (cell v (by decide)) (q_ce_si_o ht)
      | false =>
        rw [h0] at hg
        simp only [cond_false] at hg
        cases h1b : Nat.beq cf 1 with
        | true =>
          rw [h1b] at hg
          simp only [cond_true] at hg
          cases h01 : q_01 v with
          | true =>
            rw [h01] at hg
            simp only [cond_true] at hg
            cases hg
            have e0 := Nat.eq_of_beq_eq_true h1b
            subst e0
            obtain ⟨f1, f2⟩ := q_tagF htag hc (by decide)
            exact fin .boolean f2 f1 (q_n01 h01).1 (q_n01 h01).2 (cell v (by decide)) (q_ce_si_o ht)
          | false => rw [h01] at hg; cases hg
        | false => rw [h1b] at hg; cases hg
    · simp only at hg
      cases h0 : Nat.beq cf 2 with
      | true =>
        rw [h0] at hg
        simp only [cond_true] at hg
        cases hg
        have e0 := Nat.eq_of_beq_eq_true h0
        obtain ⟨f1, f2⟩ := q_tagF htag hc (by omega)
        subst e0
        exact fin .long f2 f1 rfl rfl (cellL v rfl) (q_ce_sl_o ht)
      | false => rw [h0] at hg; cases hg
    · cases hg
end q_SD
