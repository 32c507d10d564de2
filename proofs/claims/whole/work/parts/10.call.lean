theorem q_ac8 : Cond.methodLink (q_cn 8) 410 arraycopyName ∈ lw_tblG := q_g2 (i := 159) rfl rfl
theorem q_ac7 : Cond.methodLink (q_cn 7) 53 arraycopyName ∈ lw_tblG := q_g2 (i := 168) rfl rfl
theorem q_acn : Cond.native arraycopyName ∈ lw_tblG := q_g2 (i := 161) rfl rfl
theorem q_acs : Cond.static arraycopyName ∈ lw_tblG := q_g2 (i := 160) rfl rfl
theorem q_aci : Cond.initialized "java/lang/System" ∈ lw_tblG := q_g1 (i := 12) rfl rfl
theorem q_mis : Cond.static Lib.Math.min.name ∈ lw_tblG := q_g2 (i := 157) rfl rfl
theorem q_mii : Cond.initialized "java/lang/Math" ∈ lw_tblG := q_g1 (i := 11) rfl rfl
theorem q_mic : Cond.code Lib.Math.min.name Lib.Math.min.code 2 (some .int) ∈ lw_tblG := q_g2 (i := 158) rfl rfl
theorem q_min3 : q_y 3 = Lib.Math.min.name := rfl
theorem q_or34 {t : Nat} (h : (Nat.beq (q_at t) 3 || Nat.beq (q_at t) 4) = true) : q_at t = 3 ∨ q_at t = 4 := by
  rw [Bool.or_eq_true] at h
  rcases h with h | h
  · exact Or.inl (Nat.eq_of_beq_eq_true h)
  · exact Or.inr (Nat.eq_of_beq_eq_true h)
theorem q_in_lt {j : Int32} {n : Nat} (h : q_in j n = true) : j.toNatClampNeg < n := by
  unfold q_in at h
  rw [Bool.and_eq_true] at h
  exact Nat.lt_of_lt_of_le (Nat.lt_succ_self _) (Nat.le_of_ble_eq_true h.2)
theorem q_get_ok {dom : List q_R} {ad : q_R → Nat} {cA : Nat → ClassId} {tys : List (ClassId × FieldType)} {A : Nat → Prop} (hC : q_Cx dom ad cA tys A) {t f k i : Nat} {h : q_H} {v : q_V} (hr : (t, k, i) ∈ dom) (hg : q_get t f k i h = some v) : q_okv dom v := by
  unfold q_get at hg
  cases hc : (q_fl t)[f]? with
  | none => rw [hc] at hg; cases hg
  | some c =>
    rw [hc] at hg
    simp only at hg
    cases h1 : Nat.ble c 1 with
    | true => rw [h1] at hg; cases hg; trivial
    | false =>
      rw [h1] at hg
      simp only [cond_false] at hg
      cases h2 : Nat.beq c 2 with
      | true => rw [h2] at hg; cases hg; trivial
      | false =>
        rw [h2] at hg
        cases hg
        refine Or.inl (hC.2.2.2.2.1 _ hr f c hc ?_)
        have e1 : ¬ c ≤ 1 := fun z => by rw [Nat.ble_eq_true_of_le z] at h1; cases h1
        have e2 : ¬ c = 2 := fun z => by rw [z] at h2; cases h2
        omega
theorem q_LR_set2 {ad : q_R → Nat} {loc : q_L} {lv : List (Nat × Value)} {j : Nat} {v : Int64} (h2 : ∀ (i : Nat) (v : q_V), loc[i]? = some (some v) → (i, q_v ad v) ∈ lv) (hl : q_isl loc j = false) :
    ∀ (i : Nat) (w : q_V), ((loc.set j (some (.inr (.inl v)))).set (j + 1) none)[i]? = some (some w) → (i, q_v ad w) ∈ ((j, Value.long v) :: lv.filter (fun q => !(q.1 == j) && (!(q.1 == j + 1) && !(q.1 + 1 == j && q.2.category == 2)))) := by
  intro i w hw
  by_cases h1 : j + 1 = i
  · subst h1
    rw [List.getElem?_set_self'] at hw
    cases hc : (loc.set j (some (.inr (.inl v))))[j + 1]? with
    | none => rw [hc] at hw; simp at hw
    | some z => rw [hc] at hw; simp at hw
  · rw [List.getElem?_set_ne h1] at hw
    by_cases hij : j = i
    · subst hij
      rw [List.getElem?_set_self'] at hw
      cases hc : loc[j]? with
      | none => rw [hc] at hw; simp at hw
      | some z => rw [hc] at hw; simp at hw; subst hw; exact List.mem_cons_self
    · rw [List.getElem?_set_ne hij] at hw
      refine List.mem_cons_of_mem _ (List.mem_filter.mpr ⟨h2 i w hw, ?_⟩)
      have h3 : ¬ i = j := fun q => hij q.symm
      have h5 : ¬ i = j + 1 := fun q => h1 q.symm
      simp only [Bool.and_eq_true, Bool.not_eq_true', beq_eq_false_iff_ne, ne_eq, h3, h5, not_false_eq_true, true_and, Bool.and_eq_false_iff]
      by_cases h4 : i + 1 = j
      · right
        rw [q_isl_of hl h4 hw ad]
        decide
      · left
        exact h4
theorem q_okl_set2 {dom : List q_R} {loc : q_L} {j : Nat} {v : Int64} (h : q_okl dom loc) : q_okl dom ((loc.set j (some (.inr (.inl v)))).set (j + 1) none) := by
  intro i w hw
  by_cases h1 : j + 1 = i
  · subst h1
    rw [List.getElem?_set_self'] at hw
    cases hc : (loc.set j (some (.inr (.inl v))))[j + 1]? with
    | none => rw [hc] at hw; simp at hw
    | some z => rw [hc] at hw; simp at hw
  · rw [List.getElem?_set_ne h1] at hw
    exact q_okl_set h (v := .inr (.inl v)) trivial i w hw
section q_SO
variable {p : Program} {l : Launch} {e : Env} {R : Room} {s : State} {m : MethodId} {args : Array Value} {below : List Frame} {meth : Method} {c : Code}
variable {cc : ByteArray} {own nL d : Nat} {rt : Option FieldType} {D : va_G} {dom : List q_R} {ad : q_R → Nat} {cA : Nat → ClassId} {tys : List (ClassId × FieldType)} {A : Nat → Prop} {X : State → Prop}
/-- a call: what comes back -/
theorem q_callx {Q : State → Prop} {H : Heap} {locs : List Loc} {pc : Nat} {ls : Array Slot} {st0 rest : List Value} {a : Array Value} {res : q_O} (hr : va_Run p l e R s m args below meth c H locs 0 0 0 0 (F0 m pc ls st0) rest (q_Qc D dom ad cA A res a) A) (hS : va_S A s.heap H locs)
    (kk : ∀ (H1 : Heap) (locs1 : List Loc), (∀ v, res.1 = some v → q_okv dom v) → va_P D vwCl (q_ws dom ad cA res.2) H1 → va_S A s.heap H1 locs1 → W p l e R s m args below meth c H1 locs1 0 0 Q (F0 m (pc + 3) ls ((res.1.map (q_v ad)).toList ++ rest))) : W p l e R s m args below meth c H locs 0 0 Q (F0 m pc ls st0) := by
  intro T hT X
  obtain ⟨v, st₀, t, T', L, h0, X', hL, e1, e2, ⟨⟨hv, hp, hres⟩, hz, hk⟩, st⟩ := hr T hT X
  rw [h0] at hz hk
  have hv : v = res.1.map (q_v ad) := Outcome.returned.inj hv
  subst hv
  obtain ⟨t2, a1, b1⟩ := kk T'.heap (locs ++ L) hres (by rw [e1]; exact hp)
    ⟨Nat.le_trans hS.1 (by rw [e1]; exact hz), fun q h1 h2 => by rw [e1, hk q (Nat.lt_of_lt_of_le h1 hS.1) h2]; exact hS.2.1 q h1 h2, fun q hq => by
      rcases List.mem_append.mp hq with h | h
      · exact hS.2.2 q h
      · exact hL q h⟩ T' rfl X'
  exact ⟨t2, st t2 a1, b1⟩
/-- the callee's words among the caller's -/
theorem q_wsin (m' : Nat) (hm : q_mk m') : GoodIn lw_tblG (Cond.code (q_y m') (q_b m') (q_ml m') (q_rt m') :: lw_tblG) := by
  intro w hw
  have hg : ∀ w ∈ lw_tblG, w ∈ lw_tblG ∧ ((w.onTables && w.keeps) = true ∨ ∃ ty, w = .arrayClass ty) := fun w h => ⟨h, good_of_word (List.mem_filter.mp h).2⟩
  rcases List.mem_cons.mp hw with rfl | hw
  · exact hg _ hm.1.1
  · exact hg _ hw
def q_CALL (l : Launch) (D : va_G) (dom : List q_R) (ad : q_R → Nat) (cA : Nat → ClassId) (tys : List (ClassId × FieldType)) (A : Nat → Prop) (X : State → Prop) (d : Nat) (call : Nat → List q_V → q_H → Option q_O) : Prop :=
  ∀ (m' : Nat) (av : List q_V) (h : q_H) (res : q_O), call m' av h = some res → q_oks dom av → 1 ≤ m' → m' < 310 → q_Mt l D dom ad cA tys A X d m' av h res
theorem q_hp (hC : q_Cx dom ad cA tys A) (hK : va_K D vwCl tys s) (hX : q_XX ad A X) (hXs : X s) {H : Heap} {locs : List Loc} {h : q_H} (hP : va_P D vwCl (q_ws dom ad cA h) H) (hS : va_S A s.heap H locs) (av : List q_V) :
    PreS s H (va_Pc (av.map (q_v ad)) (fun U => va_P D vwCl (q_ws dom ad cA h) U.heap ∧ va_K D vwCl tys U ∧ X U)) (av.map (q_v ad)) :=
  ⟨fun a U g mk q => ⟨q.1, q.2.1, va_K.moved (u := U) (U := U.calling g mk a) (Vm.Alike.refl U.vm) q.2.2.1, hX.2.1 a U g mk q.2.2.2⟩,
   fun U hU hW => ⟨rfl, by rw [hU]; exact hP, va_K.moved hW.alike hK, hX.1 s U hW (by rw [hU]; exact hS.1) (fun q h1 h2 => by rw [hU]; exact hS.2.1 q h1 h2) hXs⟩⟩
theorem q_objA {t k i : Nat} (hr : (t, k, i) ∈ dom) (ht : (q_fl t).isEmpty = false) (h : q_H) : ∃ q0 : Nat, (q_ws dom ad cA h)[q0]? = some (ad (t, k, i), .inr (q_ci t, q_fv ad h t k i)) := by
  obtain ⟨q0, -, h2⟩ := q_objAt (D := (⟨fun _ => 0, fun _ _ => 0⟩ : va_G)) (ad := ad) (cA := cA) (h := h) hr ht
  exact ⟨q0, h2⟩
/-- the receiver's class -/
theorem q_rcv (hno : ∀ {r : q_R}, r ∈ dom → r.1 = 60 → False) (hK : va_K D vwCl tys s) (hX : q_XX ad A X) (hXs : X s) {H : Heap} {locs : List Loc} {h : q_H} (hP : va_P D vwCl (q_ws dom ad cA h) H) (hS : va_S A s.heap H locs) {t k i : Nat} (hv : q_okv dom (.inr (.inr (t, k, i)))) (hci : q_ci t < 13) : ∃ cellB : Cell, H[ad (t, k, i)]? = some cellB ∧ cellB.vm.isStatics = false ∧ s.vm.findClass (q_cn (q_ci t)) = some cellB.cls := by
  have ht : t ∈ (60 :: q_tags) := by
    unfold q_ci at hci
    by_cases h0 : t = 3
    · subst h0; decide
    by_cases h1 : t = 0
    · subst h1; decide
    by_cases h2 : t = 1
    · subst h2; decide
    by_cases h3 : t = 6
    · subst h3; decide
    by_cases h4 : t = 11
    · subst h4; decide
    by_cases h5 : t = 15
    · subst h5; decide
    by_cases h6 : t = 19
    · subst h6; decide
    by_cases h7 : t = 24
    · subst h7; decide
    by_cases h8 : t = 25
    · subst h8; decide
    by_cases h9 : t = 30
    · subst h9; decide
    by_cases h10 : t = 60
    · subst h10; decide
    exfalso
    have e : ∀ n, ¬ t = n → Nat.beq t n = false := fun n hn => by
      cases hb : Nat.beq t n with
      | false => rfl
      | true => exact absurd (Nat.eq_of_beq_eq_true hb) hn
    rw [e 3 h0, e 0 h1, e 1 h2, e 6 h3, e 11 h4, e 15 h5, e 19 h6, e 24 h7, e 25 h8, e 30 h9, e 60 h10] at hci
    simp at hci
  rcases List.mem_cons.mp ht with rfl | ht
  · rcases hv with hv | ⟨-, h2, h3⟩
    · exact absurd (hno hv rfl) (fun z => z)
    · simp only at h2 h3
      subst h2
      exact hX.2.2.2.1 s H locs i hXs hS h3
  · obtain ⟨t1, -, t3, t4, -⟩ := q_tagT t ht
    have h60 : t ≠ 60 := by
      intro z
      subst z
      exact absurd ht (by decide)
    obtain ⟨q0, h2⟩ := q_objA (ad := ad) (cA := cA) (q_okd hv h60) t3 h
    have h5 := va_recv hK hP t1 h2
    rw [t4] at h5
    exact h5

theorem q_hno (hC : q_Cx dom ad cA tys A) : ∀ {r : q_R}, r ∈ dom → r.1 = 60 → False := fun hr h => (hC.2.2.2.1 _ hr).1 h
theorem q_oks_sub {st st' : List q_V} (h : q_oks dom st) (hs : ∀ v ∈ st', v ∈ st) : q_oks dom st' := fun v hv => h v (hs v hv)
theorem q_cn_not (c : Nat) (h : c < 13) : q_cn c ≠ "java/lang/invoke/MethodHandle" ∧ q_cn c ≠ "java/lang/invoke/VarHandle" := ⟨(q_cn_ok c h).1, (q_cn_ok c h).2.1⟩
theorem q_toList (o : Option q_V) : (o.map (q_v ad)).toList = o.toList.map (q_v ad) := by cases o <;> rfl
set_option maxHeartbeats 1000000 in
theorem q_s_invV (hF : q_FX p s m args c cc own nL) (hR : R = q_rm (d + 1)) (hC : q_Cx dom ad cA tys A) (hK : va_K D vwCl tys s) (hX : q_XX ad A X) (hXs : X s) {Q : State → Prop}
    {call : Nat → List q_V → q_H → Option q_O} (hcall : q_CALL l D dom ad cA tys A X d call) {res rr : q_O} {k : q_K} {x pc idx t s' j : Nat} {loc : q_L} {stk st : List q_V} {h : q_H} {H : Heap} {locs : List Loc} {ls : Array Slot}
    (hk : q_KK p l e R s m args below meth c Q D dom ad cA A nL res k) (hP : va_P D vwCl (q_ws dom ad cA h) H) (hS : va_S A s.heap H locs) (hL : q_LR ad nL loc ls) (hV : q_okl dom loc) (hT : q_oks dom stk)
    (hvi : q_vi (x / 512) = 1) (hna : q_na (x / 512) = x % 8) (hci : q_ci t = q_mc (x / 512)) (hlt : x / 512 < 310) (hgt : 1 ≤ x / 512) (hmw : q_mw own idx (x / 512) ∈ lw_tblG) (hdg : decode cc pc = .ok (.invokevirtual idx, 3))
    (hst : stk.drop (x % 8) = .inr (.inr (t, s', j)) :: st) (hct : q_ct st ≤ 8) (hcl : call (x / 512) (.inr (.inr (t, s', j)) :: (stk.take (x % 8)).reverse) h = some rr)
    (hd : k (pc + 3) loc (rr.1.toList ++ st) rr.2 = some res) : W p l e R s m args below meth c H locs 0 0 Q (F0 m pc ls (stk.map (q_v ad))) := by
  obtain ⟨hx, hb, hml, hown, hts⟩ := id hF
  have hstk : stk = stk.take (x % 8) ++ .inr (.inr (t, s', j)) :: st := by rw [← hst, List.take_append_drop]
  have hrec : q_okv dom (.inr (.inr (t, s', j))) := hT _ (by rw [hstk]; simp)
  have hav : q_oks dom (.inr (.inr (t, s', j)) :: (stk.take (x % 8)).reverse) := q_oks_c hrec (fun v hv => hT v (List.mem_of_mem_take (List.mem_reverse.mp hv)))
  have hM := hcall _ _ _ _ hcl hav hgt hlt
  have hmk := q_mk_all (x / 512) hgt hlt
  obtain ⟨⟨k1, k2⟩, k3, ⟨k4, k5, k6⟩, k7⟩ := id hmk
  rw [hvi] at k3
  obtain ⟨k3a, k3b⟩ := k3
  have hlen : (stk.take (x % 8)).length = x % 8 := by
    rw [List.length_take]
    have h9 : (stk.drop (x % 8)).length = st.length + 1 := by rw [hst]; rfl
    rw [List.length_drop] at h9
    omega
  have hn := q_cn_not _ k5
  rw [← k4] at hn
  obtain ⟨cellB, g1, g2, g3⟩ := q_rcv (cA := cA) (q_hno hC) hK hX hXs hP hS hrec (by rw [hci]; exact k5)
  rw [hci, ← k4] at g3
  have hp := q_hp hC hK hX hXs hP hS (.inr (.inr (t, s', j)) :: (stk.take (x % 8)).reverse)
  have hrun := va_runV (p := p) (l := l) (e := e) (R := R) (below := below) (meth := meth) (locs := locs) (cells := 0) (slots := 0) (g := F0 m pc ls (stk.map (q_v ad))) (As := ((stk.take (x % 8)).reverse).map (q_v ad)) (rest := st.map (q_v ad)) (n := x % 8) (C := (q_y (x / 512)).cls) (b := ad (t, s', j)) (H := H) (ret := q_rt (x / 512)) (bytes := q_b (x / 512)) (maxL := q_ml (x / 512)) hF hM
    ⟨⟨rfl, rfl, by rw [hR]; exact Nat.le_refl _, by rw [hR]; show 8 + (q_ml (x / 512) + 11) + 30 * d ≤ 30 * (d + 1); omega, pay_in hts (q_wsin _ hmk), List.mem_cons_self, hts _ k1, hts _ k2, hn, fun sig hsig => by
        rw [hsig] at k7
        have := Option.some.inj k7
        rw [← hna]
        exact this.symm, hts _ hmw⟩, hts _ k3a, hts _ k3b⟩
    ⟨hp.1, ⟨cellB, g1, g2, g3⟩, hp.2⟩ rfl (by rw [List.length_map, List.length_reverse, hlen]) (hL.2.choose_spec.1.1) (by
      show stk.map (q_v ad) = _
      conv => lhs; rw [hstk]
      rw [List.map_append, List.map_reverse, List.reverse_reverse]
      rfl) (lv_room (by rw [q_ct_map]; exact hct)) hdg ⟨by rw [hR]; exact Nat.le_refl _, by rw [hR]; exact Nat.le_refl _⟩
  refine q_callx hrun hS (fun H1 locs1 hres hP1 hS1 => ?_)
  rw [q_toList, ← List.map_append]
  refine hk _ _ _ _ H1 locs1 ls hd hP1 hS1 hL hV (fun v hv => ?_)
  rcases List.mem_append.mp hv with hv | hv
  · cases hr1 : rr.1 with
    | none => rw [hr1] at hv; cases hv
    | some w => rw [hr1] at hv; simp at hv; subst hv; exact hres _ hr1
  · exact hT v (by rw [hstk]; simp [hv])
set_option maxHeartbeats 1000000 in
theorem q_s_invS (hF : q_FX p s m args c cc own nL) (hR : R = q_rm (d + 1)) (hC : q_Cx dom ad cA tys A) (hK : va_K D vwCl tys s) (hX : q_XX ad A X) (hXs : X s) {Q : State → Prop}
    {call : Nat → List q_V → q_H → Option q_O} (hcall : q_CALL l D dom ad cA tys A X d call) {res rr : q_O} {k : q_K} {x pc idx : Nat} {loc : q_L} {stk : List q_V} {h : q_H} {H : Heap} {locs : List Loc} {ls : Array Slot}
    (hk : q_KK p l e R s m args below meth c Q D dom ad cA A nL res k) (hP : va_P D vwCl (q_ws dom ad cA h) H) (hS : va_S A s.heap H locs) (hL : q_LR ad nL loc ls) (hV : q_okl dom loc) (hT : q_oks dom stk)
    (hvi : q_vi (x / 512) = 0) (hna : q_na (x / 512) = x % 8) (hlt : x / 512 < 310) (hgt : 1 ≤ x / 512) (h8 : Nat.beq x 1538 = false)
    (hlk : (q_mls_.any (fun e => Nat.beq e.1 own && (Nat.beq e.2.1 idx && Nat.beq e.2.2.1 (x / 512))) || q_nes.any (fun e => Nat.beq e.1 own && (Nat.beq e.2.1 idx && Nat.beq e.2.2.1 (x / 512)))) = true) (hdg : decode cc pc = .ok (.invokestatic idx, 3))
    (hct : q_ct (stk.drop (x % 8)) ≤ 8) (hle : x % 8 ≤ stk.length) (hcl : call (x / 512) (stk.take (x % 8)).reverse h = some rr)
    (hd : k (pc + 3) loc (rr.1.toList ++ stk.drop (x % 8)) rr.2 = some res) : W p l e R s m args below meth c H locs 0 0 Q (F0 m pc ls (stk.map (q_v ad))) := by
  obtain ⟨hx, hb, hml, hown, hts⟩ := id hF
  have hstk : stk = stk.take (x % 8) ++ stk.drop (x % 8) := (List.take_append_drop _ _).symm
  have hlen : (stk.take (x % 8)).length = x % 8 := by rw [List.length_take]; omega
  have hav : q_oks dom (stk.take (x % 8)).reverse := fun v hv => hT v (List.mem_of_mem_take (List.mem_reverse.mp hv))
  have hM := hcall _ _ _ _ hcl hav hgt hlt
  have hmk := q_mk_all (x / 512) hgt hlt
  obtain ⟨⟨k1, k2⟩, k3, ⟨k4, k5, k6⟩, k7⟩ := id hmk
  rw [hvi] at k3
  have k3 : Cond.static (q_y (x / 512)) ∈ lw_tblG := k3
  have hn := q_cn_not _ k5
  rw [← k4] at hn
  have hp := q_hp hC hK hX hXs hP hS (stk.take (x % 8)).reverse
  have hsig : ∀ sig, parseMethodDescriptor (q_y (x / 512)).desc = some sig → (stk.take (x % 8)).length = sig.parameters.length := fun sig hsig => by
    rw [hsig] at k7
    have h9 := Option.some.inj k7
    rw [hlen, ← hna]
    exact h9.symm
  have hstack : stk.map (q_v ad) = (((stk.take (x % 8)).reverse).map (q_v ad)).reverse ++ (stk.drop (x % 8)).map (q_v ad) := by
    conv => lhs; rw [hstk]
    rw [List.map_append, List.map_reverse, List.reverse_reverse]
  have goal : va_Run p l e R s m args below meth c H locs 0 0 0 0 (F0 m pc ls (stk.map (q_v ad))) ((stk.drop (x % 8)).map (q_v ad)) (q_Qc D dom ad cA A rr (((stk.take (x % 8)).reverse).map (q_v ad)).toArray) A := by
    rw [Bool.or_eq_true] at hlk
    rcases hlk with hlk | hlk
    · obtain ⟨z, hz, z1, z2, z3⟩ := q_any4 hlk
      have hmw := q_mls_ok z hz
      rw [z1, z2, z3] at hmw
      exact va_runS (g := F0 m pc ls (stk.map (q_v ad))) (As := ((stk.take (x % 8)).reverse).map (q_v ad)) (n := (stk.take (x % 8)).length) (ret := q_rt (x / 512)) (bytes := q_b (x / 512)) (maxL := q_ml (x / 512)) hF hM
        ⟨⟨rfl, rfl, by rw [hR]; exact Nat.le_refl _, by rw [hR]; show 8 + (q_ml (x / 512) + 11) + 30 * d ≤ 30 * (d + 1); omega, pay_in hts (q_wsin _ hmk), List.mem_cons_self, hts _ k1, hts _ k2, hn, hsig, hts _ hmw⟩, hts _ k3⟩
        hp rfl (by rw [List.length_map, List.length_reverse]) (hL.2.choose_spec.1.1) hstack (lv_room (by rw [q_ct_map]; exact hct)) hdg ⟨by rw [hR]; exact Nat.le_refl _, by rw [hR]; exact Nat.le_refl _⟩
    · obtain ⟨z, hz, z1, z2, z3⟩ := q_any4 hlk
      have hmw := hX.2.2.1 s hXs z hz
      rw [z1, z2, z3] at hmw
      exact va_runSN (g := F0 m pc ls (stk.map (q_v ad))) (As := ((stk.take (x % 8)).reverse).map (q_v ad)) (n := (stk.take (x % 8)).length) (ret := q_rt (x / 512)) (bytes := q_b (x / 512)) (maxL := q_ml (x / 512)) hF hM
        ⟨⟨⟨rfl, rfl, by rw [hR]; exact Nat.le_refl _, by rw [hR]; show 8 + (q_ml (x / 512) + 11) + 30 * d ≤ 30 * (d + 1); omega, pay_in hts (q_wsin _ hmk), List.mem_cons_self⟩, hts _ k1, hts _ k2, hn, hsig, va_Nw.use rfl hmw⟩, hts _ k3, trivial⟩
        hp rfl (by rw [List.length_map, List.length_reverse]) (hL.2.choose_spec.1.1) hstack (lv_room (by rw [q_ct_map]; exact hct)) hdg ⟨by rw [hR]; exact Nat.le_refl _, by rw [hR]; exact Nat.le_refl _⟩
  refine q_callx goal hS (fun H1 locs1 hres hP1 hS1 => ?_)
  rw [q_toList, ← List.map_append]
  refine hk _ _ _ _ H1 locs1 ls hd hP1 hS1 hL hV (fun v hv => ?_)
  rcases List.mem_append.mp hv with hv | hv
  · cases hr1 : rr.1 with
    | none => rw [hr1] at hv; cases hv
    | some w => rw [hr1] at hv; simp at hv; subst hv; exact hres _ hr1
  · exact hT v (List.mem_of_mem_drop hv)
theorem q_s_min (hF : q_FX p s m args c cc own nL) (hR : R = q_rm (d + 1)) {Q : State → Prop} {res : q_O} {k : q_K} {pc idx : Nat} {a b : Int32} {loc : q_L} {st : List q_V} {h : q_H} {H : Heap} {locs : List Loc} {ls : Array Slot}
    (hk : q_KK p l e R s m args below meth c Q D dom ad cA A nL res k) (hP : va_P D vwCl (q_ws dom ad cA h) H) (hS : va_S A s.heap H locs) (hL : q_LR ad nL loc ls) (hV : q_okl dom loc) (hT : q_oks dom (.inl b :: .inl a :: st))
    (hlk : (q_mls_.any (fun e => Nat.beq e.1 own && (Nat.beq e.2.1 idx && Nat.beq e.2.2.1 (1538 / 512))) || q_nes.any (fun e => Nat.beq e.1 own && (Nat.beq e.2.1 idx && Nat.beq e.2.2.1 (1538 / 512)))) = true) (hdg : decode cc pc = .ok (.invokestatic idx, 3))
    (hd : (bif Nat.ble (q_ct st) 8 then k (pc + 3) loc (.inl (if b < a then b else a) :: st) h else none) = some res) : W p l e R s m args below meth c H locs 0 0 Q (F0 m pc ls ((.inl b :: .inl a :: st : List q_V).map (q_v ad))) := by
  obtain ⟨hx, hb, hml, hown, hts⟩ := id hF
  have hno : ∀ e ∈ q_nes, e.2.2.1 ≠ 3 := by decide
  rw [Bool.or_eq_true] at hlk
  rcases hlk with hlk | hlk
  · obtain ⟨z, hz, z1, z2, z3⟩ := q_any4 hlk
    have hmw := q_mls_ok z hz
    rw [z1, z2, z3] at hmw
    have hmw : Cond.methodLink (q_cn own) idx Lib.Math.min.name ∈ lw_tblG := hmw
    cases hct : Nat.ble (q_ct st) 8 with
    | false => rw [hct] at hd; cases hd
    | true =>
      rw [hct] at hd
      have hle := Nat.le_of_ble_eq_true hct
      exact va_mmin hx hb (by rw [hml]; exact hL.2.choose_spec.1.1.symm) hown (hts _ hmw) (hts _ q_mis) (hts _ q_mii) (hts _ q_mic) (by rw [hR]; show 1 ≤ d + 1; omega) (by rw [q_ct_map, hR]; show q_ct st + 13 ≤ 30 * (d + 1); omega) (Nat.zero_le _) (Nat.zero_le _) hdg
        (hk _ _ _ _ H locs ls hd hP hS hL hV (q_oks_c trivial (q_oks_t (q_oks_t hT))))
  · obtain ⟨z, hz, z1, z2, z3⟩ := q_any4 hlk
    exact absurd z3 (hno z hz)
theorem q_cell_c {t1 k1 t k n : Nat} {h : q_H} (h0 : q_at t = 0) : q_ce ad cA (q_acp t1 k1 t k n h) (t, k, 0) = .inl (cA (q_at t), q_al t, .inl (va_cpy (fun j => h.1 t1 0 k1 j) (fun j => h.1 t 0 k j) 0 0 n)) := by
  rw [q_ce_a (q_at_fl (by omega)), q_ea0 (by omega)]
  congr 4
  funext z
  unfold q_acp va_cpy
  simp only [true_and, Nat.zero_le, Nat.zero_add, Nat.sub_zero]
theorem q_cell_cl {t1 k1 t k n : Nat} {h : q_H} (h0 : q_at t = 2) : q_ce ad cA (q_acl t1 k1 t k n h) (t, k, 0) = .inl (cA (q_at t), q_al t, .inr (.inl (va_cpy (fun j => h.2 t1 0 k1 j) (fun j => h.2 t 0 k j) 0 0 n))) := by
  rw [q_ce_a (q_at_fl (by omega)), q_ea2 (by omega)]
  congr 5
  funext z
  unfold q_acl va_cpy
  simp only [true_and, Nat.zero_le, Nat.zero_add, Nat.sub_zero]
set_option maxHeartbeats 1000000 in
theorem q_s_copy (hF : q_FX p s m args c cc own nL) (hR : R = q_rm (d + 1)) (hC : q_Cx dom ad cA tys A) (hK : va_K D vwCl tys s) {Q : State → Prop} {res : q_O} {k : q_K} {pc idx t1 k1 i1 t2 k2 i2 : Nat} {n a b : Int32} {loc : q_L} {st : List q_V} {h : q_H} {H : Heap} {locs : List Loc} {ls : Array Slot}
    (hk : q_KK p l e R s m args below meth c Q D dom ad cA A nL res k) (hP : va_P D vwCl (q_ws dom ad cA h) H) (hS : va_S A s.heap H locs) (hL : q_LR ad nL loc ls) (hV : q_okl dom loc) (hT : q_oks dom (.inl n :: .inl b :: .inr (.inr (t2, k2, i2)) :: .inl a :: .inr (.inr (t1, k1, i1)) :: st))
    (hlk : (Nat.beq own 8 && Nat.beq idx 410 || Nat.beq own 7 && Nat.beq idx 53) = true) (hdg : decode cc pc = .ok (.invokestatic idx, 3))
    (hd : (bif Nat.ble (q_ct st) 8 && a == 0 && (b == 0 && (decide (0 ≤ n) && (Nat.ble n.toNatClampNeg (q_al t1) && Nat.ble n.toNatClampNeg (q_al t2)))) then
          (bif Nat.beq (q_at t1) 0 && Nat.beq (q_at t2) 0 then k (pc + 3) loc st (q_acp t1 k1 t2 k2 n.toNatClampNeg h)
          else bif Nat.beq (q_at t1) 2 && Nat.beq (q_at t2) 2 then k (pc + 3) loc st (q_acl t1 k1 t2 k2 n.toNatClampNeg h) else none) else none) = some res) :
    W p l e R s m args below meth c H locs 0 0 Q (F0 m pc ls ((.inl n :: .inl b :: .inr (.inr (t2, k2, i2)) :: .inl a :: .inr (.inr (t1, k1, i1)) :: st : List q_V).map (q_v ad))) := by
  obtain ⟨hx, hb, hml, hown, hts⟩ := id hF
  have hlink : (Cond.methodLink (q_cn own) idx arraycopyName).before args s = true := by
    rw [Bool.or_eq_true] at hlk
    rcases hlk with hlk | hlk
    · rw [Bool.and_eq_true] at hlk
      have e1 := Nat.eq_of_beq_eq_true hlk.1
      have e2 := Nat.eq_of_beq_eq_true hlk.2
      subst e1; subst e2
      exact hts _ q_ac8
    · rw [Bool.and_eq_true] at hlk
      have e1 := Nat.eq_of_beq_eq_true hlk.1
      have e2 := Nat.eq_of_beq_eq_true hlk.2
      subst e1; subst e2
      exact hts _ q_ac7
  cases hg : (Nat.ble (q_ct st) 8 && a == 0 && (b == 0 && (decide (0 ≤ n) && (Nat.ble n.toNatClampNeg (q_al t1) && Nat.ble n.toNatClampNeg (q_al t2))))) with
  | false => rw [hg] at hd; cases hd
  | true =>
    rw [hg] at hd
    simp only [cond_true] at hd
    simp only [Bool.and_eq_true, beq_iff_eq, decide_eq_true_eq] at hg
    obtain ⟨⟨g1, g2⟩, g3, g4, g5, g6⟩ := hg
    have g1 := Nat.le_of_ble_eq_true g1
    have g5 := Nat.le_of_ble_eq_true g5
    have g6 := Nat.le_of_ble_eq_true g6
    subst g2; subst g3
    have hTs : q_oks dom st := q_oks_t (q_oks_t (q_oks_t (q_oks_t (q_oks_t hT))))
    have hv2 : q_okv dom (.inr (.inr (t2, k2, i2))) := q_oks_h (q_oks_t (q_oks_t hT))
    have hv1 : q_okv dom (.inr (.inr (t1, k1, i1))) := q_oks_h (q_oks_t (q_oks_t (q_oks_t (q_oks_t hT))))
    have hfr : 1 ≤ R.frames := by rw [hR]; show 1 ≤ d + 1; omega
    have hlo : ((st.map (q_v ad)).map fun v => v.category).sum + (nativeFrameWords "java/lang/System" "arraycopy" 5 + 11) ≤ R.locals := by
      rw [q_ct_map, hR]
      have e : nativeFrameWords "java/lang/System" "arraycopy" 5 = 7 := by decide
      rw [e]
      show q_ct st + (7 + 11) ≤ 30 * (d + 1)
      omega
    have hmls : c.maxLocals = ls.size := by rw [hml]; exact hL.2.choose_spec.1.1.symm
    have n0 : ¬ n < 0 := by rw [Int32.not_lt]; exact g4
    cases hA : (Nat.beq (q_at t1) 0 && Nat.beq (q_at t2) 0) with
    | true =>
      rw [hA] at hd
      simp only [cond_true] at hd
      rw [Bool.and_eq_true] at hA
      have a1 := Nat.eq_of_beq_eq_true hA.1
      have a2 := Nat.eq_of_beq_eq_true hA.2
      have r1 : (t1, k1, i1) ∈ dom := q_okd hv1 (fun z => by subst z; revert a1; decide)
      have r2 : (t2, k2, i2) ∈ dom := q_okd hv2 (fun z => by subst z; revert a2; decide)
      obtain ⟨y1, ⟨u1, hu1⟩, q1, hd1, hq1⟩ := q_arr hC r1 (by omega)
      obtain ⟨y2, ⟨u2, hu2⟩, q2, hd2, hq2⟩ := q_arr hC r2 (by omega)
      subst y1; subst y2
      have m1 := hq1 h
      have m2 := hq2 h
      rw [q_ea0 (by omega), a1] at m1
      rw [q_ea0 (by omega), a2] at m2
      rw [a1] at hu1
      rw [a2] at hu2
      refine va_copyi hx hb hmls hown hlink (hts _ q_acn) (hts _ q_acs) (hts _ q_aci) hK hP (q_hD hC h) hS q1 q2 u1 u2 m1 m2 hu1 hu2 rfl (by decide) (by decide) n0 (by show 0 + n.toNatClampNeg ≤ q_al t1; omega) (by show 0 + n.toNatClampNeg ≤ q_al t2; omega) (fun _ _ => rfl) hfr hlo hdg (fun H1 locs1 hP1 _ hS1 => ?_)
      rw [q_ws_set hC.2.1 hd2 (by rw [q_cell_c a2, a2]; rfl) (q_ce_acp (q_zero hC) (q_at_fl (by omega)))] at hP1
      exact hk _ _ _ _ H1 locs1 ls hd hP1 hS1 hL hV hTs
    | false =>
      rw [hA] at hd
      simp only [cond_false] at hd
      cases hB : (Nat.beq (q_at t1) 2 && Nat.beq (q_at t2) 2) with
      | false => rw [hB] at hd; cases hd
      | true =>
        rw [hB] at hd
        simp only [cond_true] at hd
        rw [Bool.and_eq_true] at hB
        have a1 := Nat.eq_of_beq_eq_true hB.1
        have a2 := Nat.eq_of_beq_eq_true hB.2
        have r1 : (t1, k1, i1) ∈ dom := q_okd hv1 (fun z => by subst z; revert a1; decide)
        have r2 : (t2, k2, i2) ∈ dom := q_okd hv2 (fun z => by subst z; revert a2; decide)
        obtain ⟨y1, ⟨u1, hu1⟩, q1, hd1, hq1⟩ := q_arr hC r1 (by omega)
        obtain ⟨y2, ⟨u2, hu2⟩, q2, hd2, hq2⟩ := q_arr hC r2 (by omega)
        subst y1; subst y2
        have m1 := hq1 h
        have m2 := hq2 h
        rw [q_ea2 (by omega), a1] at m1
        rw [q_ea2 (by omega), a2] at m2
        rw [a1] at hu1
        rw [a2] at hu2
        refine va_copyl hx hb hmls hown hlink (hts _ q_acn) (hts _ q_acs) (hts _ q_aci) hK hP (q_hD hC h) hS q1 q2 u1 u2 m1 m2 hu1 hu2 rfl (by decide) (by decide) n0 (by show 0 + n.toNatClampNeg ≤ q_al t1; omega) (by show 0 + n.toNatClampNeg ≤ q_al t2; omega) (fun _ _ => rfl) hfr hlo hdg (fun H1 locs1 hP1 _ hS1 => ?_)
        rw [q_ws_set hC.2.1 hd2 (by rw [q_cell_cl a2, a2]; rfl) (q_ce_acl (q_zero hC) (q_at_fl (by omega)))] at hP1
        exact hk _ _ _ _ H1 locs1 ls hd hP1 hS1 hL hV hTs
end q_SO
