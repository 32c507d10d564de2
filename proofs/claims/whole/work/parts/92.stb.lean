/-! stubs go, by batches: how a store does it -/
def g_sb (A : g_A) (s : Nat) : Bool := g_iv A s && decide (A 1 s 0 = 3)
def g_sL (A : g_A) (i : Nat) : List Nat := (List.range i).filter (g_sb A)
def g_iX (L : List Nat) (s : Nat) : Bool := decide (s ∈ L)
def g_fl (A : g_A) (L : List Nat) : Nat := (g_kp A (g_iX L)).length
def g_ps1 (D : g_A) (g : Nat) : g_A := g_tell (g_au (g_au D 0 12 0 (D 0 12 0 + 1)) 0 13 0 (g_au D 0 12 0 (D 0 12 0 + 1) 0 13 0 + nI g)) 4 (nI g)
def g_pd (A : g_A) (L : List Nat) (b : Nat) (q : Nat) : g_A := match q with | 0 => A | q + 1 => g_ps1 (g_pd A L b q) (g_fl A (L.take (q * b)) - g_fl A (L.take (q * b + b)))
theorem g_pd_s (A : g_A) (L : List Nat) (b q : Nat) : g_pd A L b (q + 1) = g_ps1 (g_pd A L b q) (g_fl A (L.take (q * b)) - g_fl A (L.take (q * b + b))) := rfl
def g_Q (b n : Nat) : Nat := if n % b = 0 then n / b else n / b + 1
theorem g_Q_0 {b q : Nat} (hb : 0 < b) : g_Q b (q * b) = q := by
  unfold g_Q
  rw [if_pos (Nat.mul_mod_left q b), Nat.mul_div_cancel _ hb]
theorem g_Q_x {b q x : Nat} (hx : x < b) (h0 : 0 < x) : g_Q b (q * b + x) = q + 1 := by
  unfold g_Q
  have e1 : (q * b + x) / b = q := by rw [Nat.mul_comm, Nat.mul_add_div (by omega), Nat.div_eq_of_lt hx, Nat.add_zero]
  have e2 : (q * b + x) % b = x := by rw [Nat.mul_comm, Nat.mul_add_mod, Nat.mod_eq_of_lt hx]
  rw [e2, if_neg (by omega), e1]
theorem g_fl_le {A : g_A} {L L' : List Nat} (h : ∀ s, s ∈ L → s ∈ L') : g_fl A L' ≤ g_fl A L := by
  unfold g_fl g_kp
  rw [← List.countP_eq_length_filter, ← List.countP_eq_length_filter]
  refine List.countP_mono_left (fun i _ q => ?_)
  unfold g_iX at q ⊢
  simp only [Bool.not_eq_true', decide_eq_false_iff_not] at q ⊢
  exact fun z => q (h _ z)
theorem g_sL_s {A : g_A} {i : Nat} : g_sL A (i + 1) = g_sL A i ++ (if g_sb A i = true then [i] else []) := by
  unfold g_sL
  rw [List.range_succ, List.filter_append]
  congr 1
  by_cases c : g_sb A i = true
  · rw [if_pos c, List.filter_cons_of_pos c]; rfl
  · rw [if_neg c, List.filter_cons_of_neg c]; rfl
theorem g_sL_p {A : g_A} {i : Nat} : ∀ d, g_sL A i <+: g_sL A (i + d) := by
  intro d
  induction d with
  | zero => exact List.prefix_refl _
  | succ d ih =>
    rw [← Nat.add_assoc, g_sL_s]
    exact ih.trans (List.prefix_append _ _)
theorem g_sL_t {A : g_A} {i n : Nat} (h : i ≤ n) : (g_sL A n).take (g_sL A i).length = g_sL A i := by
  have := g_sL_p (A := A) (i := i) (n - i)
  rw [show i + (n - i) = n by omega] at this
  exact (List.prefix_iff_eq_take.mp this).symm
theorem g_sL_m {A : g_A} {i s : Nat} : s ∈ g_sL A i ↔ s < i ∧ g_sb A s = true := by
  unfold g_sL
  rw [List.mem_filter, List.mem_range]
theorem g_sL_l {A : g_A} {i : Nat} : (g_sL A i).length ≤ i := by
  have := List.length_filter_le (g_sb A) (List.range i)
  rw [List.length_range] at this
  exact this
theorem r_s_k3 {S : g_S} {A : g_A} {s : Nat} (h : r_s S A s) : S.1 3 0 s = 3 ↔ g_sb A s = true := by
  unfold g_sb
  cases f : g_fu A s with
  | true =>
    have k := (g_fu_iv f).2
    rw [(h.1 f).1, k]
    refine ⟨fun q => absurd q (by decide), fun q => ?_⟩
    simp only [Bool.and_eq_true, decide_eq_true_iff] at q
    exact absurd q.2 (by decide)
  | false =>
    rw [(h.2 f).1]
    by_cases i : g_iv A s = true
    · rw [if_pos i, i, Bool.true_and, decide_eq_true_iff]
    · rw [if_neg i, Bool.eq_false_iff.mpr i]
      exact ⟨fun q => absurd q (by decide), fun q => by cases q⟩
theorem c_tellPass {H : q_H} {k g : Nat} {D : g_A} (h : r_l (g_st H k) D ∧ g_wg D) : ∃ S', St_tellPass k (nI g) H = some (g_cw H k S') ∧ (r_l S' (g_ps1 D g) ∧ g_wg (g_ps1 D g)) ∧ (∀ t f i, t ≠ 15 → t ≠ 16 → t ≠ 17 → t ≠ 18 → S'.1 t f i = (g_st H k).1 t f i) ∧ S'.2 = (g_st H k).2 := by
  unfold St_tellPass
  rw [show (3 : Int32) = nI 3 from rfl, show (4 : Int32) = nI 4 from rfl, c_count (by omega)]
  simp only [Option.bind_some]
  rw [c_count (by omega), g_cw_rd, g_st_cw, g_cw_cw]
  simp only [Option.bind_some]
  rw [c_tell, g_st_cw, g_cw_cw]
  simp only [Option.bind_some]
  have l2 := r_l_count (j := 3) (v := 1) h.1 (by omega)
  have l3 := r_l_count (j := 4) (v := nI g) l2 (by omega)
  have w3 : g_wg (g_au (g_au D 0 12 0 (D 0 12 0 + 1)) 0 13 0 (g_au D 0 12 0 (D 0 12 0 + 1) 0 13 0 + nI g)) := h.2
  refine ⟨_, rfl, ⟨r_l_tell (kd := nI 4) (nm := nI g) l3 w3, (g_tell_nv w3).1⟩, fun t f i a b c d => ?_, rfl⟩
  rw [g_tellS_t a b c, g_su_t (by omega), g_su_t (by omega)]
theorem c_clearStubs {H : q_H} {k b : Nat} {A : g_A} (hwi : g_wi A) (hb : 1 ≤ b) (hb8 : b ≤ 8) (h05 : H.1 0 5 k 0 = nI b) (rs : ∀ s, s < 60 → r_s (g_st H k) A s) (ri : r_i (g_st H k) A) (rl : r_l (g_st H k) A ∧ g_wg A) :
    ∃ S', St_clearStubs k H = some (nI (g_sL A 60).length, g_cw H k S') ∧ r_k S' A (g_kp A (g_iX (g_sL A 60))) ∧ (r_l S' (g_pd A (g_sL A 60) b (g_Q b (g_sL A 60).length)) ∧ g_wg (g_pd A (g_sL A 60) b (g_Q b (g_sL A 60).length))) ∧ (∀ f s, S'.1 3 f s = if s ∈ g_sL A 60 then (g_emp (g_st H k) s 0).1 3 f s else (g_st H k).1 3 f s) ∧ (∀ t f i, t ≠ 3 → (t < 11 ∨ 18 < t) → S'.1 t f i = (g_st H k).1 t f i) ∧ S'.2 = (g_st H k).2 := by
  unfold St_clearStubs
  obtain ⟨p, e, hp⟩ := g_lpH (body := fun s1 : Int32 × Int32 × Int32 × Int32 × q_H => (if (60 : Int32) ≤ s1.2.2.2.1 then (some (.inr ((s1.1, s1.2.1, s1.2.2.1, s1.2.2.2.2)))) else ((Pg_at k s1.2.2.2.1 s1.2.2.2.2).bind fun x9 => Option.bind (α := Int32 × Int32 × Int32 × q_H) (if (s1.2.2.2.2.1 3 0 k x9) = (3 : Int32) then ((Ix_dropAllTo k s1.2.2.2.1 s1.2.2.2.2).bind fun x15 => (Pg_at k s1.2.2.2.1 x15.2).bind fun x17 => (Sl_empty k x17 (0 : Int32) x15.2).bind fun x19 => if (s1.2.1 + (1 : Int32)) < (x19.1 0 5 k 0) then (some (((s1.1 + (1 : Int32)), (s1.2.1 + (1 : Int32)), (s1.2.2.1 + x15.1), x19))) else ((St_tellPass k (s1.2.2.1 + x15.1) x19).bind fun x21 => some (((s1.1 + (1 : Int32)), (0 : Int32), (0 : Int32), x21)))) else (some ((s1.1, s1.2.1, s1.2.2.1, s1.2.2.2.2)))) (fun p25 => some (.inl (p25.1, p25.2.1, p25.2.2.1, (s1.2.2.2.1 + (1 : Int32)), p25.2.2.2)))) : Option ((Int32 × Int32 × Int32 × Int32 × q_H) ⊕ (Int32 × Int32 × Int32 × q_H))))
    (fun i z => ∃ (q x : Nat) (T : g_S), z = (nI (g_sL A i).length, nI x, nI (g_fl A ((g_sL A 60).take (q * b)) - g_fl A (g_sL A i)), nI i, g_cw H k T) ∧ (g_sL A i).length = q * b + x ∧ x < b ∧ r_k T A (g_kp A (g_iX (g_sL A i))) ∧ (r_l T (g_pd A (g_sL A 60) b q) ∧ g_wg (g_pd A (g_sL A 60) b q)) ∧ (∀ f s, T.1 3 f s = if s ∈ g_sL A i then (g_emp (g_st H k) s 0).1 3 f s else (g_st H k).1 3 f s) ∧ (∀ t f i, t ≠ 3 → (t < 11 ∨ 18 < t) → T.1 t f i = (g_st H k).1 t f i) ∧ T.2 = (g_st H k).2)
    (fun r => ∃ (q x : Nat) (T : g_S), r = (nI (g_sL A 60).length, nI x, nI (g_fl A ((g_sL A 60).take (q * b)) - g_fl A (g_sL A 60)), g_cw H k T) ∧ (g_sL A 60).length = q * b + x ∧ x < b ∧ r_k T A (g_kp A (g_iX (g_sL A 60))) ∧ (r_l T (g_pd A (g_sL A 60) b q) ∧ g_wg (g_pd A (g_sL A 60) b q)) ∧ (∀ f s, T.1 3 f s = if s ∈ g_sL A 60 then (g_emp (g_st H k) s 0).1 3 f s else (g_st H k).1 3 f s) ∧ (∀ t f i, t ≠ 3 → (t < 11 ∨ 18 < t) → T.1 t f i = (g_st H k).1 t f i) ∧ T.2 = (g_st H k).2) 60
    (fun i z hi ⟨q, x, T, e, hm, hx, hk, hl, h3, ho, h2⟩ => by
      subst e
      dsimp only
      rw [if_neg (show ¬ (60 : Int32) ≤ nI i from nI_ge (b := 60) hi (by decide)), c_at hi]
      simp only [Option.bind_some]
      have hni : ¬ i ∈ g_sL A i := fun q => absurd (g_sL_m.mp q).1 (Nat.lt_irrefl _)
      rw [g_cw_rd, h3 0 i, if_neg hni]
      have hls := g_sL_s (A := A) (i := i)
      by_cases c : g_sb A i = true
      · rw [if_pos c] at hls
        rw [if_pos ((r_s_k3 (rs i hi)).mpr c)]
        have hfk : g_kl A (g_kp A (g_iX (g_sL A i))) (fun x => decide (x = i)) = g_kp A (g_iX (g_sL A (i + 1))) := by
          rw [g_kl_kp]
          congr 1
          funext s
          unfold g_iX
          rw [hls, Bool.eq_iff_iff]
          simp only [Bool.or_eq_true, decide_eq_true_iff, List.mem_append, List.mem_singleton]
        have h60 : (g_kp A (g_iX (g_sL A i))).length ≤ 60 := Nat.le_trans g_kp_le hwi.2.1
        obtain ⟨T1, e1, k1, o1, l1⟩ := c_drop (H := g_cw H k T) (k := k) (A := A) (K := g_kp A (g_iX (g_sL A i))) (s := i) hi hwi (fun j hj => g_kp_lt hj) h60 (by rw [g_st_cw]; exact hk)
        rw [g_st_cw] at o1 l1
        rw [hfk] at e1 k1
        rw [e1, g_cw_cw]
        simp only [Option.bind_some]
        rw [c_at hi]
        simp only [Option.bind_some]
        rw [c_empty, g_st_cw, g_cw_cw]
        simp only [Option.bind_some]
        have e05 : (g_cw H k (g_emp T1 i 0)).1 0 5 k 0 = nI b := by
          rw [g_cw_rd, g_emp_t (by omega), o1 _ _ _ (by omega) (by omega) (by omega) (by omega), ho _ _ _ (by omega) (by omega)]
          exact h05
        rw [e05, nI_1, nI_1, nI_1]
        have mono1 : g_fl A (g_sL A (i + 1)) ≤ g_fl A (g_sL A i) := g_fl_le (fun s hs => by rw [hls]; exact List.mem_append_left _ hs)
        have htk := g_sL_t (A := A) (i := i) (n := 60) (by omega)
        have htk1 := g_sL_t (A := A) (i := i + 1) (n := 60) (by omega)
        have mono2 : g_fl A (g_sL A i) ≤ g_fl A ((g_sL A 60).take (q * b)) := by
          refine g_fl_le (fun s hs => ?_)
          rw [← htk, hm]
          exact (List.take_subset_take_left _ (Nat.le_add_right _ _)) hs
        have egone : nI (g_fl A ((g_sL A 60).take (q * b)) - g_fl A (g_sL A i)) + nI ((g_kp A (g_iX (g_sL A i))).length - (g_kp A (g_iX (g_sL A (i + 1)))).length) = nI (g_fl A ((g_sL A 60).take (q * b)) - g_fl A (g_sL A (i + 1))) := by
          rw [nI_add]
          congr 1
          unfold g_fl at mono1 mono2 ⊢
          omega
        rw [egone]
        have hlen : (g_sL A (i + 1)).length = (g_sL A i).length + 1 := by rw [hls, List.length_append]; rfl
        have k2 : ∀ {T2 : g_S}, (∀ t f y, t < 15 ∨ 18 < t → T2.1 t f y = (g_emp T1 i 0).1 t f y) → r_k T2 A (g_kp A (g_iX (g_sL A (i + 1)))) := fun {T2} hT => by
          refine ⟨?_, fun j hj => ?_⟩
          · rw [hT _ _ _ (by omega), g_emp_t (by omega)]; exact k1.1
          · rw [hT _ _ _ (by omega), hT _ _ _ (by omega), hT _ _ _ (by omega), g_emp_t (by omega), g_emp_t (by omega), g_emp_t (by omega)]
            exact k1.2 j hj
        have s2 : ∀ {T2 : g_S}, (∀ t f y, t < 15 ∨ 18 < t → T2.1 t f y = (g_emp T1 i 0).1 t f y) → ∀ f s, T2.1 3 f s = if s ∈ g_sL A (i + 1) then (g_emp (g_st H k) s 0).1 3 f s else (g_st H k).1 3 f s := fun {T2} hT f s => by
          rw [hT _ _ _ (by omega)]
          have hT1 : ∀ s, T1.1 3 f s = T.1 3 f s := fun s => o1 _ _ _ (by omega) (by omega) (by omega) (by omega)
          by_cases d : s = i
          · subst d
            rw [if_pos (by rw [hls]; exact List.mem_append_right _ (List.mem_singleton.mpr rfl))]
            unfold g_emp
            dsimp only
            by_cases f11 : f ≤ 11
            · have hc : (3 = 3 ∧ s = s ∧ f ≤ 11) := ⟨rfl, rfl, f11⟩
              rw [if_pos hc, if_pos hc]
            · rw [if_neg (fun q => f11 q.2.2), if_neg (fun q => f11 q.2.2), hT1, h3, if_neg hni]
          · rw [g_emp_n d, hT1, h3]
            by_cases g : s ∈ g_sL A i
            · rw [if_pos g, if_pos (by rw [hls]; exact List.mem_append_left _ g)]
            · rw [if_neg g, if_neg (by
                rw [hls]
                intro q
                rcases List.mem_append.mp q with q | q
                · exact g q
                · exact d (List.mem_singleton.mp q))]
        have o2 : ∀ {T2 : g_S}, (∀ t f y, t < 15 ∨ 18 < t → T2.1 t f y = (g_emp T1 i 0).1 t f y) → ∀ t f i, t ≠ 3 → (t < 11 ∨ 18 < t) → T2.1 t f i = (g_st H k).1 t f i := fun {T2} hT t f j a c => by
          rw [hT _ _ _ (by omega), g_emp_t a, o1 _ _ _ (by omega) (by omega) (by omega) (by omega), ho _ _ _ a c]
        have hlE : r_l (g_emp T1 i 0) (g_pd A (g_sL A 60) b q) ∧ g_wg (g_pd A (g_sL A 60) b q) := r_l_eq hl (fun t f i ht => by rw [g_emp_t (by omega), o1 _ _ _ (by omega) (by omega) (by omega) (by omega)]) rfl (fun _ _ => rfl) (fun _ _ => rfl)
        by_cases d : x + 1 < b
        · rw [if_pos (nI_lt d (by omega))]
          refine ⟨_, rfl, q, x + 1, g_emp T1 i 0, ?_, by omega, d, k2 (fun _ _ _ _ => rfl), hlE, s2 (fun _ _ _ _ => rfl), o2 (fun _ _ _ _ => rfl), ?_⟩
          · rw [hlen]
          · show T1.2 = _
            rw [l1, h2]
        · rw [if_neg (nI_nlt (by omega) (by omega))]
          obtain ⟨T2, e2, l2, o3, q2⟩ := c_tellPass (H := g_cw H k (g_emp T1 i 0)) (k := k) (g := g_fl A ((g_sL A 60).take (q * b)) - g_fl A (g_sL A (i + 1))) (D := g_pd A (g_sL A 60) b q) (by rw [g_st_cw]; exact hlE)
          rw [g_st_cw] at o3 q2
          rw [e2, g_cw_cw]
          simp only [Option.bind_some]
          have o3' : ∀ t f i', t < 15 ∨ 18 < t → T2.1 t f i' = (g_emp T1 i 0).1 t f i' := fun t f i' ht => o3 t f i' (by omega) (by omega) (by omega) (by omega)
          have eq1 : (q + 1) * b = q * b + b := Nat.succ_mul q b
          have em : (g_sL A (i + 1)).length = (q + 1) * b := by omega
          have et : (g_sL A 60).take ((q + 1) * b) = g_sL A (i + 1) := by rw [← em]; exact htk1
          have epd : g_pd A (g_sL A 60) b (q + 1) = g_ps1 (g_pd A (g_sL A 60) b q) (g_fl A ((g_sL A 60).take (q * b)) - g_fl A (g_sL A (i + 1))) := by
            rw [g_pd_s, ← eq1, et]
          refine ⟨_, rfl, q + 1, 0, T2, ?_, by omega, by omega, k2 o3', ?_, s2 o3', o2 o3', ?_⟩
          · rw [hlen, et, Nat.sub_self]; rfl
          · rw [epd]; exact l2
          · rw [q2]
            show T1.2 = _
            rw [l1, h2]
      · rw [if_neg c, List.append_nil] at hls
        rw [if_neg (fun q => c ((r_s_k3 (rs i hi)).mp q))]
        simp only [Option.bind_some]
        refine ⟨_, rfl, q, x, T, ?_, by rw [hls]; exact hm, hx, by rw [hls]; exact hk, hl, by rw [hls]; exact h3, ho, h2⟩
        rw [hls, nI_1])
    (fun z ⟨q, x, T, e, hm, hx, hk, hl, h3, ho, h2⟩ => by
      subst e
      dsimp only
      rw [if_pos (show (60 : Int32) ≤ nI 60 from Int32.le_refl _)]
      exact ⟨_, rfl, q, x, T, rfl, hm, hx, hk, hl, h3, ho, h2⟩) ((0 : Int32), (0 : Int32), (0 : Int32), (0 : Int32), H) q_fu (by unfold q_fu; omega)
    ⟨0, 0, g_st H k, by rw [g_cw_st, Nat.zero_mul, List.take_zero]; show _ = (nI 0, nI 0, nI (g_fl A [] - g_fl A []), nI 0, H); rw [Nat.sub_self]; rfl, by rw [Nat.zero_mul]; rfl, by omega, by
      have e0 : g_kp A (g_iX (g_sL A 0)) = List.range (g_ne A) := by
        unfold g_kp
        rw [List.filter_eq_self]
        intro a _
        rfl
      rw [e0]
      refine ⟨by rw [List.length_range]; exact ri.1.trans hwi.1, fun j hj => ?_⟩
      rw [List.length_range] at hj
      rw [List.getElem_range]
      exact ri.2 j hj, rl, fun f s => by rw [if_neg (fun q => absurd (g_sL_m.mp q).1 (by omega))], fun _ _ _ _ _ => rfl, rfl⟩
  obtain ⟨q, x, T, er, hm, hx, hk, hl, h3, ho, h2⟩ := hp
  have e' := e
  rw [er] at e'
  rw [e']
  simp only [Option.bind_some]
  by_cases d : x = 0
  · subst d
    rw [if_pos (show nI 0 ≤ 0 from Int32.le_refl _)]
    have eQ : g_Q b (g_sL A 60).length = q := by rw [hm, Nat.add_zero, g_Q_0 (by omega)]
    refine ⟨T, rfl, hk, by rw [eQ]; exact hl, h3, ho, h2⟩
  · rw [if_neg (nI_nle (by omega) (by omega))]
    obtain ⟨T2, e2, l2, o3, q2⟩ := c_tellPass (H := g_cw H k T) (k := k) (g := g_fl A ((g_sL A 60).take (q * b)) - g_fl A (g_sL A 60)) (D := g_pd A (g_sL A 60) b q) (by rw [g_st_cw]; exact hl)
    rw [g_st_cw] at o3 q2
    rw [e2, g_cw_cw]
    simp only [Option.bind_some]
    have eQ : g_Q b (g_sL A 60).length = q + 1 := by rw [hm, g_Q_x hx (by omega)]
    have et : (g_sL A 60).take (q * b + b) = g_sL A 60 := List.take_of_length_le (by omega)
    refine ⟨T2, rfl, ?_, ?_, fun f s => ?_, fun t f i a c => ?_, q2.trans h2⟩
    · refine ⟨?_, fun j hj => ?_⟩
      · rw [o3 _ _ _ (by omega) (by omega) (by omega) (by omega)]; exact hk.1
      · rw [o3 _ _ _ (by omega) (by omega) (by omega) (by omega), o3 _ _ _ (by omega) (by omega) (by omega) (by omega), o3 _ _ _ (by omega) (by omega) (by omega) (by omega)]
        exact hk.2 j hj
    · rw [eQ, g_pd_s, et]; exact l2
    · rw [o3 _ _ _ (by omega) (by omega) (by omega) (by omega)]; exact h3 f s
    · rw [o3 _ _ _ (by omega) (by omega) (by omega) (by omega)]; exact ho t f i a c
