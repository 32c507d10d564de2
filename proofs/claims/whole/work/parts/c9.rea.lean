/-! reads, best -/
theorem m_opnX {A : g_A} {h : q_H} {a : Int32} (wt : g_wt A) : ((Mo_isTxn a (g_ma h 31 A)).bind fun x7 => if ¬ x7 = 0 then ((Mo_isOpen a (g_ma h 31 A)).bind fun x9 => if ¬ x9 = 0 then (some ((0 : Int32))) else (some ((4 : Int32)))) else (some ((2 : Int32)))) = some (g_opn A a) := by
  rw [m_isTxn wt]
  simp only [Option.bind_some]
  cases c : g_tx A a with
  | false => rw [if_neg qn0, g_opn_0 c]
  | true =>
    obtain ⟨t, e, t1, t2⟩ := g_tx_t wt c
    have n61 := wt.2.2
    have ht : a.toNatClampNeg = t := by rw [e]; exact g_cl (by omega)
    rw [if_pos qn1]
    by_cases d : A 3 t 0 = 0
    · rw [g_opn_1 c (by rw [ht]; exact d), e, m_isOpen (by omega)]
      simp only [Option.bind_some]
      rw [show g_op A t = true from decide_eq_true d, if_pos qn1]
    · rw [g_opn_4 c (by rw [ht]; exact d), e, m_isOpen (by omega)]
      simp only [Option.bind_some]
      rw [show g_op A t = false from decide_eq_false d, if_neg qn0]
def g_rf (A : g_A) (key : Int32) (i : Nat) : Int32 := q_bi (decide (A 2 i 0 = key) && (decide (A 2 i 3 = 0) && !decide (A 0 (23 + g_ep A i / 10) 0 = 1)))
theorem g_loo_16 {t : Nat} {key : Int32} {A : g_A} (hep : ∀ i, i < g_ne A → g_ep A i < 60) : ∀ m, m ≤ g_ne A → g_i6 (g_las t key) (g_l0 A) m 0 16 0 = A 0 16 0 + g_sm (g_rf A key) 0 m ∧ (∀ j w, m ≤ j → g_i6 (g_las t key) (g_l0 A) m 2 j w = A 2 j w) ∧ ∀ p, p < 6 → g_i6 (g_las t key) (g_l0 A) m 0 (23 + p) 0 = A 0 (23 + p) 0 := by
  intro m
  induction m with
  | zero =>
    intro _
    refine ⟨?_, fun j w _ => g_l0_o (by omega), fun p hp => g_l0_o (by omega)⟩
    show g_l0 A 0 16 0 = A 0 16 0 + 0
    rw [g_l0_o (by omega), Int32.add_zero]
  | succ m ih =>
    intro hm
    obtain ⟨k1, k2, k3⟩ := ih (by omega)
    rw [g_i6_s]
    generalize g_i6 (g_las t key) (g_l0 A) m = B at k1 k2 k3 ⊢
    have ep : g_ep B m = g_ep A m := by unfold g_ep; rw [k2 m 1 (Nat.le_refl m), k2 m 2 (Nat.le_refl m)]
    have e60 := hep m (by omega)
    show g_las t key m B 0 16 0 = A 0 16 0 + (g_sm (g_rf A key) 0 m + g_rf A key (0 + m)) ∧ _
    rw [Nat.zero_add]
    refine ⟨?_, fun j w hj => ?_, fun p hp => (g_las_cl hp).trans (k3 p hp)⟩
    · by_cases c : B 2 m 0 = key ∧ B 2 m 3 = 0
      · rw [g_las_t c.1 c.2, g_lat_o (by omega) (by omega) (by omega) (by omega)]
        unfold g_lct
        rw [g_au_eq, k1, ep, k3 (g_ep A m / 10) (by omega), Int32.add_assoc]
        congr 2
        unfold g_rf
        rw [← k2 m 0 (Nat.le_refl m), ← k2 m 3 (Nat.le_refl m), decide_eq_true c.1, decide_eq_true c.2]; rfl
      · rw [g_las_f c, k1]
        have : g_rf A key m = 0 := by
          unfold g_rf
          rw [← k2 m 0 (Nat.le_refl m), ← k2 m 3 (Nat.le_refl m)]
          by_cases x : B 2 m 0 = key
          · rw [decide_eq_false (fun y => c ⟨x, y⟩), Bool.false_and, Bool.and_false]; rfl
          · rw [decide_eq_false x, Bool.false_and]; rfl
        rw [this, Int32.add_zero]
    · by_cases c : B 2 m 0 = key ∧ B 2 m 3 = 0
      · rw [g_las_t c.1 c.2, g_lat_o (by omega) (by omega) (by omega) (by omega), g_lct_o (by omega)]
        exact k2 j w (by omega)
      · rw [g_las_f c]; exact k2 j w (by omega)
theorem law_reads {b : Nat} {A : g_A} {H : q_H} {a key : Int32} (hW : g_W A) (hR : g_R b (g_st H 0) A) : g_law b A H (Rp_reads a key H) (Mo_reads_ a key) := by
  have wt := hW.1.1
  have wi := hW.2.1.1
  unfold Rp_reads
  rw [c_isWithin]
  simp only [Option.bind_some]
  cases c : g_in key 0 99 with
  | false =>
    rw [if_neg qn0, e_refuse]
    refine law_q hR hW (fun h _ => ?_)
    unfold Mo_reads_
    rw [m_isIn, c]
    simp only [Option.bind_some]
    rw [if_neg qn0, Option.bind_some, m_isA (by decide)]
    rfl
  | true =>
    have pm : ∀ h : q_H, Mo_reads_ a key (g_ma h 31 A) = ((Mo_is (g_opn A a) (g_ma h 31 A)).bind fun x15 => if ¬ x15.1 = 0 then ((Mo_copy 31 7 33 7 x15.2).bind fun x17 => (Mo_looks a key x17).bind fun x19 => (Mo_copy 33 7 31 7 x19.2).bind fun x21 => some ((((x19.2.1 31 0 7 16) - (x19.2.1 33 0 7 16)), x21))) else (some (((-1 : Int32), x15.2)))) := fun h => by
      unfold Mo_reads_
      rw [m_isIn, c]
      simp only [Option.bind_some]
      rw [if_pos qn1, m_opnX wt]
      rfl
    rw [if_pos qn1, c_asOpen hR.2.1 wt]
    simp only [Option.bind_some]
    by_cases o : g_opn A a = 0
    · obtain ⟨t, e, t1, t2, t3, t4⟩ := g_opn_t wt o
      rw [if_neg (fun q => q o), c_readsFor hR.2.2.2.2.2.1 hR.2.2.2.1 wi]
      simp only [Option.bind_some]
      rw [e_answer]
      refine law_q1 g_f1_rf hR hW (fun h _ => ⟨g_ma (g_s 0 h) 33 A, ?_, g_fM_tr g_s_M (g_fM_a (Or.inr rfl)), by rw [g_ma_ne (by decide), g_s_6]⟩)
      have k16 := (g_loo_16 (t := t) (key := key) (A := A) (fun i hi => (g_ep_lt wi hi).1) (g_ne A) (Nat.le_refl _)).1
      rw [pm, o, m_isA0]
      simp only [Option.bind_some]
      rw [if_pos q1n, m_copy1 (Or.inr (Or.inl rfl)), Option.bind_some, e, (m_looks hW t1).1]
      simp only [Option.bind_some]
      rw [m_copy2 (Or.inr (Or.inl rfl)), Option.bind_some, m_g (by omega), g_ma_ne (by decide), g_ma_rd (by omega), g_at0 (by omega)]
      unfold g_loo
      rw [k16, Int32.add_comm, Int32.add_sub_cancel]
      rfl
    · rw [if_pos o, e_refuse]
      refine law_q hR hW (fun h _ => ?_)
      rw [pm, m_isA o]
      rfl
def g_bst (A : g_A) (p : Nat) (x : Int32 × Int32) : Int32 × Int32 := if x.2 < g_fr (g_pr A p) p - g_fr A p then (nI p, g_fr (g_pr A p) p - g_fr A p) else x
theorem g_bst_01 {A : g_A} : ∀ n, n ≤ 6 → (g_it (g_bst A) 0 n (-1, 0)).1 = -1 ∨ ∃ p, p < 6 ∧ (g_it (g_bst A) 0 n (-1, 0)).1 = nI p := by
  intro n
  induction n with
  | zero => intro _; exact Or.inl rfl
  | succ n ih =>
    intro hn
    show (g_bst A (0 + n) (g_it (g_bst A) 0 n (-1, 0))).1 = -1 ∨ _
    rw [show g_it (g_bst A) 0 (n + 1) (-1, 0) = g_bst A (0 + n) (g_it (g_bst A) 0 n (-1, 0)) from rfl, Nat.zero_add]
    unfold g_bst
    by_cases c : (g_it (g_bst A) 0 n (-1, 0)).2 < g_fr (g_pr A n) n - g_fr A n
    · unfold g_bst at c
      rw [if_pos c]; exact Or.inr ⟨n, by omega, rfl⟩
    · unfold g_bst at c
      rw [if_neg c]; exact ih (by omega)
def g_bI (S' : g_S) (A : g_A) (i : Nat) : Prop := r_t S' A ∧ r_h S' A ∧ S'.1 1 4 0 = A 0 0 0 ∧ (∀ q, i ≤ q → q < 6 → ∀ j, j < 10 → r_s S' A (10 * q + j)) ∧ r_n S'
theorem c_bestLoop {b : Nat} {A : g_A} {H : q_H} {S1 : g_S} {X : Nat → Int32 × Int32} (h0 : X 0 = (-1, 0)) (hs : ∀ i, X (i + 1) = g_bst A i (X i)) (hW : g_W A) (hR : g_R b (g_st H 0) A) (hS : g_R b S1 A) : ∃ S', q_lp (fun s3 : Int32 × Int32 × Int32 × q_H => (if (6 : Int32) ≤ s3.2.2.1 then (some (.inr ((s3.1, s3.2.2.2)))) else ((St_prunePage 1 s3.2.2.1 s3.2.2.2).bind fun x11 => (Pg_freeOf 1 s3.2.2.1 x11.2).bind fun x13 => (Pg_freeOf 0 s3.2.2.1 x11.2).bind fun x15 => Option.bind (α := Int32 × Int32) (if (x13 - x15) ≤ s3.2.1 then (some ((s3.1, s3.2.1))) else (some ((s3.2.2.1, (x13 - x15))))) (fun p22 => some (.inl (p22.1, p22.2, (s3.2.2.1 + (1 : Int32)), x11.2)))) : Option ((Int32 × Int32 × Int32 × q_H) ⊕ (Int32 × q_H)))) q_fu (((-1 : Int32), (0 : Int32), (0 : Int32), g_cw H 1 S1) : Int32 × Int32 × Int32 × q_H) = some ((X 6).1, g_cw H 1 S') ∧ r_n S' := by
  obtain ⟨r, e, S', er, k⟩ := g_lpH (body := fun s3 : Int32 × Int32 × Int32 × q_H => (if (6 : Int32) ≤ s3.2.2.1 then (some (.inr ((s3.1, s3.2.2.2)))) else ((St_prunePage 1 s3.2.2.1 s3.2.2.2).bind fun x11 => (Pg_freeOf 1 s3.2.2.1 x11.2).bind fun x13 => (Pg_freeOf 0 s3.2.2.1 x11.2).bind fun x15 => Option.bind (α := Int32 × Int32) (if (x13 - x15) ≤ s3.2.1 then (some ((s3.1, s3.2.1))) else (some ((s3.2.2.1, (x13 - x15))))) (fun p22 => some (.inl (p22.1, p22.2, (s3.2.2.1 + (1 : Int32)), x11.2)))) : Option ((Int32 × Int32 × Int32 × q_H) ⊕ (Int32 × q_H))))
    (fun i z => ∃ S', z = ((X i).1, (X i).2, nI i, g_cw H 1 S') ∧ g_bI S' A i)
    (fun r => ∃ S', r = ((X 6).1, g_cw H 1 S') ∧ r_n S') 6
    (fun i z hi ⟨S', e, k1, k2, k3, k4, k5⟩ => by
      subst e
      dsimp only
      have w2 := (g_W_pr hW hi).1
      have f2 := (g_W_pr hW hi).2.1
      obtain ⟨S2, e2, c1, c2, c3, c4, c5, c6, c7⟩ := c_prunePage (H := g_cw H 1 S') (k := 1) hW.1 hi (by rw [g_st_cw]; exact k1) (by rw [g_st_cw]; exact k4 i (Nat.le_refl i) hi) (by rw [show (g_cw H 1 S').1 6 5 1 0 = (g_st (g_cw H 1 S') 1).1 6 5 0 from rfl, g_st_cw]; exact k2)
      rw [g_st_cw] at c2 c3
      rw [g_cw_cw] at e2
      have u2 : S2.1 1 4 0 = g_pr A i 0 0 0 := by
        rw [c2.1 1 4 0 (by decide) (by decide) (by decide) (by decide) (by decide) (by decide), g_fk_0 f2 (by decide)]; exact k3
      rw [if_neg (show ¬ (6 : Int32) ≤ nI i from nI_ge (b := 6) hi (by decide)), e2]
      simp only [Option.bind_some]
      rw [c_freeOf (H := g_cw H 1 S2) (k := 1) (A := g_pr A i) hi (by rw [show (g_cw H 1 S2).1 1 4 1 0 = (g_st (g_cw H 1 S2) 1).1 1 4 0 from rfl, g_st_cw]; exact u2) (by rw [g_st_cw]; exact c1)]
      simp only [Option.bind_some]
      rw [c_freeOf (H := g_cw H 1 S2) (k := 0) (A := A) hi (by rw [show (g_cw H 1 S2).1 1 4 0 0 = (g_st (g_cw H 1 S2) 0).1 1 4 0 from rfl, g_st_cn (by decide)]; exact hR.1.1) (by rw [g_st_cn (by decide)]; exact (hR.2.2.2.1 i hi).2.2)]
      simp only [Option.bind_some]
      have inv : g_bI S2 A (i + 1) := by
        refine ⟨r_t_ft k1 (fun t f j a c => c2.1 t f j (by omega) (by omega) (by omega) (by omega) (by omega) (by omega)) c2.2 ⟨fun _ _ => rfl, rfl⟩ (fun _ => rfl), ?_, ?_, fun q q1 q2 j hj => ?_, ?_⟩
        · show S2.1 6 5 0 = _
          rw [c2.1 6 5 0 (by decide) (by decide) (by decide) (by decide) (by decide) (by decide)]; exact k2
        · rw [c2.1 1 4 0 (by decide) (by decide) (by decide) (by decide) (by decide) (by decide)]; exact k3
        · have := k4 q (by omega) q2 j hj
          unfold r_s at this ⊢
          simp only [c3 _ (10 * q + j) (show (10 * q + j) / 10 ≠ i by omega)]
          exact this
        · unfold r_n at k5 ⊢
          simp only [c3 _ 60 (show 60 / 10 ≠ i from fun q => by rw [← q] at hi; exact absurd hi (by decide))]
          exact k5
      have st := hs i
      by_cases c : (X i).2 < g_fr (g_pr A i) i - g_fr A i
      · rw [if_neg (Int32.not_le.mpr c), Option.bind_some, nI_1]
        refine ⟨_, rfl, S2, ?_, inv⟩
        rw [st]
        have : g_bst A i (X i) = (nI i, g_fr (g_pr A i) i - g_fr A i) := if_pos c
        rw [this]
      · rw [if_pos (Int32.not_lt.mp c), Option.bind_some, nI_1]
        refine ⟨_, rfl, S2, ?_, inv⟩
        rw [st]
        have : g_bst A i (X i) = X i := if_neg c
        rw [this])
    (fun z ⟨S', e, k⟩ => by
      subst e
      exact ⟨_, rfl, S', rfl, k.2.2.2.2⟩)
    ((-1 : Int32), (0 : Int32), (0 : Int32), g_cw H 1 S1) q_fu (by decide) ⟨S1, by rw [h0] <;> rfl, hS.2.1, hS.2.2.1, hS.1.1, fun q _ q2 j hj => (hS.2.2.2.1 q q2).2.2 j hj, hS.2.2.2.2.1⟩
  exact ⟨S', by rw [e, er], k⟩
theorem m_bestLoop {A : g_A} {h : q_H} {X : Nat → Int32 × Int32} (h0 : X 0 = (-1, 0)) (hs : ∀ i, X (i + 1) = g_bst A i (X i)) (hW : g_W A) : ∃ hh, q_lp (fun s3 : Int32 × Int32 × Int32 × q_H => (if (6 : Int32) ≤ s3.2.2.1 then (some (.inr ((s3.1, s3.2.2.2)))) else ((Mo_copy 31 7 33 7 s3.2.2.2).bind fun x11 => (Mo_freeIn s3.2.2.1 x11).bind fun x13 => (Mo_prunes s3.2.2.1 x11).bind fun x15 => (Mo_freeIn s3.2.2.1 x15.2).bind fun x17 => (Mo_copy 33 7 31 7 x15.2).bind fun x19 => Option.bind (α := Int32 × Int32) (if s3.2.1 < (x17 - x13) then (some ((s3.2.2.1, (x17 - x13)))) else (some ((s3.1, s3.2.1)))) (fun p26 => some (.inl (p26.1, p26.2, (s3.2.2.1 + (1 : Int32)), x19)))) : Option ((Int32 × Int32 × Int32 × q_H) ⊕ (Int32 × q_H)))) q_fu (((-1 : Int32), (0 : Int32), (0 : Int32), g_ma h 31 A) : Int32 × Int32 × Int32 × q_H) = some ((X 6).1, g_ma hh 31 A) ∧ g_fM h hh ∧ hh.1 30 6 7 0 = h.1 30 6 7 0 := by
  obtain ⟨r, e, hh, er, k⟩ := g_lpH (body := fun s3 : Int32 × Int32 × Int32 × q_H => (if (6 : Int32) ≤ s3.2.2.1 then (some (.inr ((s3.1, s3.2.2.2)))) else ((Mo_copy 31 7 33 7 s3.2.2.2).bind fun x11 => (Mo_freeIn s3.2.2.1 x11).bind fun x13 => (Mo_prunes s3.2.2.1 x11).bind fun x15 => (Mo_freeIn s3.2.2.1 x15.2).bind fun x17 => (Mo_copy 33 7 31 7 x15.2).bind fun x19 => Option.bind (α := Int32 × Int32) (if s3.2.1 < (x17 - x13) then (some ((s3.2.2.1, (x17 - x13)))) else (some ((s3.1, s3.2.1)))) (fun p26 => some (.inl (p26.1, p26.2, (s3.2.2.1 + (1 : Int32)), x19)))) : Option ((Int32 × Int32 × Int32 × q_H) ⊕ (Int32 × q_H))))
    (fun i z => ∃ hh, z = ((X i).1, (X i).2, nI i, g_ma hh 31 A) ∧ g_fM h hh ∧ hh.1 30 6 7 0 = h.1 30 6 7 0)
    (fun r => ∃ hh, r = ((X 6).1, g_ma hh 31 A) ∧ g_fM h hh ∧ hh.1 30 6 7 0 = h.1 30 6 7 0) 6
    (fun i z hi ⟨hh, e, k1, k2⟩ => by
      subst e
      dsimp only
      have w2 := (g_W_pr hW hi).1
      rw [if_neg (show ¬ (6 : Int32) ≤ nI i from nI_ge (b := 6) hi (by decide)), m_copy1 (Or.inr (Or.inl rfl))]
      simp only [Option.bind_some]
      rw [m_freeIn hW.1.2.2.1 hi, Option.bind_some, m_prunes hW.1 hi, Option.bind_some]
      dsimp only
      rw [m_freeIn w2.1.2.2.1 hi, Option.bind_some, m_copy2 (Or.inr (Or.inl rfl)), Option.bind_some]
      have st := hs i
      have inv : g_fM h (g_ma hh 33 A) ∧ (g_ma hh 33 A).1 30 6 7 0 = h.1 30 6 7 0 := ⟨g_fM_tr k1 (g_fM_a (Or.inr rfl)), by rw [g_ma_ne (by decide)]; exact k2⟩
      by_cases c : (X i).2 < g_fr (g_pr A i) i - g_fr A i
      · rw [if_pos c, Option.bind_some, nI_1]
        refine ⟨_, rfl, g_ma hh 33 A, ?_, inv⟩
        rw [st]
        have : g_bst A i (X i) = (nI i, g_fr (g_pr A i) i - g_fr A i) := if_pos c
        rw [this]
      · rw [if_neg c, Option.bind_some, nI_1]
        refine ⟨_, rfl, g_ma hh 33 A, ?_, inv⟩
        rw [st]
        have : g_bst A i (X i) = X i := if_neg c
        rw [this])
    (fun z ⟨hh, e, k⟩ => by
      subst e
      exact ⟨_, rfl, hh, rfl, k⟩)
    ((-1 : Int32), (0 : Int32), (0 : Int32), g_ma h 31 A) q_fu (by decide) ⟨h, by rw [h0] <;> rfl, g_fM_rf, rfl⟩
  exact ⟨hh, by rw [e, er], k⟩
theorem law_best {b : Nat} {A : g_A} {H : q_H} (hW : g_W A) (hR : g_R b (g_st H 0) A) (hn : r_n (g_st H 1)) : g_law b A H (Rp_best H) Mo_best := by
  have hS1 : g_R b (g_cpS (g_st H 1) (g_st H 0)) A := g_R_cp hR hn hW
  have q01 := g_bst_01 (A := A) 6 (Nat.le_refl 6)
  obtain ⟨X, hX, x0, xs⟩ : ∃ X : Nat → Int32 × Int32, (∀ i, X i = g_it (g_bst A) 0 i (-1, 0)) ∧ X 0 = (-1, 0) ∧ ∀ i, X (i + 1) = g_bst A i (X i) := ⟨fun i => g_it (g_bst A) 0 i (-1, 0), fun _ => rfl, rfl, fun i => by
    show g_bst A (0 + i) _ = _
    rw [Nat.zero_add]⟩
  rw [← hX] at q01
  obtain ⟨S', e, k⟩ := c_bestLoop x0 xs hW hR hS1
  unfold Rp_best
  rw [c_copyFrom (by decide) (g_R_01 hR hW.1.2.2.2.1)]
  simp only [Option.bind_some]
  rw [e]
  simp only [Option.bind_some]
  rcases q01 with q | ⟨p, hp, q⟩
  · rw [q, if_neg (by decide), e_refuse]
    refine law_q1 (g_f1_cw (fun _ => k)) hR hW (fun h _ => ?_)
    obtain ⟨hh, e2, f, s⟩ := m_bestLoop (h := g_s 0 h) x0 xs hW
    refine ⟨q_si hh 30 6 7 0 5, ?_, g_fM_tr g_s_M (g_fM_tr f (g_fM_si (Or.inl rfl))), g_rd_e⟩
    unfold Mo_best
    rw [m_isA0]
    simp only [Option.bind_some]
    rw [e2]
    simp only [Option.bind_some]
    rw [q, if_neg (by decide), e_Mrefuse, g_ma_si_ne (by decide)]
    rfl
  · rw [q, if_pos (nI_n1 (by omega)), e_answer]
    refine law_q1 (g_f1_cw (fun _ => k)) hR hW (fun h _ => ?_)
    obtain ⟨hh, e2, f, s⟩ := m_bestLoop (h := g_s 0 h) x0 xs hW
    refine ⟨hh, ?_, g_fM_tr g_s_M f, by rw [s, g_s_6]⟩
    unfold Mo_best
    rw [m_isA0]
    simp only [Option.bind_some]
    rw [e2]
    simp only [Option.bind_some]
    rw [q, if_pos (nI_pos' (by omega))]
