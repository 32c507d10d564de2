/-! without, blocks, holder -/
theorem g_opn_0 {A : g_A} {a : Int32} (c : g_tx A a = false) : g_opn A a = 2 := by
  unfold g_opn
  exact if_neg (by rw [c]; decide)
theorem g_opn_1 {A : g_A} {a : Int32} (c : g_tx A a = true) (d : A 3 a.toNatClampNeg 0 = 0) : g_opn A a = 0 := by
  unfold g_opn
  rw [if_pos c, if_pos d]
theorem g_opn_4 {A : g_A} {a : Int32} (c : g_tx A a = true) (d : A 3 a.toNatClampNeg 0 ≠ 0) : g_opn A a = 4 := by
  unfold g_opn
  rw [if_pos c, if_neg d]
theorem m_asksO {A : g_A} {h : q_H} {a : Int32} (wt : g_wt A) (c : g_opn A a = 0) : Mo_asksOpen a (g_ma h 31 A) = some (1, g_ma (g_s 0 h) 31 A) := by
  obtain ⟨t, e, t1, t2, t3, t4⟩ := g_opn_t wt c
  unfold Mo_asksOpen
  rw [m_isTxn wt, t4]
  simp only [Option.bind_some]
  rw [if_pos (show ¬ q_bi true = 0 by decide), e, m_isOpen (by have := wt.2.2; have := t1.2; omega)]
  simp only [Option.bind_some]
  have d : g_op A t = true := by unfold g_op; exact decide_eq_true t2
  rw [d, if_pos (show ¬ q_bi true = 0 by decide), m_isA0]
  rfl
theorem m_asksN {A : g_A} {h : q_H} {a : Int32} (wt : g_wt A) (c : ¬ g_opn A a = 0) : Mo_asksOpen a (g_ma h 31 A) = some (0, g_ma (g_s (g_opn A a) h) 31 A) := by
  unfold Mo_asksOpen
  rw [m_isTxn wt]
  simp only [Option.bind_some]
  cases d : g_tx A a with
  | false =>
    rw [g_opn_0 d, if_neg (show ¬ ¬ q_bi false = 0 by decide), m_isA (by decide)]
    rfl
  | true =>
    obtain ⟨t, e, t1, t2⟩ := g_tx_t wt d
    have ht : a.toNatClampNeg = t := by rw [e]; exact g_cl (by have := wt.2.2; omega)
    have d2 : ¬ A 3 t 0 = 0 := fun q => c (g_opn_1 d (by rw [ht]; exact q))
    have d3 : g_op A t = false := by unfold g_op; exact decide_eq_false d2
    rw [g_opn_4 d (by rw [ht]; exact d2), if_pos (show ¬ q_bi true = 0 by decide), e, m_isOpen (by have := wt.2.2; omega)]
    simp only [Option.bind_some]
    rw [d3, if_neg (show ¬ ¬ q_bi false = 0 by decide), m_isA (by decide)]
    rfl
theorem law_without {b : Nat} {A : g_A} {H : q_H} {a : Int32} (hW : g_W A) (hR : g_R b (g_st H 0) A) : g_law b A H (Rp_without a H) (Mo_without a) := by
  have wt := hW.1.1
  unfold Rp_without
  rw [c_asOpen hR.2.1 wt]
  simp only [Option.bind_some]
  by_cases c : g_opn A a = 0
  · obtain ⟨t, e, t1, t2, t3, t4⟩ := g_opn_t wt c
    have hab : ∀ t' : Nat, 1 ≤ t' → t' < 61 → (nI t' = a ↔ t' = t) := by
      rw [e]; exact g_abn (by have := wt.2.2; have := t1.2; omega)
    rw [if_neg (fun q => q c), c_hb hR.2.1 wt hab]
    simp only [Option.bind_some]
    rw [e_answer]
    refine law_q hR hW (fun h _ => ?_)
    unfold Mo_without
    rw [m_asksO wt c]
    simp only [Option.bind_some]
    rw [if_neg (show ¬ (1 : Int32) = 0 by decide), m_hb wt hab]
    rfl
  · rw [if_pos c, e_refuse]
    refine law_q hR hW (fun h _ => ?_)
    unfold Mo_without
    rw [m_asksN wt c]
    rfl
theorem law_holder {b : Nat} {A : g_A} {H : q_H} (hW : g_W A) (hR : g_R b (g_st H 0) A) : g_law b A H (Rp_holder H) Mo_holder := by
  have wt := hW.1.1
  have n61 := wt.2.2
  have n2 := wt.2.1
  have hM : ∀ h, Mo_holder (g_ma h 31 A) = some (if g_ho A < g_nx A then (nI (g_ho A), g_ma (g_s 0 h) 31 A) else (-1, g_ma (g_s 5 h) 31 A)) := fun h => by
    unfold Mo_holder
    rw [m_isA0]
    simp only [Option.bind_some]
    refine g_bs (Eq.trans (g_lpB (fun t => g_op A t && decide (g_lo A t = g_hz A)) (fun i => nI i) 1 (g_nx A - 1) (fun i => if i < g_nx A then (nI i, g_ma (g_s 0 h) 31 A) else (-1, g_ma (g_s 5 h) 31 A)) rfl (fun t h1 h2 => ?_) ?_ (by unfold q_fu; omega)) rfl)
    · rw [m_g (by omega), wt.1, if_neg (nI_ge (by omega) (by omega)), m_isOpen (by omega)]
      simp only [Option.bind_some]
      cases c : g_op A t with
      | false => rw [if_pos (by rfl), Option.bind_some]; show some (Sum.inl (nI t + (1 : Int32))) = _; rw [nI_1]; rfl
      | true =>
        rw [if_neg (by decide), m_lowOf h1 (by omega), m_horizon wt]
        simp only [Option.bind_some]
        have hlo : g_lo A t ≤ 61 := by
          have := (g_fst_le (g_nt A t) (t - 1) 1).2
          unfold g_lo; omega
        have hhz := g_hz_lt wt
        by_cases d : g_lo A t = g_hz A
        · rw [if_neg (fun q => q (by rw [d])), decide_eq_true d, if_pos (by omega)]; rfl
        · rw [if_pos (fun q => d ((nI_eq (by omega) (by omega)).mp q)), decide_eq_false d, Option.bind_some]; show some (Sum.inl (nI t + (1 : Int32))) = _; rw [nI_1]; rfl
    · rw [show 1 + (g_nx A - 1) = g_nx A by omega, m_g (by omega), wt.1, if_pos (Int32.le_refl _), if_neg (by omega), m_ref]
      rfl
  unfold Rp_holder
  rw [c_holder hR.2.1 hR.2.2.1 wt]
  simp only [Option.bind_some]
  by_cases c : g_ho A < g_nx A
  · rw [if_pos c, if_pos (fun q => absurd (q ▸ nI_pos' (n := g_ho A) (by omega)) (by decide)), e_answer]
    refine law_q hR hW (fun h _ => ?_)
    rw [hM, if_pos c]
  · rw [if_neg c, if_neg (fun q => q rfl), e_refuse]
    refine law_q hR hW (fun h _ => ?_)
    rw [hM, if_neg c]
theorem law_blocks {b : Nat} {A : g_A} {H : q_H} {a : Int32} (hW : g_W A) (hR : g_R b (g_st H 0) A) : g_law b A H (Rp_blocks a H) (Mo_blocks a) := by
  have wt := hW.1.1
  have ww := hW.2.2.2.1
  have n61 := wt.2.2
  have n2 := wt.2.1
  unfold Rp_blocks
  rw [c_asOpen hR.2.1 wt]
  simp only [Option.bind_some]
  by_cases c : g_opn A a = 0
  · obtain ⟨t, e, t1, t2, t3, t4⟩ := g_opn_t wt c
    obtain ⟨h1, h2⟩ := t1
    rw [if_neg (fun q => q c), e, c_blocks hR.2.1 ww wt h1 (by omega)]
    simp only [Option.bind_some]
    rw [e_answer]
    refine law_q hR hW (fun h _ => ?_)
    unfold Mo_blocks
    rw [m_asksO wt (e ▸ c)]
    simp only [Option.bind_some]
    rw [if_pos (show ¬ (1 : Int32) = 0 by decide)]
    refine g_bs (Eq.trans (g_lpC (fun o => q_bi (decide (o ≠ t) && decide (g_ri A t o ≠ 0))) 1 (g_nx A - 1) (fun x => (x, g_ma (g_s 0 h) 31 A)) rfl (fun o x h3 h4 => ?_) (fun x => ?_) (by unfold q_fu; omega)) rfl)
    · dsimp only
      rw [m_g (by omega), wt.1, if_neg (nI_ge (by omega) (by omega)), show (1583 : Int32) + nI o = nI (1583 + o) from nI_add 1583 o, g_inN (by omega) (by decide), g_cl (by omega), g_ma_rd (by omega), g_at6]
      simp only [cond_true]
      rw [(ww.1 o h3 (by omega)).1, m_bkin ww wt h1 (by omega) h3 (by omega)]
      simp only [Option.bind_some]
      by_cases d : o ≠ t ∧ g_ri A t o ≠ 0
      · have e0 : (if o ≠ t ∧ g_ri A t o ≠ 0 then nI t else (0 : Int32)) = nI t := if_pos d
        rw [e0, if_neg (fun q => q rfl), decide_eq_true d.1, decide_eq_true d.2]
        simp only [Option.bind_some]
        rw [nI_1]; rfl
      · have e0 : (if o ≠ t ∧ g_ri A t o ≠ 0 then nI t else (0 : Int32)) = 0 := if_neg d
        have e1 : (decide (o ≠ t) && decide (g_ri A t o ≠ 0)) = false := by rw [← Bool.decide_and]; exact decide_eq_false d
        rw [e0, if_pos (fun q => nI_ne0 (n := t) (by omega) (by omega) q.symm), e1]
        simp only [Option.bind_some]
        rw [nI_1]; rfl
    · dsimp only
      rw [show 1 + (g_nx A - 1) = g_nx A by omega, m_g (by omega), wt.1, if_pos (Int32.le_refl _)]
  · rw [if_pos c, e_refuse]
    refine law_q hR hW (fun h _ => ?_)
    unfold Mo_blocks
    rw [m_asksN wt c]
    rfl
