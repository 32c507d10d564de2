/-! questions: how many, pages, slots -/
theorem qb0 : q_bi false = 0 := rfl
theorem qb1 : q_bi true = 1 := rfl
theorem g_in_c {a : Int32} {n : Nat} (hn : n < 2 ^ 30) : (g_in a 0 (nI n) = false ∧ (a < 0 ∨ (¬ a < 0 ∧ nI n < a ∧ ¬ a ≤ nI n ∧ ¬ a < nI (n + 1) ∧ nI (n + 1) ≤ a))) ∨ (g_in a 0 (nI n) = true ∧ ∃ p, p ≤ n ∧ a = nI p ∧ ¬ nI p < 0 ∧ ¬ nI n < nI p ∧ nI p ≤ nI n ∧ nI p < nI (n + 1) ∧ ¬ nI (n + 1) ≤ nI p) := by
  cases c : g_in a 0 (nI n) with
  | true =>
    obtain ⟨p, hp, rfl⟩ := g_in_t hn c
    exact Or.inr ⟨rfl, p, hp, rfl, nI_nlt (a := p) (b := 0) (by omega) (by omega), nI_nlt (by omega) (by omega), Int32.not_lt.mp (nI_nlt (by omega) (by omega)), nI_lt (by omega) (by omega), nI_ge (by omega) (by omega)⟩
  | false =>
    refine Or.inl ⟨rfl, ?_⟩
    unfold g_in at c
    by_cases d : a < 0
    · exact Or.inl d
    · rw [decide_eq_false d] at c
      have e : nI n < a := by
        by_cases e : nI n < a
        · exact e
        · rw [decide_eq_false e] at c; exact absurd c (by decide)
      have e2 : nI (n + 1) ≤ a := by
        rcases pk_ix a (n := n + 1) (by omega) with q | q | ⟨j, hj, rfl⟩
        · exact absurd q d
        · exact q
        · exact absurd e (nI_nlt (by omega) (by omega))
      exact Or.inr ⟨d, e, Int32.not_le.mpr e, Int32.not_lt.mpr e2, e2⟩
theorem m_isA0 {h : q_H} {A : g_A} : Mo_is 0 (g_ma h 31 A) = some (1, g_ma (g_s 0 h) 31 A) := by rw [m_is0, g_s_is]
theorem m_isA {p : Int32} {h : q_H} {A : g_A} (hp : p ≠ 0) : Mo_is p (g_ma h 31 A) = some (0, g_ma (g_s p h) 31 A) := by rw [m_is1 hp, g_s_is]
theorem c_cnt8 {H : q_H} {A : g_A} {k p : Nat} (hl : r_l (g_st H k) A) (hp : p ≤ 7) : Lg_countOf k (nI p) H = some (A 0 (9 + p) 0) := by
  unfold Lg_countOf
  rw [c_pick (t := 18) (n := 8) rfl rfl (by omega) (by omega)]
  simp only [Option.bind_some]
  exact congrArg some (hl.2.2 p (by omega))
theorem law_counts {b : Nat} {A : g_A} {H : q_H} {a : Int32} (hW : g_W A) (hR : g_R b (g_st H 0) A) : g_law b A H (Rp_counts a H) (Mo_counts a) := by
  rcases g_in_c (a := a) (n := 7) (by decide) with ⟨c, d⟩ | ⟨c, p, hp, rfl, d1, d2, d3, d4, d5⟩
  · have e : Rp_counts a H = some (-1, q_si H 24 6 6 0 1) := by
      unfold Rp_counts
      rcases d with d | ⟨d1, d2, d3, d4, d5⟩
      · rw [if_pos d]; rfl
      · rw [if_neg d1, if_neg (show ¬ a < 8 from d4)]; rfl
    rw [e]
    refine law_q hR hW (fun h _ => ?_)
    unfold Mo_counts
    rw [m_isIn, show g_in a 0 7 = false from c]
    simp only [Option.bind_some]
    rw [if_pos qb0, Option.bind_some, m_isA (by decide)]
    rfl
  · have e : Rp_counts (nI p) H = some (A 0 (9 + p) 0, q_si H 24 6 6 0 0) := by
      unfold Rp_counts
      rw [if_neg d1, if_pos (show nI p < 8 from d4), c_cnt8 hR.2.2.2.2.2.2.1 hp]; rfl
    rw [e]
    refine law_q hR hW (fun h _ => ?_)
    unfold Mo_counts
    rw [m_isIn, show g_in (nI p) 0 7 = true from c]
    simp only [Option.bind_some]
    rw [if_neg (by decide), Option.bind_some, m_isA0]
    simp only [Option.bind_some]
    have e9 : (9 : Int32) + nI p = nI (9 + p) := nI_add 9 p
    rw [if_neg (by decide), e9, g_cl (by omega), m_g (by omega), show q_in (nI (9 + p)) 1644 = true from g_inN (by omega) (by decide)]
    rfl
theorem law_versions {b : Nat} {A : g_A} {H : q_H} {a : Int32} (hW : g_W A) (hR : g_R b (g_st H 0) A) : g_law b A H (Rp_versions a H) (Mo_versions a) := by
  have wr := hW.2.2.2.2.1
  unfold Rp_versions
  rw [c_hasRow hR.1.2.2.2]
  simp only [Option.bind_some]
  cases c : g_rw A a with
  | false =>
    rw [if_pos (by rfl), e_refuse]
    refine law_q hR hW (fun h _ => ?_)
    unfold Mo_versions
    rw [m_isRow wr.1 wr.2.1, c]
    simp only [Option.bind_some]
    rw [if_pos (by rfl), Option.bind_some, m_isA (by decide)]
    rfl
  | true =>
    rw [if_neg (by decide), c_versionsOf hR.2.2.2.1]
    simp only [Option.bind_some]
    rw [e_answer]
    refine law_q hR hW (fun h _ => ?_)
    unfold Mo_versions
    rw [m_isRow wr.1 wr.2.1, c]
    simp only [Option.bind_some]
    rw [if_neg (by decide), Option.bind_some, m_isA0]
    simp only [Option.bind_some]
    rw [if_neg (by decide), m_versionsOf hW.1.2.2.1]
    rfl
