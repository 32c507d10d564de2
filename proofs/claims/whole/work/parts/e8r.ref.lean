/-! load refused -/
theorem mo_load_1 {a : Int32} {h : q_H} (c : g_in a 0 (h.1 30 12 7 0) = false) : Mo_load a h = some (-1, g_s 1 h) := by
  unfold Mo_load
  rw [m_isIn, c, Option.bind_some, if_pos (show q_bi false = 0 from rfl), Option.bind_some, m_is1 (by decide), Option.bind_some, if_neg q0n]
theorem rp_load_0 {a : Int32} {h : q_H} (c : a < 0 ∨ ¬ a ≤ h.1 25 1 6 0) : Rp_load a h = some (-1, q_si h 24 6 6 0 1) := by
  unfold Rp_load
  by_cases d : a < 0
  · rw [if_pos d]; rfl
  · rcases c with c | c
    · exact absurd c d
    · rw [if_neg d, if_neg c]; rfl
