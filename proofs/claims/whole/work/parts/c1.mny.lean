/-! many -/
theorem law_many {b : Nat} {A : g_A} {H : q_H} {a : Int32} (hW : g_W A) (hR : g_R b (g_st H 0) A) : g_law b A H (Rp_many a H) (Mo_many a) := by
  have wt := hW.1.1
  have wl := hW.1.2.2.1
  have wv := hW.1.2.2.2.1
  have rp := hR.2.2.2.1
  rcases g_in_c (a := a) (n := 16) (by decide) with ⟨c, d⟩ | ⟨c, p, hp, rfl, d1, d2, d3, d4, d5⟩
  · have e : Rp_many a H = some (-1, q_si H 24 6 6 0 1) := by
      have ne : ∀ p, p ≤ 16 → a ≠ nI p := fun p hp q => by
        subst q
        rcases d with d | ⟨_, _, _, _, d⟩
        · exact nI_nlt (a := p) (b := 0) (by omega) (by omega) d
        · exact absurd d (nI_ge (by omega) (by omega))
      unfold Rp_many
      rw [if_neg (show ¬ a = 0 from ne 0 (by decide)), if_neg (show ¬ a = 1 from ne 1 (by decide)), if_neg (show ¬ a = 2 from ne 2 (by decide)), if_neg (show ¬ a = 3 from ne 3 (by decide)), if_neg (show ¬ a = 4 from ne 4 (by decide)), if_neg (show ¬ a = 5 from ne 5 (by decide)), if_neg (show ¬ a = 6 from ne 6 (by decide)), if_neg (show ¬ a = 7 from ne 7 (by decide)), if_neg (show ¬ a = 8 from ne 8 (by decide)), if_neg (show ¬ a = 9 from ne 9 (by decide)), if_neg (show ¬ a = 10 from ne 10 (by decide)), if_neg (show ¬ a = 11 from ne 11 (by decide)), if_neg (show ¬ a = 12 from ne 12 (by decide)), if_neg (show ¬ a = 13 from ne 13 (by decide)), if_neg (show ¬ a = 14 from ne 14 (by decide)), if_neg (show ¬ a = 15 from ne 15 (by decide)), if_neg (show ¬ a = 16 from ne 16 (by decide))]
      rfl
    rw [e]
    refine law_q hR hW (fun h _ => ?_)
    unfold Mo_many
    rw [m_isIn, show g_in a 0 16 = false from c]
    simp only [Option.bind_some]
    rw [if_pos qb0, Option.bind_some, m_isA (by decide)]
    rfl
  · have hM : ∀ h (r : Int32), (∀ h', h' = g_ma (g_s 0 h) 31 A → (if (5 : Int32) ≤ nI p then (if nI p = 5 then ((Mo_horizon h').bind fun x11 => some ((x11, h'))) else (if nI p = 6 then (some (((h'.1 31 0 7 5), h'))) else (if nI p = 7 then ((Mo_manyOf (nI p) h').bind fun x13 => some ((x13, h'))) else (if nI p = 8 then ((Mo_manyOf (nI p) h').bind fun x15 => some ((x15, h'))) else (if nI p = 9 then ((Mo_manyOf (nI p) h').bind fun x17 => some ((x17, h'))) else (if nI p = 10 then ((Mo_manyOf (nI p) h').bind fun x19 => some ((x19, h'))) else (if nI p = 11 then ((Mo_manyOf (nI p) h').bind fun x21 => some ((x21, h'))) else (if nI p = 12 then ((Mo_manyOf (nI p) h').bind fun x23 => some ((x23, h'))) else (if nI p = 13 then ((Mo_manyOf (nI p) h').bind fun x25 => some ((x25, h'))) else (if nI p = 14 then (some (((h'.1 30 5 7 0), h'))) else (if nI p = 15 then ((Mo_openMany h').bind fun x27 => some ((x27, h'))) else (if nI p = 16 then ((Mo_waitMany h').bind fun x29 => some ((x29, h'))) else ((Mo_manyOf (nI p) h').bind fun x31 => some ((x31, h'))))))))))))))) else (bif q_in (nI p) 1644 then (some (((h'.1 31 0 7 (nI p).toNatClampNeg), h'))) else none)) = some (r, h')) → Mo_many (nI p) (g_ma h 31 A) = some (r, g_ma (g_s 0 h) 31 A) := fun h r k => by
      unfold Mo_many
      rw [m_isIn, show g_in (nI p) 0 16 = true from c]
      simp only [Option.bind_some]
      rw [if_neg (by decide), Option.bind_some, m_isA0]
      simp only [Option.bind_some]
      rw [if_pos (by decide)]
      exact k _ rfl
    have lo : p < 5 → ∀ h, Mo_many (nI p) (g_ma h 31 A) = some (A 0 p 0, g_ma (g_s 0 h) 31 A) := fun h5 h => by
      refine hM h _ (fun h' e' => ?_)
      rw [if_neg (show ¬ (5 : Int32) ≤ nI p from nI_ge (b := 5) h5 (by decide)), g_inN (by omega) (by decide), g_cl (by omega), e', m_g (by omega)]
      rfl
    have hp' : p = 0 ∨ p = 1 ∨ p = 2 ∨ p = 3 ∨ p = 4 ∨ p = 5 ∨ p = 6 ∨ p = 7 ∨ p = 8 ∨ p = 9 ∨ p = 10 ∨ p = 11 ∨ p = 12 ∨ p = 13 ∨ p = 14 ∨ p = 15 ∨ p = 16 := by omega
    rcases hp' with rfl | rfl | rfl | rfl | rfl | rfl | rfl | rfl | rfl | rfl | rfl | rfl | rfl | rfl | rfl | rfl | rfl
    · have e : Rp_many (nI 0) H = some (A 0 0 0, q_si H 24 6 6 0 0) := by
        have : H.1 1 4 0 0 = A 0 0 0 := hR.1.1
        unfold Rp_many
        rw [if_pos (by decide), this]; rfl
      rw [e]
      exact law_q hR hW (fun h _ => lo (by decide) h)
    · have e : Rp_many (nI 1) H = some (A 0 1 0, q_si H 24 6 6 0 0) := by
        have : H.1 0 5 0 0 = A 0 1 0 := hR.1.2.1
        unfold Rp_many
        rw [if_neg (show ¬ nI 1 = 0 by decide), if_pos (by decide), this]; rfl
      rw [e]
      exact law_q hR hW (fun h _ => lo (by decide) h)
    · have e : Rp_many (nI 2) H = some (A 0 2 0, q_si H 24 6 6 0 0) := by
        have : H.1 0 6 0 0 = A 0 2 0 := hR.1.2.2.1
        unfold Rp_many
        rw [if_neg (show ¬ nI 2 = 0 by decide), if_neg (show ¬ nI 2 = 1 by decide), if_pos (by decide), this]; rfl
      rw [e]
      exact law_q hR hW (fun h _ => lo (by decide) h)
    · have e : Rp_many (nI 3) H = some (A 0 3 0, q_si H 24 6 6 0 0) := by
        have : H.1 0 7 0 0 = A 0 3 0 := hR.1.2.2.2
        unfold Rp_many
        rw [if_neg (show ¬ nI 3 = 0 by decide), if_neg (show ¬ nI 3 = 1 by decide), if_neg (show ¬ nI 3 = 2 by decide), if_pos (by decide), this]; rfl
      rw [e]
      exact law_q hR hW (fun h _ => lo (by decide) h)
    · have e : Rp_many (nI 4) H = some (A 0 4 0, q_si H 24 6 6 0 0) := by
        have : H.1 6 4 0 0 = A 0 4 0 := hR.2.1.1
        unfold Rp_many
        rw [if_neg (show ¬ nI 4 = 0 by decide), if_neg (show ¬ nI 4 = 1 by decide), if_neg (show ¬ nI 4 = 2 by decide), if_neg (show ¬ nI 4 = 3 by decide), if_pos (by decide), this]; rfl
      rw [e]
      exact law_q hR hW (fun h _ => lo (by decide) h)
    · have e : Rp_many (nI 5) H = some (nI (g_hz A), q_si H 24 6 6 0 0) := by
        unfold Rp_many
        rw [if_neg (show ¬ nI 5 = 0 by decide), if_neg (show ¬ nI 5 = 1 by decide), if_neg (show ¬ nI 5 = 2 by decide), if_neg (show ¬ nI 5 = 3 by decide), if_neg (show ¬ nI 5 = 4 by decide), if_pos (by decide), show H.1 6 5 0 0 = nI (g_hz A) from hR.2.2.1]
        rfl
      rw [e]
      refine law_q hR hW (fun h hm => hM h _ (fun h' e' => ?_))
      rw [if_pos (by decide), if_pos (by decide), e', m_horizon wt]
      rfl
    · have e : Rp_many (nI 6) H = some (A 0 5 0, q_si H 24 6 6 0 0) := by
        unfold Rp_many
        rw [if_neg (show ¬ nI 6 = 0 by decide), if_neg (show ¬ nI 6 = 1 by decide), if_neg (show ¬ nI 6 = 2 by decide), if_neg (show ¬ nI 6 = 3 by decide), if_neg (show ¬ nI 6 = 4 by decide), if_neg (show ¬ nI 6 = 5 by decide), if_pos (by decide), show H.1 11 3 0 0 = A 0 5 0 from hR.2.2.2.2.2.1.1]
        rfl
      rw [e]
      refine law_q hR hW (fun h hm => hM h _ (fun h' e' => ?_))
      rw [if_pos (by decide), if_neg (show ¬ nI 6 = 5 by decide), if_pos (by decide), e', m_g (by omega)]
    · have e : Rp_many (nI 7) H = some (g_mo A (nI 7), q_si H 24 6 6 0 0) := by
        unfold Rp_many
        rw [if_neg (show ¬ nI 7 = 0 by decide), if_neg (show ¬ nI 7 = 1 by decide), if_neg (show ¬ nI 7 = 2 by decide), if_neg (show ¬ nI 7 = 3 by decide), if_neg (show ¬ nI 7 = 4 by decide), if_neg (show ¬ nI 7 = 5 by decide), if_neg (show ¬ nI 7 = 6 by decide), if_pos (by decide), c_versionsThatAre (by decide) hR.2.1 rp wt wv hR.2.2.1]
        rfl
      rw [e]
      refine law_q hR hW (fun h hm => hM h _ (fun h' e' => ?_))
      rw [if_pos (by decide), if_neg (show ¬ nI 7 = 5 by decide), if_neg (show ¬ nI 7 = 6 by decide), if_pos (by decide), e', m_manyOf wl wt wv]
      rfl
    · have e : Rp_many (nI 8) H = some (g_mo A (nI 8), q_si H 24 6 6 0 0) := by
        unfold Rp_many
        rw [if_neg (show ¬ nI 8 = 0 by decide), if_neg (show ¬ nI 8 = 1 by decide), if_neg (show ¬ nI 8 = 2 by decide), if_neg (show ¬ nI 8 = 3 by decide), if_neg (show ¬ nI 8 = 4 by decide), if_neg (show ¬ nI 8 = 5 by decide), if_neg (show ¬ nI 8 = 6 by decide), if_neg (show ¬ nI 8 = 7 by decide), if_pos (by decide), c_versionsThatAre (by decide) hR.2.1 rp wt wv hR.2.2.1]
        rfl
      rw [e]
      refine law_q hR hW (fun h hm => hM h _ (fun h' e' => ?_))
      rw [if_pos (by decide), if_neg (show ¬ nI 8 = 5 by decide), if_neg (show ¬ nI 8 = 6 by decide), if_neg (show ¬ nI 8 = 7 by decide), if_pos (by decide), e', m_manyOf wl wt wv]
      rfl
    · have e : Rp_many (nI 9) H = some (g_mo A (nI 9), q_si H 24 6 6 0 0) := by
        unfold Rp_many
        rw [if_neg (show ¬ nI 9 = 0 by decide), if_neg (show ¬ nI 9 = 1 by decide), if_neg (show ¬ nI 9 = 2 by decide), if_neg (show ¬ nI 9 = 3 by decide), if_neg (show ¬ nI 9 = 4 by decide), if_neg (show ¬ nI 9 = 5 by decide), if_neg (show ¬ nI 9 = 6 by decide), if_neg (show ¬ nI 9 = 7 by decide), if_neg (show ¬ nI 9 = 8 by decide), if_pos (by decide), c_versionsThatAre (by decide) hR.2.1 rp wt wv hR.2.2.1]
        rfl
      rw [e]
      refine law_q hR hW (fun h hm => hM h _ (fun h' e' => ?_))
      rw [if_pos (by decide), if_neg (show ¬ nI 9 = 5 by decide), if_neg (show ¬ nI 9 = 6 by decide), if_neg (show ¬ nI 9 = 7 by decide), if_neg (show ¬ nI 9 = 8 by decide), if_pos (by decide), e', m_manyOf wl wt wv]
      rfl
    · have e : Rp_many (nI 10) H = some (g_mo A (nI 10), q_si H 24 6 6 0 0) := by
        unfold Rp_many
        rw [if_neg (show ¬ nI 10 = 0 by decide), if_neg (show ¬ nI 10 = 1 by decide), if_neg (show ¬ nI 10 = 2 by decide), if_neg (show ¬ nI 10 = 3 by decide), if_neg (show ¬ nI 10 = 4 by decide), if_neg (show ¬ nI 10 = 5 by decide), if_neg (show ¬ nI 10 = 6 by decide), if_neg (show ¬ nI 10 = 7 by decide), if_neg (show ¬ nI 10 = 8 by decide), if_neg (show ¬ nI 10 = 9 by decide), if_pos (by decide), c_versionsThatAre (by decide) hR.2.1 rp wt wv hR.2.2.1]
        rfl
      rw [e]
      refine law_q hR hW (fun h hm => hM h _ (fun h' e' => ?_))
      rw [if_pos (by decide), if_neg (show ¬ nI 10 = 5 by decide), if_neg (show ¬ nI 10 = 6 by decide), if_neg (show ¬ nI 10 = 7 by decide), if_neg (show ¬ nI 10 = 8 by decide), if_neg (show ¬ nI 10 = 9 by decide), if_pos (by decide), e', m_manyOf wl wt wv]
      rfl
    · have e : Rp_many (nI 11) H = some (g_mo A (nI 11), q_si H 24 6 6 0 0) := by
        unfold Rp_many
        rw [if_neg (show ¬ nI 11 = 0 by decide), if_neg (show ¬ nI 11 = 1 by decide), if_neg (show ¬ nI 11 = 2 by decide), if_neg (show ¬ nI 11 = 3 by decide), if_neg (show ¬ nI 11 = 4 by decide), if_neg (show ¬ nI 11 = 5 by decide), if_neg (show ¬ nI 11 = 6 by decide), if_neg (show ¬ nI 11 = 7 by decide), if_neg (show ¬ nI 11 = 8 by decide), if_neg (show ¬ nI 11 = 9 by decide), if_neg (show ¬ nI 11 = 10 by decide), if_pos (by decide), c_versionsThatAre (by decide) hR.2.1 rp wt wv hR.2.2.1]
        rfl
      rw [e]
      refine law_q hR hW (fun h hm => hM h _ (fun h' e' => ?_))
      rw [if_pos (by decide), if_neg (show ¬ nI 11 = 5 by decide), if_neg (show ¬ nI 11 = 6 by decide), if_neg (show ¬ nI 11 = 7 by decide), if_neg (show ¬ nI 11 = 8 by decide), if_neg (show ¬ nI 11 = 9 by decide), if_neg (show ¬ nI 11 = 10 by decide), if_pos (by decide), e', m_manyOf wl wt wv]
      rfl
    · have e : Rp_many (nI 12) H = some (g_mo A (nI 12), q_si H 24 6 6 0 0) := by
        unfold Rp_many
        rw [if_neg (show ¬ nI 12 = 0 by decide), if_neg (show ¬ nI 12 = 1 by decide), if_neg (show ¬ nI 12 = 2 by decide), if_neg (show ¬ nI 12 = 3 by decide), if_neg (show ¬ nI 12 = 4 by decide), if_neg (show ¬ nI 12 = 5 by decide), if_neg (show ¬ nI 12 = 6 by decide), if_neg (show ¬ nI 12 = 7 by decide), if_neg (show ¬ nI 12 = 8 by decide), if_neg (show ¬ nI 12 = 9 by decide), if_neg (show ¬ nI 12 = 10 by decide), if_neg (show ¬ nI 12 = 11 by decide), if_pos (by decide), c_slotsThatAre (w := nI 12) (by decide) rp]
        rfl
      rw [e]
      refine law_q hR hW (fun h hm => hM h _ (fun h' e' => ?_))
      rw [if_pos (by decide), if_neg (show ¬ nI 12 = 5 by decide), if_neg (show ¬ nI 12 = 6 by decide), if_neg (show ¬ nI 12 = 7 by decide), if_neg (show ¬ nI 12 = 8 by decide), if_neg (show ¬ nI 12 = 9 by decide), if_neg (show ¬ nI 12 = 10 by decide), if_neg (show ¬ nI 12 = 11 by decide), if_pos (by decide), e', m_manyOf wl wt wv]
      rfl
    · have e : Rp_many (nI 13) H = some (g_mo A (nI 13), q_si H 24 6 6 0 0) := by
        unfold Rp_many
        rw [if_neg (show ¬ nI 13 = 0 by decide), if_neg (show ¬ nI 13 = 1 by decide), if_neg (show ¬ nI 13 = 2 by decide), if_neg (show ¬ nI 13 = 3 by decide), if_neg (show ¬ nI 13 = 4 by decide), if_neg (show ¬ nI 13 = 5 by decide), if_neg (show ¬ nI 13 = 6 by decide), if_neg (show ¬ nI 13 = 7 by decide), if_neg (show ¬ nI 13 = 8 by decide), if_neg (show ¬ nI 13 = 9 by decide), if_neg (show ¬ nI 13 = 10 by decide), if_neg (show ¬ nI 13 = 11 by decide), if_neg (show ¬ nI 13 = 12 by decide), if_pos (by decide), c_slotsThatAre (w := nI 13) (by decide) rp]
        rfl
      rw [e]
      refine law_q hR hW (fun h hm => hM h _ (fun h' e' => ?_))
      rw [if_pos (by decide), if_neg (show ¬ nI 13 = 5 by decide), if_neg (show ¬ nI 13 = 6 by decide), if_neg (show ¬ nI 13 = 7 by decide), if_neg (show ¬ nI 13 = 8 by decide), if_neg (show ¬ nI 13 = 9 by decide), if_neg (show ¬ nI 13 = 10 by decide), if_neg (show ¬ nI 13 = 11 by decide), if_neg (show ¬ nI 13 = 12 by decide), if_pos (by decide), e', m_manyOf wl wt wv]
      rfl
    · have e : Rp_many (nI 14) H = some (H.1 24 5 6 0, q_si H 24 6 6 0 0) := by
        unfold Rp_many
        rw [if_neg (show ¬ nI 14 = 0 by decide), if_neg (show ¬ nI 14 = 1 by decide), if_neg (show ¬ nI 14 = 2 by decide), if_neg (show ¬ nI 14 = 3 by decide), if_neg (show ¬ nI 14 = 4 by decide), if_neg (show ¬ nI 14 = 5 by decide), if_neg (show ¬ nI 14 = 6 by decide), if_neg (show ¬ nI 14 = 7 by decide), if_neg (show ¬ nI 14 = 8 by decide), if_neg (show ¬ nI 14 = 9 by decide), if_neg (show ¬ nI 14 = 10 by decide), if_neg (show ¬ nI 14 = 11 by decide), if_neg (show ¬ nI 14 = 12 by decide), if_neg (show ¬ nI 14 = 13 by decide), if_pos (by decide)]
        rfl
      rw [e]
      refine law_q hR hW (fun h hm => hM h _ (fun h' e' => ?_))
      rw [if_pos (by decide), if_neg (show ¬ nI 14 = 5 by decide), if_neg (show ¬ nI 14 = 6 by decide), if_neg (show ¬ nI 14 = 7 by decide), if_neg (show ¬ nI 14 = 8 by decide), if_neg (show ¬ nI 14 = 9 by decide), if_neg (show ¬ nI 14 = 10 by decide), if_neg (show ¬ nI 14 = 11 by decide), if_neg (show ¬ nI 14 = 12 by decide), if_neg (show ¬ nI 14 = 13 by decide), if_pos (by decide), e', g_ma_ne (by decide), g_s_o (by omega), hm]
    · have e : Rp_many (nI 15) H = some (g_om A, q_si H 24 6 6 0 0) := by
        unfold Rp_many
        rw [if_neg (show ¬ nI 15 = 0 by decide), if_neg (show ¬ nI 15 = 1 by decide), if_neg (show ¬ nI 15 = 2 by decide), if_neg (show ¬ nI 15 = 3 by decide), if_neg (show ¬ nI 15 = 4 by decide), if_neg (show ¬ nI 15 = 5 by decide), if_neg (show ¬ nI 15 = 6 by decide), if_neg (show ¬ nI 15 = 7 by decide), if_neg (show ¬ nI 15 = 8 by decide), if_neg (show ¬ nI 15 = 9 by decide), if_neg (show ¬ nI 15 = 10 by decide), if_neg (show ¬ nI 15 = 11 by decide), if_neg (show ¬ nI 15 = 12 by decide), if_neg (show ¬ nI 15 = 13 by decide), if_neg (show ¬ nI 15 = 14 by decide), if_pos (by decide), c_openMany hR.2.1 wt]
        rfl
      rw [e]
      refine law_q hR hW (fun h hm => hM h _ (fun h' e' => ?_))
      rw [if_pos (by decide), if_neg (show ¬ nI 15 = 5 by decide), if_neg (show ¬ nI 15 = 6 by decide), if_neg (show ¬ nI 15 = 7 by decide), if_neg (show ¬ nI 15 = 8 by decide), if_neg (show ¬ nI 15 = 9 by decide), if_neg (show ¬ nI 15 = 10 by decide), if_neg (show ¬ nI 15 = 11 by decide), if_neg (show ¬ nI 15 = 12 by decide), if_neg (show ¬ nI 15 = 13 by decide), if_neg (show ¬ nI 15 = 14 by decide), if_pos (by decide), e', m_openMany wt]
      rfl
    · have e : Rp_many (nI 16) H = some (g_wm A, q_si H 24 6 6 0 0) := by
        unfold Rp_many
        rw [if_neg (show ¬ nI 16 = 0 by decide), if_neg (show ¬ nI 16 = 1 by decide), if_neg (show ¬ nI 16 = 2 by decide), if_neg (show ¬ nI 16 = 3 by decide), if_neg (show ¬ nI 16 = 4 by decide), if_neg (show ¬ nI 16 = 5 by decide), if_neg (show ¬ nI 16 = 6 by decide), if_neg (show ¬ nI 16 = 7 by decide), if_neg (show ¬ nI 16 = 8 by decide), if_neg (show ¬ nI 16 = 9 by decide), if_neg (show ¬ nI 16 = 10 by decide), if_neg (show ¬ nI 16 = 11 by decide), if_neg (show ¬ nI 16 = 12 by decide), if_neg (show ¬ nI 16 = 13 by decide), if_neg (show ¬ nI 16 = 14 by decide), if_neg (show ¬ nI 16 = 15 by decide), if_pos (by decide), c_waitMany hR.2.1 wt]
        rfl
      rw [e]
      refine law_q hR hW (fun h hm => hM h _ (fun h' e' => ?_))
      rw [if_pos (by decide), if_neg (show ¬ nI 16 = 5 by decide), if_neg (show ¬ nI 16 = 6 by decide), if_neg (show ¬ nI 16 = 7 by decide), if_neg (show ¬ nI 16 = 8 by decide), if_neg (show ¬ nI 16 = 9 by decide), if_neg (show ¬ nI 16 = 10 by decide), if_neg (show ¬ nI 16 = 11 by decide), if_neg (show ¬ nI 16 = 12 by decide), if_neg (show ¬ nI 16 = 13 by decide), if_neg (show ¬ nI 16 = 14 by decide), if_neg (show ¬ nI 16 = 15 by decide), if_pos (by decide), e', m_waitMany wt]
      rfl
