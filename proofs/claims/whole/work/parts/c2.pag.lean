/-! page -/
theorem c_isPg {a : Int32} {H : q_H} : Rp_isPage a H = some (q_bi (g_in a 0 5)) := by
  unfold Rp_isPage
  rcases g_in_c (a := a) (n := 5) (by decide) with ⟨c, d⟩ | ⟨c, p, hp, rfl, d1, d2, d3, d4, d5⟩
  · rw [show g_in a 0 5 = false from c]
    rcases d with d | ⟨d1, _, _, _, d5⟩
    · rw [if_pos d]; rfl
    · rw [if_neg d1, if_pos (show (6 : Int32) ≤ a from d5)]; rfl
  · rw [show g_in (nI p) 0 5 = true from c, if_neg d1, if_neg (show ¬ (6 : Int32) ≤ nI p from d5)]; rfl
theorem m_isPg {a : Int32} {h : q_H} : Mo_isPage a h = some (q_bi (g_in a 0 5)) := by
  unfold Mo_isPage
  rw [m_isIn]
  cases g_in a 0 5 <;> rfl
theorem qn1 : ¬ q_bi true = 0 := by decide
theorem qn0 : ¬ ¬ q_bi false = 0 := by decide
theorem q1n : ¬ (1 : Int32) = 0 := by decide
theorem q0n : ¬ ¬ (0 : Int32) = 0 := by decide
theorem law_page {b : Nat} {A : g_A} {H : q_H} {a w : Int32} (hW : g_W A) (hC : g_c1 A) (hR : g_R b (g_st H 0) A) : g_law b A H (Rp_page a w H) (Mo_page a w) := by
  have wt := hW.1.1
  have wl := hW.1.2.2.1
  have wv := hW.1.2.2.2.1
  have mp : ∀ (st : Int32) (h : q_H), st ≠ 0 → (Mo_is st (g_ma h 31 A)) = some (0, g_ma (g_s st h) 31 A) := fun st h q => m_isA q
  rcases g_in_c (a := w) (n := 4) (by decide) with ⟨c, d⟩ | ⟨c, q, hq, rfl, d1, d2, d3, d4, d5⟩
  · have e : Rp_page a w H = some (-1, q_si H 24 6 6 0 1) := by
      unfold Rp_page
      rcases d with d | ⟨d1, d2, d3, d4, d5⟩
      · rw [if_pos d]; rfl
      · rw [if_neg d1, if_neg (show ¬ w ≤ 4 from d3)]; rfl
    rw [e]
    refine law_q hR hW (fun h _ => ?_)
    unfold Mo_page
    rw [m_isIn, show g_in w 0 4 = false from c]
    simp only [Option.bind_some]
    rw [if_neg qn0, Option.bind_some, mp 1 h (by decide)]
    rfl
  · cases c2 : g_in a 0 5 with
    | false =>
      have e : Rp_page a (nI q) H = some (-1, q_si H 24 6 6 0 2) := by
        unfold Rp_page
        rw [if_neg d1, if_pos (show nI q ≤ 4 from d3), c_isPg, c2]; rfl
      rw [e]
      refine law_q hR hW (fun h _ => ?_)
      unfold Mo_page
      rw [m_isIn, show g_in (nI q) 0 4 = true from c]
      simp only [Option.bind_some]
      rw [if_pos qn1, m_isPg, c2]
      simp only [Option.bind_some]
      rw [if_neg qn0, Option.bind_some, mp 2 h (by decide)]
      rfl
    | true =>
      obtain ⟨p, hp, rfl⟩ := g_in_t (by decide) (show g_in a 0 (nI 5) = true from c2)
      have hp6 : p < 6 := by omega
      have hP := hR.2.2.2.1 p hp6
      have key : ∀ v : Int32, Rp_page (nI p) (nI q) H = some (v, q_si H 24 6 6 0 0) → (∀ h : q_H, (if nI q = 0 then (bif q_in ((17 : Int32) + nI p) 1644 then (some (((g_ma h 31 A).1 31 0 7 ((17 : Int32) + nI p).toNatClampNeg, g_ma h 31 A) : Int32 × q_H)) else none) else (if nI q = 1 then ((Mo_freeIn (nI p) (g_ma h 31 A)).bind fun x15 => some ((x15, g_ma h 31 A))) else (if nI q = 2 then ((Mo_horizon (g_ma h 31 A)).bind fun x17 => (Mo_deadUnits (nI p) (nI p + (1 : Int32)) x17 (g_ma h 31 A)).bind fun x19 => some ((x19, g_ma h 31 A))) else (if nI q = 3 then ((Mo_unusedIn (nI p) (g_ma h 31 A)).bind fun x21 => some ((x21, g_ma h 31 A))) else (bif q_in ((23 : Int32) + nI p) 1644 then (some (((g_ma h 31 A).1 31 0 7 ((23 : Int32) + nI p).toNatClampNeg, g_ma h 31 A) : Int32 × q_H)) else none))))) = some (v, g_ma h 31 A)) → g_law b A H (Rp_page (nI p) (nI q) H) (Mo_page (nI p) (nI q)) := fun v e1 e2 => by
        rw [e1]
        refine law_q hR hW (fun h _ => ?_)
        unfold Mo_page
        rw [m_isIn, show g_in (nI q) 0 4 = true from c]
        simp only [Option.bind_some]
        rw [if_pos qn1, m_isPg, c2]
        simp only [Option.bind_some]
        rw [if_pos qn1, Option.bind_some, m_isA0]
        simp only [Option.bind_some]
        rw [if_pos q1n]
        exact e2 (g_s 0 h)
      have pre : Rp_page (nI p) (nI q) H = (if nI q = 0 then ((Pg_lengthOf 0 (nI p) H).bind fun x5 => (Rp_answer x5 H).bind fun x7 => some ((x7.1, x7.2))) else (if nI q = 1 then ((Pg_freeOf 0 (nI p) H).bind fun x9 => (Rp_answer x9 H).bind fun x11 => some ((x11.1, x11.2))) else (if nI q = 2 then ((St_deadUnitsOf 0 (nI p) H).bind fun x13 => (Rp_answer x13 H).bind fun x15 => some ((x15.1, x15.2))) else (if nI q = 3 then ((Pg_unusedOf 0 (nI p) H).bind fun x17 => (Rp_answer x17 H).bind fun x19 => some ((x19.1, x19.2))) else ((Pg_isClear 0 (nI p) H).bind fun x21 => if x21 = 0 then ((Rp_answer (0 : Int32) H).bind fun x23 => some ((x23.1, x23.2))) else ((Rp_answer (1 : Int32) H).bind fun x25 => some ((x25.1, x25.2)))))))) := by
        unfold Rp_page
        rw [if_neg d1, if_pos (show nI q ≤ 4 from d3), c_isPg, c2]
        simp only [Option.bind_some]
        rw [if_pos qn1]
      have hq5 : q = 0 ∨ q = 1 ∨ q = 2 ∨ q = 3 ∨ q = 4 := by omega
      rcases hq5 with rfl | rfl | rfl | rfl | rfl
      · refine key (nI (g_ln A p)) ?_ (fun h => ?_)
        · rw [pre, if_pos (by decide), c_lengthOf hp6 hP wl]; rfl
        · rw [if_pos (by decide), m_b1 hp6, m_b2 wl hp6]; rfl
      · refine key (g_fr A p) ?_ (fun h => ?_)
        · rw [pre, if_neg (by decide), if_pos (by decide), c_freeOf hp6 hR.1.1 hP.2.2]; rfl
        · rw [if_neg (by decide), if_pos (by decide), m_freeIn wl hp6]; rfl
      · refine key (g_du A (g_hz A) p 1) ?_ (fun h => ?_)
        · rw [pre, if_neg (by decide), if_neg (by decide), if_pos (by decide), c_deadUnitsOf hp6 hR.2.1 hP.2.2 wt wv hR.2.2.1 (g_hz_lt wt)]; rfl
        · rw [if_neg (by decide), if_neg (by decide), if_pos (by decide), m_horizon wt]
          simp only [Option.bind_some]
          rw [nI_1 p, m_deadUnits wl wt wv (g_hz_lt wt) (by omega)]; rfl
      · refine key (g_uu A p) ?_ (fun h => ?_)
        · rw [pre, if_neg (by decide), if_neg (by decide), if_neg (by decide), if_pos (by decide), c_unusedOf hp6 hP wl]; rfl
        · rw [if_neg (by decide), if_neg (by decide), if_neg (by decide), if_pos (by decide), m_unusedIn wl hp6]; rfl
      · refine key (A 0 (23 + p) 0) ?_ (fun h => ?_)
        · rw [pre, if_neg (by decide), if_neg (by decide), if_neg (by decide), if_neg (by decide), c_isClear hp6 hP]
          simp only [Option.bind_some]
          rcases hC p hp6 with q | q
          · rw [q, decide_eq_false (by decide), if_pos (by rfl)]; rfl
          · rw [q, decide_eq_true (by decide), if_neg (by decide)]; rfl
        · rw [if_neg (by decide), if_neg (by decide), if_neg (by decide), if_neg (by decide), show (23 : Int32) + nI p = nI (23 + p) from nI_add 23 p, g_inN (by omega) (by decide), g_cl (by omega), m_g (by omega)]; rfl
