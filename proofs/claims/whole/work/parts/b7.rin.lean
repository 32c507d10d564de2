/-! ring, await -/
def g_oe (A : g_A) (t v : Nat) : Nat := if g_en A v ≠ 0 ∧ g_en A v ≠ t ∧ A 3 (g_en A v) 0 = 0 then g_en A v else 0
theorem g_oe_t {A : g_A} {t v : Nat} (hW : g_W A) (hv : v < 60) (hf : g_fu A v = true) (h : g_oe A t v ≠ 0) : 1 ≤ g_oe A t v ∧ g_oe A t v < g_nx A ∧ g_oe A t v ≠ t ∧ A 3 (g_oe A t v) 0 = 0 := by
  unfold g_oe at h ⊢
  by_cases c : g_en A v ≠ 0 ∧ g_en A v ≠ t ∧ A 3 (g_en A v) 0 = 0
  · rw [if_pos c]
    obtain ⟨_, n1, n2⟩ := g_ws_en (hW.1.2.2.2.1 v hv hf) c.1
    exact ⟨n1, n2, c.2.1, c.2.2⟩
  · rw [if_neg c] at h; exact absurd rfl h
theorem c_openEnder {t : Nat} {row : Int32} {A : g_A} {H : q_H} {b : Nat} (hW : g_W A) (hR : g_R b (g_st H 0) A) (h1 : g_tn A t) (hs : g_so A t row < 60) : Rp_openEnder (nI t) row H = some (g_pe (g_oe A t (g_so A t row))) := by
  have wt := hW.1.1
  have n61 := wt.2.2
  have ep : g_pp (g_so A t row) = nI (g_so A t row) := if_pos hs
  obtain ⟨s1, s2, s3⟩ := g_so_f hs
  have ws := hW.1.2.2.2.1 _ hs s1
  obtain ⟨_, _, _, _, _, _, _, s7, _⟩ := (r_ps hR.2.2.2.1 hs).1 s1
  unfold Rp_openEnder
  rw [c_seenPlace hR.2.1 hR.2.2.2.1 wt hW.1.2.2.2.1 h1]
  simp only [Option.bind_some]
  rw [ep, c_at hs]
  simp only [Option.bind_some]
  rw [show H.1 3 7 0 (g_so A t row) = _ from s7, c_es hR.2.1 wt ws]
  simp only [Option.bind_some]
  unfold g_oe
  by_cases z : g_en A (g_so A t row) = 0
  · rw [if_pos z, if_neg (fun q : g_en A (g_so A t row) ≠ 0 ∧ _ => q.1 z)]
    by_cases y : A 1 (g_so A t row) 7 = nI t
    · rw [if_pos y]; rfl
    · rw [if_neg y, if_pos (by decide)]; rfl
  · obtain ⟨e7, n1, n2⟩ := g_ws_en ws z
    rw [e7, if_neg z]
    by_cases y : g_en A (g_so A t row) = t
    · rw [y, if_pos rfl, if_neg (fun q => q.2.1 rfl)]; rfl
    · rw [if_neg (fun q => y ((nI_eq (by omega) (by have := h1.2; omega)).mp q))]
      by_cases x : A 3 (g_en A (g_so A t row)) 0 = 0
      · rw [if_neg (fun q => q x), if_pos ⟨z, y, x⟩]
        exact congrArg some (if_neg z).symm
      · rw [if_pos x, if_neg (fun q => x q.2.2)]; rfl
theorem m_enderFor {A : g_A} {h : q_H} {a row : Int32} (hW : g_W A) : Mo_enderFor a row (g_ma h 31 A) = some (if g_rea A a row = 0 then (if g_oe A a.toNatClampNeg (g_so A a.toNatClampNeg row) = 0 then (-1, g_ma (g_s 5 h) 31 A) else (nI (g_oe A a.toNatClampNeg (g_so A a.toNatClampNeg row)), g_ma (g_s 0 h) 31 A)) else (-1, g_ma (g_s (g_rea A a row) h) 31 A)) := by
  have wt := hW.1.1
  have n61 := wt.2.2
  have wr := hW.2.2.2.2.1
  have es : q_si (q_si (g_ma h 31 A) 30 7 7 0 (0 : Int32)) 30 6 7 0 (0 : Int32) = g_ma (g_s 0 h) 31 A := g_s_is
  unfold Mo_enderFor
  rw [es]
  have r2 : g_tx A a = false ∨ g_rw A row = false → g_rea A a row = 2 := fun q => by
    unfold g_rea
    cases d : g_rw A row with
    | false => rw [if_neg (by decide)]
    | true =>
      rcases q with q | q
      · have e0 : g_opn A a = 2 := by unfold g_opn; rw [q, if_neg (by decide)]
        have : g_free A a = 2 := by unfold g_free; rw [e0, if_neg (by decide)]
        rw [if_pos rfl, this, if_neg (by decide)]
      · rw [d] at q; cases q
  generalize hh : g_s 0 h = h0
  have mr : ∀ st, Mo_refuse st (g_ma h0 31 A) = some (-1, g_ma (g_s st h) 31 A) := fun st => by rw [← hh]; exact m_ref
  rw [m_isTxn wt, m_isRow wr.1 wr.2.1]
  simp only [Option.bind_some]
  cases ct : g_tx A a with
  | false =>
    rw [if_pos (by rfl), r2 (Or.inl ct), if_neg (by decide), mr]; rfl
  | true =>
    rw [if_neg (by decide)]
    cases cr : g_rw A row with
    | false => rw [if_neg (by decide), r2 (Or.inr cr), if_neg (by decide), mr]; rfl
    | true =>
      rw [if_pos (by decide)]
      obtain ⟨t, e, t1, t2⟩ := g_tx_t wt ct
      have ht : a.toNatClampNeg = t := by rw [e]; exact g_cl (by omega)
      have eo : g_opn A a = if A 3 t 0 = 0 then 0 else 4 := by unfold g_opn; rw [if_pos ct, ht]
      rw [ht, e, m_isOpen (by omega)]
      simp only [Option.bind_some]
      unfold g_op
      by_cases d : A 3 t 0 = 0
      · rw [if_pos d] at eo
        rw [decide_eq_true d, if_pos (by decide), m_isWaiting (by omega)]
        simp only [Option.bind_some]
        have ef : g_free A a = if 0 < A 6 t 0 then 11 else 0 := by unfold g_free; rw [eo, if_pos rfl, ht]
        by_cases w : 0 < A 6 t 0
        · rw [if_pos w] at ef
          have er : g_rea A (nI t) row = 11 := by rw [← e]; unfold g_rea; rw [if_pos cr, ef, if_neg (by decide)]
          rw [decide_eq_true w, if_neg (by decide), er, if_neg (by decide), mr]; rfl
        · rw [if_neg w] at ef
          rw [decide_eq_false w, if_pos (by rfl), m_seenOf hW.1.2.2.1 wt hW.1.2.2.2.1 ⟨t1, t2⟩]
          simp only [Option.bind_some]
          by_cases s : g_so A t row < 60
          · have er : g_rea A (nI t) row = 0 := by rw [← e]; unfold g_rea; rw [if_pos cr, ef, if_pos rfl, ht, if_pos s]
            have ep : g_pp (g_so A t row) = nI (g_so A t row) := if_pos s
            obtain ⟨s1, s2, s3⟩ := g_so_f s
            have ws := hW.1.2.2.2.1 _ s s1
            rw [er, if_pos rfl, ep, if_pos (nI_pos' (by omega)), m_enderOf s wt ws]
            simp only [Option.bind_some]
            unfold g_oe
            by_cases z : g_en A (g_so A t row) = 0
            · have : g_eo A (g_so A t row) = 0 := if_neg (fun q => q.1 z)
              rw [this, if_pos (by decide), if_neg (fun q : g_en A (g_so A t row) ≠ 0 ∧ _ => q.1 z), if_pos rfl, mr]; rfl
            · obtain ⟨e7, n1, n2⟩ := g_ws_en ws z
              by_cases g : A 3 (g_en A (g_so A t row)) 0 = 2
              · have : g_eo A (g_so A t row) = 0 := if_neg (fun q => q.2 g)
                rw [this, if_pos (by decide), if_neg (fun q : _ ∧ _ => absurd (g.symm.trans q.2.2) (by decide)), if_pos rfl, mr]; rfl
              · have : g_eo A (g_so A t row) = g_en A (g_so A t row) := if_pos ⟨z, g⟩
                have e2 : g_pe (g_en A (g_so A t row)) = nI (g_en A (g_so A t row)) := if_neg z
                rw [this, e2, if_neg (show ¬ nI (g_en A (g_so A t row)) < 0 from nI_nlt (b := 0) (by omega) (by have := n2; omega)), m_isOpen (by omega)]
                simp only [Option.bind_some]
                unfold g_op
                by_cases x : A 3 (g_en A (g_so A t row)) 0 = 0
                · rw [decide_eq_true x, if_neg (by decide)]
                  by_cases y : g_en A (g_so A t row) = t
                  · rw [if_neg (fun q => q (by rw [y])), if_neg (fun q : _ ∧ _ => q.2.1 y), if_pos rfl, mr]; rfl
                  · have k : (if g_en A (g_so A t row) ≠ 0 ∧ g_en A (g_so A t row) ≠ t ∧ A 3 (g_en A (g_so A t row)) 0 = 0 then g_en A (g_so A t row) else 0) = g_en A (g_so A t row) := if_pos ⟨z, y, x⟩
                    rw [if_pos (fun q => y ((nI_eq (by omega) (by omega)).mp q)), k, if_neg z]
                · rw [decide_eq_false x, if_pos (by rfl), if_neg (fun q : _ ∧ _ => x q.2.2), if_pos rfl, mr]; rfl
          · have er : g_rea A (nI t) row = 6 := by rw [← e]; unfold g_rea; rw [if_pos cr, ef, if_pos rfl, ht, if_neg s]
            have ep : g_pp (g_so A t row) = -1 := if_neg s
            rw [er, ep, if_neg (by decide), if_neg (by decide), mr]; rfl
      · rw [if_neg d] at eo
        have er : g_rea A (nI t) row = 4 := by
          rw [← e]; unfold g_rea g_free; rw [if_pos cr, eo, if_neg (show ¬ (4 : Int32) = 0 by decide), if_neg (by decide)]
        rw [decide_eq_false d, if_neg (by decide), er, if_neg (by decide), mr]; rfl
theorem law_ring {b : Nat} {A : g_A} {H : q_H} {a row : Int32} (hW : g_W A) (hR : g_R b (g_st H 0) A) : g_law b A H (Rp_ring a row H) (Mo_ring a row) := by
  have wt := hW.1.1
  have n61 := wt.2.2
  unfold Rp_ring
  rw [c_asReader hW hR]
  simp only [Option.bind_some]
  by_cases c : g_rea A a row = 0
  · obtain ⟨t, e, t1, t2, t3, t4, t5, t6, t7⟩ := g_rea_t wt c
    obtain ⟨s1, s2, s3⟩ := g_so_f t7
    rw [if_pos c, e, c_openEnder hW hR t1 t7]
    simp only [Option.bind_some]
    by_cases z : g_oe A t (g_so A t row) = 0
    · rw [z, if_neg (fun q => q rfl), e_refuse]
      refine law_q hR hW (fun h _ => ?_)
      unfold Mo_ring
      rw [m_enderFor hW, ← e, if_pos c, t3, if_pos z]
      rfl
    · obtain ⟨o1, o2, o3, o4⟩ := g_oe_t hW t7 s1 z
      have e2 : g_pe (g_oe A t (g_so A t row)) = nI (g_oe A t (g_so A t row)) := if_neg z
      rw [e2, if_pos (fun q => absurd (q ▸ nI_pos' (n := g_oe A t (g_so A t row)) (by omega)) (by decide)), c_ringLength hR.2.1 hW.2.2.2.1 wt t1.1 (by have := t1.2; omega) o1 o2]
      simp only [Option.bind_some]
      rw [e_answer]
      refine law_q hR hW (fun h _ => ?_)
      unfold Mo_ring
      rw [m_enderFor hW, ← e, if_pos c, t3, if_neg z, e]
      simp only [Option.bind_some]
      rw [if_pos (nI_pos' (by omega)), m_ringOf hW.2.2.2.1 wt t1.1 (by have := t1.2; omega) o1 o2]
      rfl
  · rw [if_neg c, e_refuse]
    refine law_q hR hW (fun h _ => ?_)
    unfold Mo_ring
    rw [m_enderFor hW, if_neg c]
    rfl
