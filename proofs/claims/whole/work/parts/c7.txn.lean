/-! txn -/
theorem law_txn {b : Nat} {A : g_A} {H : q_H} {a w : Int32} (hW : g_W A) (hR : g_R b (g_st H 0) A) : g_law b A H (Rp_txn a w H) (Mo_txn a w) := by
  have wt := hW.1.1
  have n61 := wt.2.2
  rcases g_in_c (a := w) (n := 3) (by decide) with ⟨c, d⟩ | ⟨c, x, hx, rfl, d1, d2, d3, d4, d5⟩
  · have e : Rp_txn a w H = some (-1, q_si H 24 6 6 0 1) := by
      unfold Rp_txn
      rcases d with d | ⟨d1, d2, d3, d4, d5⟩
      · rw [if_pos d]; rfl
      · rw [if_neg d1, if_neg (show ¬ w ≤ 3 from d3)]; rfl
    rw [e]
    refine law_q hR hW (fun h _ => ?_)
    unfold Mo_txn
    rw [m_isIn, show g_in w 0 3 = false from c]
    simp only [Option.bind_some]
    rw [if_neg qn0, Option.bind_some, m_isA (by decide)]
    rfl
  · cases c1 : g_tx A a with
    | false =>
      have e : Rp_txn a (nI x) H = some (-1, q_si H 24 6 6 0 2) := by
        unfold Rp_txn
        rw [if_neg d1, if_pos (show nI x ≤ 3 from d3), c_has hR.2.1 wt, c1]
        rfl
      rw [e]
      refine law_q hR hW (fun h _ => ?_)
      unfold Mo_txn
      rw [m_isIn, show g_in (nI x) 0 3 = true from c]
      simp only [Option.bind_some]
      rw [if_pos qn1, m_isTxn wt, c1]
      simp only [Option.bind_some]
      rw [if_neg qn0, Option.bind_some, m_isA (by decide)]
      rfl
    | true =>
      obtain ⟨t, rfl, t1, t2⟩ := g_tx_t wt c1
      have pm : ∀ h : q_H, Mo_txn (nI t) (nI x) (g_ma h 31 A) = (if ¬ nI x = (3 : Int32) then (if ¬ nI x = (1 : Int32) then (if ¬ nI x = 0 then ((Mo_notedMany (nI t) (g_ma (g_s 0 h) 31 A)).bind fun x14 => some ((x14, g_ma (g_s 0 h) 31 A))) else ((Mo_stateOf (nI t) (g_ma (g_s 0 h) 31 A)).bind fun x16 => some ((x16, g_ma (g_s 0 h) 31 A)))) else ((Mo_isOpen (nI t) (g_ma (g_s 0 h) 31 A)).bind fun x19 => if x19 = 0 then ((Mo_refuse (5 : Int32) (g_ma (g_s 0 h) 31 A)).bind fun x21 => some ((x21.1, x21.2))) else ((Mo_lowOf (nI t) (g_ma (g_s 0 h) 31 A)).bind fun x23 => some ((x23, g_ma (g_s 0 h) 31 A))))) else ((Mo_isWaiting (nI t) (g_ma (g_s 0 h) 31 A)).bind fun x27 => if x27 = 0 then (some (((-1 : Int32), g_ma (g_s 0 h) 31 A))) else (bif q_in ((1583 : Int32) + nI t) 1644 then (some ((((g_ma (g_s 0 h) 31 A).1 31 0 7 ((1583 : Int32) + nI t).toNatClampNeg), g_ma (g_s 0 h) 31 A))) else none))) := fun h => by
        unfold Mo_txn
        rw [m_isIn, show g_in (nI x) 0 3 = true from c]
        simp only [Option.bind_some]
        rw [if_pos qn1, m_isTxn wt, c1]
        simp only [Option.bind_some]
        rw [if_pos qn1, Option.bind_some, m_isA0]
        simp only [Option.bind_some]
        rw [if_pos q1n]
      have pre : Rp_txn (nI t) (nI x) H = (Option.bind (α := (q_H) ⊕ (Int32 × q_H)) (if ¬ nI x = (1 : Int32) then (some (.inl H)) else (if A 3 t 0 = 0 then (some (.inl H)) else ((Rp_refuse (5 : Int32) H).bind fun x11 => some (.inr ((x11.1, x11.2)))))) (fun z7 => match z7 with | .inl p15 => if nI x = 0 then ((Rp_answer (A 3 t 0) p15).bind fun x16 => some ((x16.1, x16.2))) else (if nI x = 1 then ((Tn_lowOf 0 (nI t) p15).bind fun x18 => (Rp_answer x18 p15).bind fun x20 => some ((x20.1, x20.2))) else (if nI x = 2 then ((Tn_howManyNoted 0 (nI t) p15).bind fun x22 => (Rp_answer x22 p15).bind fun x24 => some ((x24.1, x24.2))) else ((Tn_waitsFor 0 (nI t) p15).bind fun x26 => (Rp_answer x26 p15).bind fun x28 => some ((x28.1, x28.2))))) | .inr z7 => some z7)) := by
        unfold Rp_txn
        rw [if_neg d1, if_pos (show nI x ≤ 3 from d3), c_has hR.2.1 wt, c1]
        simp only [Option.bind_some]
        rw [if_pos qn1, c_so hR.2.1 wt t1 t2]
        rfl
      have hx4 : x = 0 ∨ x = 1 ∨ x = 2 ∨ x = 3 := by omega
      rcases hx4 with rfl | rfl | rfl | rfl
      · have e : Rp_txn (nI t) (nI 0) H = some (A 3 t 0, q_si H 24 6 6 0 0) := by
          rw [pre, if_pos (by decide), Option.bind_some]
          show (if nI 0 = 0 then _ else _) = _
          rw [if_pos (by decide)]; rfl
        rw [e]
        refine law_q hR hW (fun h _ => ?_)
        rw [pm, if_pos (by decide), if_pos (by decide), if_neg (by decide), m_stateOf (by omega)]; rfl
      · by_cases o : A 3 t 0 = 0
        · have e : Rp_txn (nI t) (nI 1) H = some (nI (g_lo A t), q_si H 24 6 6 0 0) := by
            rw [pre, if_neg (by decide), if_pos o, Option.bind_some]
            show (if nI 1 = 0 then _ else _) = _
            rw [if_neg (by decide), if_pos (by decide), c_lowOf hR.2.1 wt t1 t2]; rfl
          rw [e]
          refine law_q hR hW (fun h _ => ?_)
          rw [pm, if_pos (by decide), if_neg (by decide), m_isOpen (by omega)]
          simp only [Option.bind_some]
          rw [show g_op A t = true from decide_eq_true o, if_neg qn1, m_lowOf t1 (by omega)]; rfl
        · have e : Rp_txn (nI t) (nI 1) H = some (-1, q_si H 24 6 6 0 5) := by
            rw [pre, if_neg (by decide), if_neg o]; rfl
          rw [e]
          refine law_q hR hW (fun h _ => ?_)
          rw [pm, if_pos (by decide), if_neg (by decide), m_isOpen (by omega)]
          simp only [Option.bind_some]
          rw [show g_op A t = false from decide_eq_false o, if_pos (by rfl), m_ref]; rfl
      · have e : Rp_txn (nI t) (nI 2) H = some (g_sm (fun o => q_bi (g_nt A t o)) 1 (t - 1), q_si H 24 6 6 0 0) := by
          rw [pre, if_pos (by decide), Option.bind_some]
          show (if nI 2 = 0 then _ else _) = _
          rw [if_neg (by decide), if_neg (by decide), if_pos (by decide), c_notedMany hR.2.1 wt t1 t2]; rfl
        rw [e]
        refine law_q hR hW (fun h _ => ?_)
        rw [pm, if_pos (by decide), if_pos (by decide), if_pos (by decide), m_notedMany t1 (by omega)]; rfl
      · have e : Rp_txn (nI t) (nI 3) H = some (if 0 < A 6 t 0 then A 6 t 0 else -1, q_si H 24 6 6 0 0) := by
          rw [pre, if_pos (by decide), Option.bind_some]
          show (if nI 3 = 0 then _ else _) = _
          rw [if_neg (by decide), if_neg (by decide), if_neg (by decide), c_waits hR.2.1 wt t1 t2]; rfl
        rw [e]
        refine law_q hR hW (fun h _ => ?_)
        rw [pm, if_neg (by decide), m_isWaiting (by omega)]
        simp only [Option.bind_some]
        by_cases o : 0 < A 6 t 0
        · rw [decide_eq_true o, if_neg qn1, if_pos o, show (1583 : Int32) + nI t = nI (1583 + t) from nI_add 1583 t, g_inN (by omega) (by decide), g_cl (by omega), g_ma_rd (by omega), g_at6]; rfl
        · rw [decide_eq_false o, if_pos (by rfl), if_neg o]
