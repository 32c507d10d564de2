/-! slot, version -/
def g_sk (A : g_A) (a j : Int32) : Bool := g_in a 0 5 && (!decide (j < 0) && decide (j < A 0 (17 + a.toNatClampNeg) 0))
theorem g_sk_t {A : g_A} {a j : Int32} (wl : g_wl A) (h : g_sk A a j = true) : ∃ p q, a = nI p ∧ j = nI q ∧ p < 6 ∧ q < g_ln A p ∧ q < 10 := by
  unfold g_sk at h
  simp only [Bool.and_eq_true, Bool.not_eq_true', decide_eq_false_iff_not, decide_eq_true_iff] at h
  obtain ⟨h1, h2, h3⟩ := h
  obtain ⟨p, hp, rfl⟩ := g_in_t (n := 5) (by decide) h1
  have hl := wl p (by omega)
  rw [g_cl (by omega), hl.1] at h3
  rcases pk_ix j (n := g_ln A p) (by omega) with q | q | ⟨i, hi, rfl⟩
  · exact absurd q h2
  · exact absurd h3 (Int32.not_lt.mpr q)
  · exact ⟨p, i, rfl, rfl, by omega, hi, by omega⟩
theorem c_hasSlot {b : Nat} {A : g_A} {H : q_H} {a j : Int32} (hR : g_R b (g_st H 0) A) (wl : g_wl A) : Pg_hasSlot 0 a j H = some (q_bi (g_sk A a j)) := by
  unfold Pg_hasSlot g_sk
  rw [c_isPg]
  simp only [Option.bind_some]
  cases c : g_in a 0 5 with
  | false => rw [if_pos (by rfl)]; rfl
  | true =>
    obtain ⟨p, hp, rfl⟩ := g_in_t (n := 5) (by decide) c
    rw [if_neg qn1]
    by_cases d : j < 0
    · rw [if_pos d, decide_eq_true d]; rfl
    · rw [if_neg d, decide_eq_false d, c_lengthOf (by omega) (hR.2.2.2.1 p (by omega)) wl, g_cl (by omega), (wl p (by omega)).1]
      simp only [Option.bind_some]
      by_cases e : j < nI (g_ln A p)
      · rw [if_neg (Int32.not_le.mpr e), decide_eq_true e]; rfl
      · rw [if_pos (Int32.not_lt.mp e), decide_eq_false e]; rfl
theorem m_asksS0 {A : g_A} {h : q_H} {a j : Int32} : Mo_asksSlot (q_bi false) a j (g_ma h 31 A) = some (0, g_ma (g_s 1 h) 31 A) := by
  unfold Mo_asksSlot
  rw [if_neg qn0, m_isA (by decide)]
  rfl
theorem g_in_1 {j : Int32} {n : Nat} (hn : n ≤ 10) : g_in j 0 (nI n - 1) = (!decide (j < 0) && decide (j < nI n)) := by
  unfold g_in
  by_cases d : j < 0
  · rw [decide_eq_true d]; rfl
  · rw [decide_eq_false d]
    show (true && _) = (true && _)
    congr 1
    rcases pk_ix j (n := n) (by omega) with q | q | ⟨i, hi, rfl⟩
    · exact absurd q d
    · rw [decide_eq_false (Int32.not_lt.mpr q)]
      have e : nI n - 1 < j := by
        by_cases z : n = 0
        · subst z
          exact Int32.lt_of_lt_of_le (show nI 0 - 1 < nI 0 by decide) q
        · rw [show (1 : Int32) = nI 1 from rfl, pk_sub (by omega)]
          exact Int32.lt_of_lt_of_le (nI_lt (a := n - 1) (b := n) (by omega) (by omega)) q
      rw [decide_eq_true e]; rfl
    · have e : ¬ nI n - 1 < nI i := by
        rw [show (1 : Int32) = nI 1 from rfl, pk_sub (by omega)]
        exact nI_nlt (by omega) (by omega)
      rw [decide_eq_false e, decide_eq_true (nI_lt (by omega) (by omega))]; rfl
theorem m_asksS1 {A : g_A} {h : q_H} {a j : Int32} (wl : g_wl A) : Mo_asksSlot (q_bi true) a j (g_ma h 31 A) = if g_sk A a j = true then some (1, g_ma (g_s 0 h) 31 A) else some (0, g_ma (g_s 2 h) 31 A) := by
  unfold Mo_asksSlot g_sk
  rw [if_pos qn1, m_isPg]
  simp only [Option.bind_some]
  cases c : g_in a 0 5 with
  | false =>
    rw [if_pos (by rfl), m_isA (by decide), if_neg (by simp)]; rfl
  | true =>
    obtain ⟨p, hp, rfl⟩ := g_in_t (n := 5) (by decide) c
    rw [if_neg qn1, m_b1 (by omega), m_b2 wl (by omega), m_isIn, g_in_1 (wl p (by omega)).2, g_cl (by omega), (wl p (by omega)).1]
    simp only [Option.bind_some, cond_true, Bool.true_and]
    cases d : (!decide (j < 0) && decide (j < nI (g_ln A p))) with
    | false => rw [if_neg qn0, m_isA (by decide), if_neg (by decide)]; rfl
    | true => rw [if_pos qn1, m_isA0, if_pos (by decide)]; rfl
theorem law_slot {b : Nat} {A : g_A} {H : q_H} {a j w : Int32} (hW : g_W A) (hR : g_R b (g_st H 0) A) : g_law b A H (Rp_slot a j w H) (Mo_slot a j w) := by
  have wt := hW.1.1
  have wl := hW.1.2.2.1
  have wv := hW.1.2.2.2.1
  have wi := hW.2.1.1
  have wT := hW.1.2.2.2.2.2.2.1
  rcases g_in_c (a := w) (n := 3) (by decide) with ⟨c, d⟩ | ⟨c, x, hx, rfl, d1, d2, d3, d4, d5⟩
  · have e : Rp_slot a j w H = some (-1, q_si H 24 6 6 0 1) := by
      unfold Rp_slot
      rcases d with d | ⟨d1, d2, d3, d4, d5⟩
      · rw [if_pos d]; rfl
      · rw [if_neg d1, if_neg (show ¬ w ≤ 3 from d3)]; rfl
    rw [e]
    refine law_q hR hW (fun h _ => ?_)
    unfold Mo_slot
    rw [m_isIn, show g_in w 0 3 = false from c]
    simp only [Option.bind_some]
    rw [m_asksS0]
    rfl
  · cases c2 : g_sk A a j with
    | false =>
      have e : Rp_slot a j (nI x) H = some (-1, q_si H 24 6 6 0 2) := by
        unfold Rp_slot
        rw [if_neg d1, if_pos (show nI x ≤ 3 from d3), c_hasSlot hR wl, c2]; rfl
      rw [e]
      refine law_q hR hW (fun h _ => ?_)
      unfold Mo_slot
      rw [m_isIn, show g_in (nI x) 0 3 = true from c]
      simp only [Option.bind_some]
      rw [m_asksS1 wl, c2, if_neg (by decide)]
      rfl
    | true =>
      obtain ⟨p, q, rfl, rfl, hp, hq, hq10⟩ := g_sk_t wl c2
      have hs : 10 * p + q < 60 := by omega
      have iv : g_iv A (10 * p + q) = true := by rw [g_iv_pj hq10]; exact decide_eq_true hq
      have rs := r_ps hR.2.2.2.1 hs
      have hm : (10 : Int32) * nI p + nI q = nI (10 * p + q) := by rw [m_b4, nI_add]
      have wtu : g_wtu A (10 * p + q) := fun k => (wT _ hs iv k).1
      have wh : g_wh A (10 * p + q) := fun k => by
        by_cases z : A 1 (10 * p + q) 0 = 2
        · exact (wT _ hs iv z).2.1
        · unfold g_ch at k ⊢
          by_cases y : A 1 (10 * p + q) 0 = 1
          · rw [if_pos y]; unfold g_fu; rw [iv, decide_eq_true y]; rfl
          · rw [if_neg y, if_neg z] at k; exact absurd k (by decide)
      have key : ∀ v : Int32, Rp_slot (nI p) (nI q) (nI x) H = some (v, q_si H 24 6 6 0 0) → (∀ h : q_H, (if ¬ nI x = 0 then (if ¬ nI x = 1 then (if ¬ nI x = 2 then ((Mo_chainMany (nI (10 * p + q)) (g_ma h 31 A)).bind fun x5 => some ((x5, g_ma h 31 A))) else ((Mo_entriesTo (nI (10 * p + q)) (g_ma h 31 A)).bind fun x7 => some ((x7, g_ma h 31 A)))) else ((Mo_of (nI (10 * p + q)) (0 : Int32) (g_ma h 31 A)).bind fun x10 => if ¬ x10 = (2 : Int32) then (some (((-1 : Int32), g_ma h 31 A))) else ((Mo_of (nI (10 * p + q)) (1 : Int32) (g_ma h 31 A)).bind fun x12 => some ((x12, g_ma h 31 A))))) else ((Mo_of (nI (10 * p + q)) (0 : Int32) (g_ma h 31 A)).bind fun x16 => some ((x16, g_ma h 31 A)))) = some (v, g_ma h 31 A)) → g_law b A H (Rp_slot (nI p) (nI q) (nI x) H) (Mo_slot (nI p) (nI q) (nI x)) := fun v e1 e2 => by
        rw [e1]
        refine law_q hR hW (fun h _ => ?_)
        unfold Mo_slot
        rw [m_isIn, show g_in (nI x) 0 3 = true from c]
        simp only [Option.bind_some]
        rw [m_asksS1 wl, c2, if_pos (by decide), hm]
        simp only [Option.bind_some]
        rw [if_pos q1n]
        exact e2 (g_s 0 h)
      have pre : Rp_slot (nI p) (nI q) (nI x) H = (if nI x = 0 then ((Pg_at 0 (nI (10 * p + q)) H).bind fun x5 => (Rp_answer (H.1 3 0 0 x5) H).bind fun x7 => some ((x7.1, x7.2))) else (if nI x = 1 then ((Pg_at 0 (nI (10 * p + q)) H).bind fun x9 => (Rp_slotOf (H.1 3 1 0 x9) H).bind fun x11 => (Rp_answer x11 H).bind fun x13 => some ((x13.1, x13.2))) else (if nI x = 2 then ((Ix_howManyLeadTo 0 (nI (10 * p + q)) H).bind fun x15 => (Rp_answer x15 H).bind fun x17 => some ((x17.1, x17.2))) else ((St_chainLength 0 (nI (10 * p + q)) H).bind fun x19 => (Rp_answer x19 H).bind fun x21 => some ((x21.1, x21.2)))))) := by
        unfold Rp_slot
        rw [if_neg d1, if_pos (show nI x ≤ 3 from d3), c_hasSlot hR wl, c2, c_idx]
        simp only [Option.bind_some]
        rw [if_pos qn1]
      have hx4 : x = 0 ∨ x = 1 ∨ x = 2 ∨ x = 3 := by omega
      rcases hx4 with rfl | rfl | rfl | rfl
      · refine key (A 1 (10 * p + q) 0) ?_ (fun h => ?_)
        · have e0 : H.1 3 0 0 (10 * p + q) = A 1 (10 * p + q) 0 := by
            cases f : g_fu A (10 * p + q) with
            | true =>
              rw [show H.1 3 0 0 (10 * p + q) = _ from (rs.1 f).1]
              unfold g_fu at f
              rw [iv, Bool.true_and, decide_eq_true_iff] at f
              exact f.symm
            | false =>
              rw [show H.1 3 0 0 (10 * p + q) = _ from (rs.2 f).1, if_pos iv]
          rw [pre, if_pos (by decide), c_at hs]
          simp only [Option.bind_some]
          rw [e0]; rfl
        · rw [if_neg (by decide), m_of0 hs]; rfl
      · have hP : Rp_slotOf (H.1 3 1 0 (10 * p + q)) H = some (if A 1 (10 * p + q) 0 = 2 then A 1 (10 * p + q) 1 else -1) := by
          cases f : g_fu A (10 * p + q) with
          | true =>
            rw [show H.1 3 1 0 (10 * p + q) = _ from (rs.1 f).2.1, c_slotOf1]
            unfold g_fu at f
            rw [iv, Bool.true_and, decide_eq_true_iff] at f
            rw [if_neg (by rw [f]; decide)]
          | false =>
            rw [show H.1 3 1 0 (10 * p + q) = _ from (rs.2 f).2.1]
            by_cases z : A 1 (10 * p + q) 0 = 2
            · obtain ⟨y, hy, e⟩ := wtu z
              rw [if_pos ⟨iv, z⟩, if_pos z, e, nI_add, c_slotOf (by omega)]
              congr 2; omega
            · rw [if_neg (fun k => z k.2), if_neg z, c_slotOf1]
        refine key (if A 1 (10 * p + q) 0 = 2 then A 1 (10 * p + q) 1 else -1) ?_ (fun h => ?_)
        · rw [pre, if_neg (by decide), if_pos (by decide), c_at hs]
          simp only [Option.bind_some]
          rw [hP]; rfl
        · rw [if_pos (by decide), if_neg (by decide), m_of0 hs]
          simp only [Option.bind_some]
          by_cases z : A 1 (10 * p + q) 0 = 2
          · rw [if_neg (fun k => k z), if_pos z, m_of1 hs]; rfl
          · rw [if_pos z, if_neg z]
      · refine key (g_et A (10 * p + q)) ?_ (fun h => ?_)
        · rw [pre, if_neg (by decide), if_neg (by decide), if_pos (by decide), c_leads hs hR.2.2.2.2.2.1 wi]; rfl
        · rw [if_pos (by decide), if_pos (by decide), if_neg (by decide), m_entriesTo hs wi]; rfl
      · refine key (nI (g_cn A (10 * p + q))) ?_ (fun h => ?_)
        · rw [pre, if_neg (by decide), if_neg (by decide), if_neg (by decide), c_chainLength hs iv hR.2.1 hR.2.2.2.1 wt hW.1.2.1 wv hW.1.2.2.2.2.1 wh wtu]; rfl
        · rw [if_pos (by decide), if_pos (by decide), if_pos (by decide), m_chainMany hs wl wt wv hW.1.2.2.2.2.1 wh wtu]; rfl
