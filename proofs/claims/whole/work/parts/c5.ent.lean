/-! entry, found, event, knows, sees, trail -/
theorem g_01d {v : Int32} (h : g_01 v) : q_bi (decide (v = 1)) = v := by
  rcases h with rfl | rfl <;> rfl
theorem law_entry {b : Nat} {A : g_A} {H : q_H} {a w : Int32} (hW : g_W A) (hR : g_R b (g_st H 0) A) : g_law b A H (Rp_entry a w H) (Mo_entry a w) := by
  have wi := hW.2.1.1
  have ri := hR.2.2.2.2.2.1
  by_cases d0 : a < 0
  · have e : Rp_entry a w H = some (-1, q_si H 24 6 6 0 1) := by
      unfold Rp_entry
      rw [if_pos d0]; rfl
    rw [e]
    refine law_q hR hW (fun h _ => ?_)
    unfold Mo_entry
    rw [if_pos d0, Option.bind_some, m_isA (by decide)]
    rfl
  · rcases g_in_c (a := w) (n := 3) (by decide) with ⟨c, d⟩ | ⟨c, x, hx, rfl, d1, d2, d3, d4, d5⟩
    · have e : Rp_entry a w H = some (-1, q_si H 24 6 6 0 1) := by
        unfold Rp_entry
        rw [if_neg d0]
        rcases d with d | ⟨d1, d2, d3, d4, d5⟩
        · rw [if_pos d]; rfl
        · rw [if_neg d1, if_neg (show ¬ w ≤ 3 from d3)]; rfl
      rw [e]
      refine law_q hR hW (fun h _ => ?_)
      unfold Mo_entry
      rw [if_neg d0, m_isIn, show g_in w 0 3 = false from c]
      simp only [Option.bind_some]
      rw [if_neg qn0, Option.bind_some, m_isA (by decide)]
      rfl
    · have e3 : H.1 11 3 0 0 = nI (g_ne A) := (show H.1 11 3 0 0 = _ from ri.1).trans wi.1
      have m3 : ∀ h : q_H, (g_ma h 31 A).1 31 0 7 5 = nI (g_ne A) := fun h => by rw [m_g (by omega), wi.1]
      have h60 := wi.2.1
      rcases pk_ix a (n := g_ne A) (by omega) with k | k | ⟨i, hi, rfl⟩
      · exact absurd k d0
      · have e : Rp_entry a (nI x) H = some (-1, q_si H 24 6 6 0 5) := by
          unfold Rp_entry
          rw [if_neg d0, if_neg d1, if_pos (show nI x ≤ 3 from d3), e3, if_neg (Int32.not_lt.mpr k)]; rfl
        rw [e]
        refine law_q hR hW (fun h _ => ?_)
        unfold Mo_entry
        rw [if_neg d0, m_isIn, show g_in (nI x) 0 3 = true from c]
        simp only [Option.bind_some]
        rw [if_pos qn1, m3, if_neg (Int32.not_lt.mpr k), Option.bind_some, m_isA (by decide)]
        rfl
      · have hlt : nI i < nI (g_ne A) := nI_lt (by omega) (by omega)
        have hep := g_ep_lt wi hi
        have hM : ∀ h : q_H, Mo_entry (nI i) (nI x) (g_ma h 31 A) = some (A 2 i x, g_ma (g_s 0 h) 31 A) := fun h => by
          unfold Mo_entry
          rw [if_neg d0, m_isIn, show g_in (nI x) 0 3 = true from c]
          simp only [Option.bind_some]
          rw [if_pos qn1, m3, if_pos hlt, Option.bind_some, m_isA0]
          simp only [Option.bind_some]
          rw [if_pos q1n, m_en_ (by omega) (by omega)]
          rfl
        have e : Rp_entry (nI i) (nI x) H = some (A 2 i x, q_si H 24 6 6 0 0) := by
          unfold Rp_entry
          rw [if_neg d0, if_neg d1, if_pos (show nI x ≤ 3 from d3), e3, if_pos hlt]
          have hx4 : x = 0 ∨ x = 1 ∨ x = 2 ∨ x = 3 := by omega
          rcases hx4 with rfl | rfl | rfl | rfl
          · rw [if_pos (by decide), c_keyAt ri wi hi]; rfl
          · rw [if_neg (by decide), if_pos (by decide), c_placeAt ri wi hi]
            simp only [Option.bind_some]
            rw [c_pageOf hep.1, ← hep.2.1]; rfl
          · rw [if_neg (by decide), if_neg (by decide), if_pos (by decide), c_placeAt ri wi hi]
            simp only [Option.bind_some]
            rw [c_slotOf hep.1, ← hep.2.2]; rfl
          · rw [if_neg (by decide), if_neg (by decide), if_neg (by decide), c_isKilled ri wi hi, g_01d (wi.2.2 i hi).2]
            simp only [Option.bind_some]
            exact g_01v (wi.2.2 i hi).2
        rw [e]
        exact law_q hR hW (fun h _ => hM h)
theorem law_found {b : Nat} {A : g_A} {H : q_H} {a w : Int32} (hW : g_W A) (hR : g_R b (g_st H 0) A) : g_law b A H (Rp_found a w H) (Mo_found a w) := by
  have wd := hW.2.2.2.2.2.2.1
  have rf := hR.2.2.2.2.2.2.2.1
  by_cases d0 : a < 0
  · have e : Rp_found a w H = some (-1, q_si H 24 6 6 0 1) := by
      unfold Rp_found
      rw [if_pos d0]; rfl
    rw [e]
    refine law_q hR hW (fun h _ => ?_)
    unfold Mo_found
    rw [if_pos d0, Option.bind_some, m_isA (by decide)]
    rfl
  · rcases g_in_c (a := w) (n := 4) (by decide) with ⟨c, d⟩ | ⟨c, x, hx, rfl, d1, d2, d3, d4, d5⟩
    · have e : Rp_found a w H = some (-1, q_si H 24 6 6 0 1) := by
        unfold Rp_found
        rw [if_neg d0]
        rcases d with d | ⟨d1, d2, d3, d4, d5⟩
        · rw [if_pos d]; rfl
        · rw [if_neg d1, if_neg (show ¬ w ≤ 4 from d3)]; rfl
      rw [e]
      refine law_q hR hW (fun h _ => ?_)
      unfold Mo_found
      rw [if_neg d0, m_isIn, show g_in w 0 4 = false from c]
      simp only [Option.bind_some]
      rw [if_neg qn0, Option.bind_some, m_isA (by decide)]
      rfl
    · have e3 : H.1 19 4 0 0 = nI (g_nf A) := (show H.1 19 4 0 0 = _ from rf.1).trans wd.1
      have m3 : ∀ h : q_H, (g_ma h 31 A).1 31 0 7 7 = nI (g_nf A) := fun h => by rw [m_g (by omega), wd.1]
      have h60 := wd.2.1
      rcases pk_ix a (n := g_nf A) (by omega) with k | k | ⟨i, hi, rfl⟩
      · exact absurd k d0
      · have e : Rp_found a (nI x) H = some (-1, q_si H 24 6 6 0 5) := by
          unfold Rp_found
          rw [if_neg d0, if_neg d1, if_pos (show nI x ≤ 4 from d3), e3, if_neg (Int32.not_lt.mpr k)]; rfl
        rw [e]
        refine law_q hR hW (fun h _ => ?_)
        unfold Mo_found
        rw [if_neg d0, m_isIn, show g_in (nI x) 0 4 = true from c]
        simp only [Option.bind_some]
        rw [if_pos qn1, m3, if_neg (Int32.not_lt.mpr k), Option.bind_some, m_isA (by decide)]
        rfl
      · have hlt : nI i < nI (g_nf A) := nI_lt (by omega) (by omega)
        obtain ⟨r1, r2, r3, r4⟩ := rf.2 i hi
        obtain ⟨p, q, hp, hq, w2, w3⟩ := wd.2.2 i hi
        have r3' : H.1 22 0 0 i = nI (10 * p + q) := by
          rw [show H.1 22 0 0 i = _ from r3, w2, w3, g_cl (by omega), g_cl (by omega)]
        have hM : ∀ h : q_H, Mo_found (nI i) (nI x) (g_ma h 31 A) = some (A 5 i x, g_ma (g_s 0 h) 31 A) := fun h => by
          unfold Mo_found
          rw [if_neg d0, m_isIn, show g_in (nI x) 0 4 = true from c]
          simp only [Option.bind_some]
          rw [if_pos qn1, m3, if_pos hlt, Option.bind_some, m_isA0]
          simp only [Option.bind_some]
          rw [if_pos q1n, show (1283 : Int32) = nI 1283 from rfl, show (5 : Int32) = nI 5 from rfl, pk_mul, nI_add, nI_add, g_inN (by omega) (by decide), g_cl (by omega), g_ma_rd (by omega), g_at5 (by omega) (by omega)]
          rfl
        have e : Rp_found (nI i) (nI x) H = some (A 5 i x, q_si H 24 6 6 0 0) := by
          unfold Rp_found
          rw [if_neg d0, if_neg d1, if_pos (show nI x ≤ 4 from d3), e3, if_pos hlt]
          have key : Fo_told 0 (nI i) (nI x) H = some (A 5 i x) := by
            unfold Fo_told
            have hx5 : x = 0 ∨ x = 1 ∨ x = 2 ∨ x = 3 ∨ x = 4 := by omega
            rcases hx5 with rfl | rfl | rfl | rfl | rfl
            · rw [if_pos (by decide), c_pick (t := 20) (n := 60) rfl rfl (by omega) (by omega), show H.1 20 0 0 i = _ from r1]; rfl
            · rw [if_neg (by decide), if_pos (by decide), c_pick (t := 21) (n := 60) rfl rfl (by omega) (by omega), show H.1 21 0 0 i = _ from r2]; rfl
            · rw [if_neg (by decide), if_neg (by decide), if_pos (by decide), c_pick (t := 22) (n := 60) rfl rfl (by omega) (by omega), r3', Option.bind_some, c_pageOf (by omega), w2]
              show some (nI ((10 * p + q) / 10)) = some (nI p)
              congr 2; omega
            · rw [if_neg (by decide), if_neg (by decide), if_neg (by decide), if_pos (by decide), c_pick (t := 22) (n := 60) rfl rfl (by omega) (by omega), r3', Option.bind_some, c_slotOf (by omega), w3]
              show some (nI ((10 * p + q) % 10)) = some (nI q)
              congr 2; omega
            · rw [if_neg (by decide), if_neg (by decide), if_neg (by decide), if_neg (by decide), c_pick (t := 23) (n := 60) rfl rfl (by omega) (by omega), show H.1 23 0 0 i = _ from r4]; rfl
          rw [key]; rfl
        rw [e]
        exact law_q hR hW (fun h _ => hM h)
theorem law_event {b : Nat} {A : g_A} {H : q_H} {a w : Int32} (hW : g_W A) (hR : g_R b (g_st H 0) A) : g_law b A H (Rp_event a w H) (Mo_event a w) := by
  have wg := hW.2.2.1
  have rl := hR.2.2.2.2.2.2.1
  rcases g_in_c (a := a) (n := 23) (by decide) with ⟨c0, d⟩ | ⟨c0, i, hi, rfl, e1, e2, e3, e4, e5⟩
  · have e : Rp_event a w H = some (-1, q_si H 24 6 6 0 1) := by
      unfold Rp_event
      rcases d with d | ⟨d1, d2, d3, d4, d5⟩
      · rw [if_pos d]; rfl
      · rw [if_neg d1, if_pos (show (24 : Int32) ≤ a from d5)]; rfl
    rw [e]
    refine law_q hR hW (fun h _ => ?_)
    unfold Mo_event
    rw [m_isIn, show g_in a 0 23 = false from c0]
    simp only [Option.bind_some]
    rw [if_pos (show q_bi false = 0 from rfl), Option.bind_some, m_isA (by decide)]
    rfl
  · rcases g_in_c (a := w) (n := 1) (by decide) with ⟨c, d⟩ | ⟨c, x, hx, rfl, d1, d2, d3, d4, d5⟩
    · have e : Rp_event (nI i) w H = some (-1, q_si H 24 6 6 0 1) := by
        unfold Rp_event
        rw [if_neg e1, if_neg (show ¬ (24 : Int32) ≤ nI i from e5)]
        rcases d with d | ⟨d1, d2, d3, d4, d5⟩
        · rw [if_pos d]; rfl
        · rw [if_neg d1, if_neg (show ¬ w ≤ 1 from d3)]; rfl
      rw [e]
      refine law_q hR hW (fun h _ => ?_)
      unfold Mo_event
      rw [m_isIn, show g_in (nI i) 0 23 = true from c0]
      simp only [Option.bind_some]
      rw [if_neg qn1, m_isIn, show g_in w 0 1 = false from c]
      simp only [Option.bind_some]
      rw [if_neg qn0, Option.bind_some, m_isA (by decide)]
      rfl
    · have k3 : H.1 15 3 0 0 = A 0 6 0 := rl.1
      have pre : ∀ h : q_H, Mo_event (nI i) (nI x) (g_ma h 31 A) = (Option.bind (α := Int32) (if nI i < A 0 6 0 then (some ((0 : Int32))) else (some ((5 : Int32)))) (fun p12 => (Mo_is p12 (g_ma h 31 A)).bind fun x13 => if ¬ x13.1 = 0 then (bif q_in (((1235 : Int32) + ((2 : Int32) * nI i)) + nI x) 1644 then (some (((x13.2.1 31 0 7 (((1235 : Int32) + ((2 : Int32) * nI i)) + nI x).toNatClampNeg), x13.2))) else none) else (some (((-1 : Int32), x13.2))))) := fun h => by
        unfold Mo_event
        rw [m_isIn, show g_in (nI i) 0 23 = true from c0]
        simp only [Option.bind_some]
        rw [if_neg qn1, m_isIn, show g_in (nI x) 0 1 = true from c]
        simp only [Option.bind_some]
        rw [if_pos qn1, m_g (by omega)]
      by_cases hv : nI i < A 0 6 0
      · have hiv : i < g_nv A := by
          rw [wg.1] at hv
          by_cases q : i < g_nv A
          · exact q
          · exact absurd hv (nI_nlt (by have := wg.2; omega) (by omega))
        obtain ⟨r1, r2⟩ := rl.2.1 i hiv
        have e : Rp_event (nI i) (nI x) H = some (A 4 i x, q_si H 24 6 6 0 0) := by
          unfold Rp_event Lg_numberAt Lg_kindAt
          rw [if_neg e1, if_neg (show ¬ (24 : Int32) ≤ nI i from e5), if_neg d1, if_pos (show nI x ≤ 1 from d3), k3, if_pos hv]
          have hx2 : x = 0 ∨ x = 1 := by omega
          rcases hx2 with rfl | rfl
          · rw [if_neg (by decide), c_pick (t := 16) (n := 24) rfl rfl (by omega) (by omega), show H.1 16 0 0 i = _ from r1]; rfl
          · rw [if_pos (by decide), c_pick (t := 17) (n := 24) rfl rfl (by omega) (by omega), show H.1 17 0 0 i = _ from r2]; rfl
        rw [e]
        refine law_q hR hW (fun h _ => ?_)
        rw [pre, if_pos hv, Option.bind_some, m_isA0]
        simp only [Option.bind_some]
        rw [if_pos q1n, show (1235 : Int32) = nI 1235 from rfl, show (2 : Int32) = nI 2 from rfl, pk_mul, nI_add, nI_add, g_inN (by omega) (by decide), g_cl (by omega), g_ma_rd (by omega), g_at4 (by omega) (by omega)]
        rfl
      · have e : Rp_event (nI i) (nI x) H = some (-1, q_si H 24 6 6 0 5) := by
          unfold Rp_event
          rw [if_neg e1, if_neg (show ¬ (24 : Int32) ≤ nI i from e5), if_neg d1, if_pos (show nI x ≤ 1 from d3), k3, if_neg hv]; rfl
        rw [e]
        refine law_q hR hW (fun h _ => ?_)
        rw [pre, if_neg hv, Option.bind_some, m_isA (by decide)]
        rfl
theorem law_knows {b : Nat} {A : g_A} {H : q_H} {a o : Int32} (hW : g_W A) (hR : g_R b (g_st H 0) A) : g_law b A H (Rp_knows a o H) (Mo_knows a o) := by
  have wt := hW.1.1
  have n61 := wt.2.2
  have no : ∀ h : q_H, (Option.bind (α := Int32) (some ((2 : Int32))) (fun p11 => (Mo_is p11 (g_ma h 31 A)).bind fun x12 => if ¬ x12.1 = 0 then ((Mo_isKnown a o x12.2).bind fun x14 => if x14 = 0 then (some (((0 : Int32), x12.2))) else (some (((1 : Int32), x12.2)))) else (some (((-1 : Int32), x12.2))))) = some (-1, g_ma (g_s 2 h) 31 A) := fun h => by
    rw [Option.bind_some, m_isA (by decide)]; rfl
  unfold Rp_knows
  rw [c_has hR.2.1 wt]
  simp only [Option.bind_some]
  cases c1 : g_tx A a with
  | false =>
    rw [if_pos (show q_bi false = 0 from rfl), e_refuse]
    refine law_q hR hW (fun h _ => ?_)
    unfold Mo_knows
    rw [m_isTxn wt, c1]
    simp only [Option.bind_some]
    rw [if_pos (show q_bi false = 0 from rfl)]
    exact no h
  | true =>
    rw [if_neg qn1, c_has hR.2.1 wt]
    simp only [Option.bind_some]
    cases c2 : g_tx A o with
    | false =>
      rw [if_neg qn0, e_refuse]
      refine law_q hR hW (fun h _ => ?_)
      unfold Mo_knows
      rw [m_isTxn wt, c1]
      simp only [Option.bind_some]
      rw [if_neg qn1, m_isTxn wt, c2]
      simp only [Option.bind_some]
      rw [if_pos (show q_bi false = 0 from rfl)]
      exact no h
    | true =>
      obtain ⟨t, rfl, t1, t2⟩ := g_tx_t wt c1
      obtain ⟨u, rfl, u1, u2⟩ := g_tx_t wt c2
      rw [if_pos qn1, c_kn hR.2.1 wt t1 t2 u1 u2]
      simp only [Option.bind_some]
      rw [g_01v (g_01q _)]
      refine law_q hR hW (fun h _ => ?_)
      unfold Mo_knows
      rw [m_isTxn wt, c1]
      simp only [Option.bind_some]
      rw [if_neg qn1, m_isTxn wt, c2]
      simp only [Option.bind_some]
      rw [if_neg qn1, Option.bind_some, m_isA0]
      simp only [Option.bind_some]
      rw [if_pos q1n, m_isKnown (by omega) u1 (by omega)]
      simp only [Option.bind_some]
      cases g_kn A t u
      · rw [if_pos (by rfl)]; rfl
      · rw [if_neg qn1]; rfl
theorem m_page_ {s : Nat} (hs : s < 60) : nI s / (10 : Int32) = nI (s / 10) := by
  rw [show (10 : Int32) = nI 10 from rfl, pk_div (by omega) (by omega) (by omega)]
theorem m_slot_ {s : Nat} (hs : s < 60) : nI s - nI s / (10 : Int32) * (10 : Int32) = nI (s % 10) := by
  rw [show (10 : Int32) = nI 10 from rfl, pk_rem (by omega) (by omega) (by omega)]
theorem g_pp_n {s : Nat} (hs : ¬ s < 60) : g_pp s = -1 := if_neg hs
theorem g_pp_p {s : Nat} (hs : s < 60) : g_pp s = nI s := if_pos hs
theorem nI_n1 {n : Nat} (h : n < 2 ^ 31) : ¬ nI n = -1 := fun q => absurd (q ▸ nI_pos' (n := n) h) (by decide)
theorem law_trail {b : Nat} {A : g_A} {H : q_H} {a i w : Int32} (hW : g_W A) (hR : g_R b (g_st H 0) A) (hb : b < 2 ^ 30) : g_law b A H (Rp_trail a i w H) (Mo_trail a i w) := by
  have wl := hW.1.2.2.1
  have wr := hW.2.2.2.2.1
  by_cases d0 : i < 0
  · have e : Rp_trail a i w H = some (-1, q_si H 24 6 6 0 1) := by
      unfold Rp_trail
      rw [if_pos d0]; rfl
    rw [e]
    refine law_q hR hW (fun h _ => ?_)
    unfold Mo_trail
    rw [if_pos d0, Option.bind_some, m_isA (by decide)]
    rfl
  · rcases g_in_c (a := w) (n := 1) (by decide) with ⟨c, d⟩ | ⟨c, x, hx, rfl, d1, d2, d3, d4, d5⟩
    · have e : Rp_trail a i w H = some (-1, q_si H 24 6 6 0 1) := by
        unfold Rp_trail
        rw [if_neg d0]
        rcases d with d | ⟨d1, d2, d3, d4, d5⟩
        · rw [if_pos d]; rfl
        · rw [if_neg d1, if_neg (show ¬ w ≤ 1 from d3)]; rfl
      rw [e]
      refine law_q hR hW (fun h _ => ?_)
      unfold Mo_trail
      rw [if_neg d0, m_isIn, show g_in w 0 1 = false from c]
      simp only [Option.bind_some]
      rw [if_neg qn0, Option.bind_some, m_isA (by decide)]
      rfl
    · unfold Rp_trail
      rw [if_neg d0, if_neg d1, if_pos (show nI x ≤ 1 from d3), c_hasRow hR.1.2.2.2]
      simp only [Option.bind_some]
      cases c2 : g_rw A a with
      | false =>
        rw [if_neg qn0, e_refuse]
        refine law_q hR hW (fun h _ => ?_)
        unfold Mo_trail
        rw [if_neg d0, m_isIn, show g_in (nI x) 0 1 = true from c]
        simp only [Option.bind_some]
        rw [if_pos qn1, m_isRow wr.1 wr.2.1, c2]
        simp only [Option.bind_some]
        rw [if_neg qn0, Option.bind_some, m_isA (by decide)]
        rfl
      | true =>
        have pre : ∀ h : q_H, Mo_trail a i (nI x) (g_ma h 31 A) = (if 0 ≤ g_pp (g_pm A a i) then (if ¬ nI x = 0 then (some ((g_pp (g_pm A a i) - g_pp (g_pm A a i) / (10 : Int32) * (10 : Int32)), g_ma (g_s 0 h) 31 A)) else (some ((g_pp (g_pm A a i) / (10 : Int32)), g_ma (g_s 0 h) 31 A))) else ((Mo_refuse (5 : Int32) (g_ma (g_s 0 h) 31 A)).bind fun x18 => some ((x18.1, x18.2)))) := fun h => by
          unfold Mo_trail
          rw [if_neg d0, m_isIn, show g_in (nI x) 0 1 = true from c]
          simp only [Option.bind_some]
          rw [if_pos qn1, m_isRow wr.1 wr.2.1, c2]
          simp only [Option.bind_some]
          rw [if_pos qn1, Option.bind_some, m_isA0]
          simp only [Option.bind_some]
          rw [if_pos q1n, m_madeAs wl]
          rfl
        rw [if_pos qn1, c_placeMade hR.2.2.2.2.2.2.2.2 hb hR.2.2.2.1]
        simp only [Option.bind_some]
        by_cases s : g_pm A a i < 60
        · have hx2 : x = 0 ∨ x = 1 := by omega
          rw [g_pp_p s, if_pos (nI_n1 (by omega))]
          rcases hx2 with rfl | rfl
          · rw [if_neg (by decide), c_pageOf s]
            simp only [Option.bind_some]
            rw [e_answer]
            refine law_q hR hW (fun h _ => ?_)
            rw [pre, g_pp_p s, if_pos (nI_pos' (by omega)), if_neg (by decide), m_page_ s]
          · rw [if_pos (by decide), c_slotOf s]
            simp only [Option.bind_some]
            rw [e_answer]
            refine law_q hR hW (fun h _ => ?_)
            rw [pre, g_pp_p s, if_pos (nI_pos' (by omega)), if_pos (by decide), m_slot_ s]
        · rw [g_pp_n s, if_neg (by decide), e_refuse]
          refine law_q hR hW (fun h _ => ?_)
          rw [pre, g_pp_n s, if_neg (by decide), m_ref]
          rfl
theorem law_sees {b : Nat} {A : g_A} {H : q_H} {a row w : Int32} (hW : g_W A) (hR : g_R b (g_st H 0) A) : g_law b A H (Rp_sees a row w H) (Mo_sees a row w) := by
  have wt := hW.1.1
  have n61 := wt.2.2
  have wl := hW.1.2.2.1
  have wv := hW.1.2.2.2.1
  have wr := hW.2.2.2.2.1
  rcases g_in_c (a := w) (n := 3) (by decide) with ⟨c, d⟩ | ⟨c, x, hx, rfl, d1, d2, d3, d4, d5⟩
  · have e : Rp_sees a row w H = some (-1, q_si H 24 6 6 0 1) := by
      unfold Rp_sees
      rcases d with d | ⟨d1, d2, d3, d4, d5⟩
      · rw [if_pos d]; rfl
      · rw [if_neg d1, if_neg (show ¬ w ≤ 3 from d3)]; rfl
    rw [e]
    refine law_q hR hW (fun h _ => ?_)
    unfold Mo_sees
    rw [m_isIn, show g_in w 0 3 = false from c]
    simp only [Option.bind_some]
    rw [if_neg qn0, Option.bind_some, m_isA (by decide)]
    rfl
  · unfold Rp_sees
    rw [if_neg d1, if_pos (show nI x ≤ 3 from d3), c_has hR.2.1 wt]
    simp only [Option.bind_some]
    cases c1 : g_tx A a with
    | false =>
      rw [if_pos (show q_bi false = 0 from rfl), e_refuse]
      refine law_q hR hW (fun h _ => ?_)
      unfold Mo_sees
      rw [m_isIn, show g_in (nI x) 0 3 = true from c]
      simp only [Option.bind_some]
      rw [if_pos qn1, m_isTxn wt, c1]
      simp only [Option.bind_some]
      rw [if_pos (show q_bi false = 0 from rfl), Option.bind_some, m_isA (by decide)]
      rfl
    | true =>
      rw [if_neg qn1, c_hasRow hR.1.2.2.2]
      simp only [Option.bind_some]
      cases c2 : g_rw A row with
      | false =>
        rw [if_neg qn0, e_refuse]
        refine law_q hR hW (fun h _ => ?_)
        unfold Mo_sees
        rw [m_isIn, show g_in (nI x) 0 3 = true from c]
        simp only [Option.bind_some]
        rw [if_pos qn1, m_isTxn wt, c1]
        simp only [Option.bind_some]
        rw [if_neg qn1, m_isRow wr.1 wr.2.1, c2]
        simp only [Option.bind_some]
        rw [if_neg qn0, Option.bind_some, m_isA (by decide)]
        rfl
      | true =>
        obtain ⟨t, rfl, t1⟩ := g_tx_t wt c1
        have pre : ∀ h : q_H, Mo_sees (nI t) row (nI x) (g_ma h 31 A) = (if 0 ≤ g_pp (g_so A t row) then (if ¬ nI x = 0 then (if ¬ nI x = (1 : Int32) then ((Mo_of (g_pp (g_so A t row)) (((3 : Int32) + nI x) - (2 : Int32)) (g_ma (g_s 0 h) 31 A)).bind fun x19 => some ((x19, g_ma (g_s 0 h) 31 A))) else (some ((g_pp (g_so A t row) - g_pp (g_so A t row) / (10 : Int32) * (10 : Int32)), g_ma (g_s 0 h) 31 A))) else (some ((g_pp (g_so A t row) / (10 : Int32)), g_ma (g_s 0 h) 31 A))) else ((Mo_refuse (6 : Int32) (g_ma (g_s 0 h) 31 A)).bind fun x23 => some ((x23.1, x23.2)))) := fun h => by
          unfold Mo_sees
          rw [m_isIn, show g_in (nI x) 0 3 = true from c]
          simp only [Option.bind_some]
          rw [if_pos qn1, m_isTxn wt, c1]
          simp only [Option.bind_some]
          rw [if_neg qn1, m_isRow wr.1 wr.2.1, c2]
          simp only [Option.bind_some]
          rw [if_pos qn1, Option.bind_some, m_isA0]
          simp only [Option.bind_some]
          rw [if_pos q1n, m_seenOf wl wt wv t1]
          rfl
        rw [if_pos qn1, c_seenPlace hR.2.1 hR.2.2.2.1 wt wv t1]
        simp only [Option.bind_some]
        by_cases s : g_so A t row < 60
        · have hx4 : x = 0 ∨ x = 1 ∨ x = 2 ∨ x = 3 := by omega
          obtain ⟨f, _, _⟩ := g_so_f s
          obtain ⟨_, _, _, s3, s4, _⟩ := (r_ps hR.2.2.2.1 s).1 f
          rw [g_pp_p s, if_pos (nI_n1 (by omega))]
          rcases hx4 with rfl | rfl | rfl | rfl
          · rw [if_pos (by decide), c_pageOf s]
            simp only [Option.bind_some]
            rw [e_answer]
            refine law_q hR hW (fun h _ => ?_)
            rw [pre, g_pp_p s, if_pos (nI_pos' (by omega)), if_neg (by decide), m_page_ s]
          · rw [if_neg (by decide), if_pos (by decide), c_slotOf s]
            simp only [Option.bind_some]
            rw [e_answer]
            refine law_q hR hW (fun h _ => ?_)
            rw [pre, g_pp_p s, if_pos (nI_pos' (by omega)), if_pos (by decide), if_neg (by decide), m_slot_ s]
          · rw [if_neg (by decide), if_neg (by decide), if_pos (by decide), c_at s]
            simp only [Option.bind_some]
            rw [e_answer]
            refine law_q hR hW (fun h _ => ?_)
            rw [pre, g_pp_p s, if_pos (nI_pos' (by omega)), if_pos (by decide), if_pos (by decide), show ((3 : Int32) + nI 2) - (2 : Int32) = 3 by decide, m_of3 s, show H.1 3 3 0 (g_so A t row) = _ from s3]
            rfl
          · rw [if_neg (by decide), if_neg (by decide), if_neg (by decide), c_at s]
            simp only [Option.bind_some]
            rw [e_answer]
            refine law_q hR hW (fun h _ => ?_)
            rw [pre, g_pp_p s, if_pos (nI_pos' (by omega)), if_pos (by decide), if_pos (by decide), show ((3 : Int32) + nI 3) - (2 : Int32) = 4 by decide, m_of4 s, show H.1 3 4 0 (g_so A t row) = _ from s4]
            rfl
        · rw [g_pp_n s, if_neg (by decide), e_refuse]
          refine law_q hR hW (fun h _ => ?_)
          rw [pre, g_pp_n s, if_neg (by decide), m_ref]
          rfl
