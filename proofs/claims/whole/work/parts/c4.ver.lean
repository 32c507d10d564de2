/-! version -/
theorem c_stamp {b x s : Nat} {A : g_A} {H : q_H} (hW : g_W A) (hR : g_R b (g_st H 0) A) (hs : s < 60) (f : g_fu A s = true) (hx : x < 8) : Sl_stamp 0 s (nI x) H = some (A 1 s (2 + x)) := by
  obtain ⟨s0, s1, s2, s3, s4, s5, s6, s7, s8, s10, s11⟩ := (r_ps hR.2.2.2.1 hs).1 f
  have ws := hW.1.2.2.2.1 s hs f
  have hx8 : x = 0 ∨ x = 1 ∨ x = 2 ∨ x = 3 ∨ x = 4 ∨ x = 5 ∨ x = 6 ∨ x = 7 := by omega
  unfold Sl_stamp
  rcases hx8 with rfl | rfl | rfl | rfl | rfl | rfl | rfl | rfl
  · rw [if_pos (by decide), show H.1 3 2 0 s = _ from s2]
  · rw [if_neg (by decide), if_pos (by decide), show H.1 3 3 0 s = _ from s3]
  · rw [if_neg (by decide), if_neg (by decide), if_pos (by decide), show H.1 3 4 0 s = _ from s4]
  · rw [if_neg (by decide), if_neg (by decide), if_neg (by decide), if_pos (by decide), show H.1 3 5 0 s = _ from s5]
  · rw [if_neg (by decide), if_neg (by decide), if_neg (by decide), if_neg (by decide), if_pos (by decide), show H.1 3 6 0 s = _ from s6]
  · rw [if_neg (by decide), if_neg (by decide), if_neg (by decide), if_neg (by decide), if_neg (by decide), if_pos (by decide), show H.1 3 7 0 s = _ from s7]
  · rw [if_neg (by decide), if_neg (by decide), if_neg (by decide), if_neg (by decide), if_neg (by decide), if_neg (by decide), if_pos (by decide), show H.1 3 8 0 s = _ from s8]
    rcases ws.2.2.2.1 with ⟨e1, e2⟩ | ⟨p, q, hp, hq, e1, e2⟩
    · rw [e1, e2, show g_pl (-1) (-1) = -1 from rfl, c_pageOf1]; rfl
    · have e : g_pl (nI p) (nI q) = nI (10 * p + q) := by
        unfold g_pl
        rw [if_neg (show ¬ nI p < 0 from nI_nlt (b := 0) (by omega) (by omega)), pk_mul, nI_add]
      rw [e1, e2, e, c_pageOf (by omega)]
      show some (nI ((10 * p + q) / 10)) = some (nI p)
      congr 2; omega
  · rw [if_neg (by decide), if_neg (by decide), if_neg (by decide), if_neg (by decide), if_neg (by decide), if_neg (by decide), if_neg (by decide), show H.1 3 8 0 s = _ from s8]
    rcases ws.2.2.2.1 with ⟨e1, e2⟩ | ⟨p, q, hp, hq, e1, e2⟩
    · rw [e1, e2, show g_pl (-1) (-1) = -1 from rfl, c_slotOf1]; rfl
    · have e : g_pl (nI p) (nI q) = nI (10 * p + q) := by
        unfold g_pl
        rw [if_neg (show ¬ nI p < 0 from nI_nlt (b := 0) (by omega) (by omega)), pk_mul, nI_add]
      rw [e1, e2, e, c_slotOf (by omega)]
      show some (nI ((10 * p + q) % 10)) = some (nI q)
      congr 2; omega
def g_vv (A : g_A) (x s : Nat) : Int32 := if x < 10 then A 1 s (2 + x) else if x = 10 then q_bi (g_de A (g_hz A) s) else q_bi (g_dy A (g_hz A) s)
theorem g_01b {v : Int32} (h : g_01 v) : q_01 v = true := by
  rcases h with rfl | rfl <;> rfl
theorem g_01v {v : Int32} {H : q_H} (h : g_01 v) : (if v = 0 then ((Rp_answer (0 : Int32) H).bind fun x9 => some ((x9.1, x9.2))) else ((Rp_answer (1 : Int32) H).bind fun x11 => some ((x11.1, x11.2)))) = some (v, q_si H 24 6 6 0 0) := by
  rcases h with rfl | rfl
  · rw [if_pos (by decide)]; rfl
  · rw [if_neg (by decide)]; rfl
theorem g_01q (x : Bool) : g_01 (q_bi x) := by cases x; exact Or.inl rfl; exact Or.inr rfl
theorem c_such {b x s : Nat} {A : g_A} {H : q_H} (hW : g_W A) (hR : g_R b (g_st H 0) A) (hs : s < 60) (f : g_fu A s = true) (h8 : 8 ≤ x) (hx : x < 12) : St_isSuch 0 0 s (nI x) H = some (g_vv A x s) ∧ g_01 (g_vv A x s) := by
  have rs := r_ps hR.2.2.2.1 hs
  obtain ⟨s0, s1, s2, s3, s4, s5, s6, s7, s8, s10, s11⟩ := rs.1 f
  have wt := hW.1.1
  have ws := hW.1.2.2.2.1 s hs f
  have hx4 : x = 8 ∨ x = 9 ∨ x = 10 ∨ x = 11 := by omega
  unfold St_isSuch
  rcases hx4 with rfl | rfl | rfl | rfl
  · have e : g_vv A 8 s = A 1 s 10 := rfl
    rw [if_pos (by decide), e, show H.1 3 10 0 s = _ from s10, g_01b ws.2.2.2.2.1]
    exact ⟨rfl, ws.2.2.2.2.1⟩
  · have e : g_vv A 9 s = A 1 s 11 := rfl
    rw [if_neg (by decide), if_pos (by decide), e, show H.1 3 11 0 s = _ from s11, g_01b ws.2.2.2.2.2]
    exact ⟨rfl, ws.2.2.2.2.2⟩
  · have e : g_vv A 10 s = q_bi (g_de A (g_hz A) s) := rfl
    rw [if_neg (by decide), if_neg (by decide), if_pos (by decide), e, c_isDead hR.2.1 rs wt (fun _ => ws) hR.2.2.1 (g_hz_lt wt), f]
    simp only [Option.bind_some, Bool.true_and]
    rw [g_01b (g_01q _)]
    exact ⟨rfl, g_01q _⟩
  · have e : g_vv A 11 s = q_bi (g_dy A (g_hz A) s) := rfl
    rw [if_neg (by decide), if_neg (by decide), if_neg (by decide), e, c_isDying hR.2.1 rs wt ws f hR.2.2.1 (g_hz_lt wt)]
    simp only [Option.bind_some]
    rw [g_01b (g_01q _)]
    exact ⟨rfl, g_01q _⟩
theorem law_version {b : Nat} {A : g_A} {H : q_H} {a j w : Int32} (hW : g_W A) (hR : g_R b (g_st H 0) A) : g_law b A H (Rp_version a j w H) (Mo_version a j w) := by
  have wt := hW.1.1
  have wl := hW.1.2.2.1
  have wv := hW.1.2.2.2.1
  rcases g_in_c (a := w) (n := 11) (by decide) with ⟨c, d⟩ | ⟨c, x, hx, rfl, d1, d2, d3, d4, d5⟩
  · have e : Rp_version a j w H = some (-1, q_si H 24 6 6 0 1) := by
      unfold Rp_version
      rcases d with d | ⟨d1, d2, d3, d4, d5⟩
      · rw [if_pos d]; rfl
      · rw [if_neg d1, if_neg (show ¬ w ≤ 11 from d3)]; rfl
    rw [e]
    refine law_q hR hW (fun h _ => ?_)
    unfold Mo_version
    rw [m_isIn, show g_in w 0 11 = false from c]
    simp only [Option.bind_some]
    rw [m_asksS0]
    rfl
  · cases c2 : g_sk A a j with
    | false =>
      have e : Rp_version a j (nI x) H = some (-1, q_si H 24 6 6 0 2) := by
        unfold Rp_version
        rw [if_neg d1, if_pos (show nI x ≤ 11 from d3), c_hasSlot hR wl, c2]; rfl
      rw [e]
      refine law_q hR hW (fun h _ => ?_)
      unfold Mo_version
      rw [m_isIn, show g_in (nI x) 0 11 = true from c]
      simp only [Option.bind_some]
      rw [m_asksS1 wl, c2, if_neg (by decide)]
      rfl
    | true =>
      obtain ⟨p, q, rfl, rfl, hp, hq, hq10⟩ := g_sk_t wl c2
      have hs : 10 * p + q < 60 := by omega
      have iv : g_iv A (10 * p + q) = true := by rw [g_iv_pj hq10]; exact decide_eq_true hq
      have rs := r_ps hR.2.2.2.1 hs
      have hm : (10 : Int32) * nI p + nI q = nI (10 * p + q) := by rw [m_b4, nI_add]
      have pre : Rp_version (nI p) (nI q) (nI x) H = (if (H.1 3 0 0 (10 * p + q)) = (1 : Int32) then (if (8 : Int32) ≤ nI x then ((St_isSuch 0 0 (10 * p + q) (nI x) H).bind fun x7 => if x7 = 0 then ((Rp_answer (0 : Int32) H).bind fun x9 => some ((x9.1, x9.2))) else ((Rp_answer (1 : Int32) H).bind fun x11 => some ((x11.1, x11.2)))) else ((Sl_stamp 0 (10 * p + q) (nI x) H).bind fun x14 => (Rp_answer x14 H).bind fun x16 => some ((x16.1, x16.2)))) else ((Rp_refuse (5 : Int32) H).bind fun x19 => some ((x19.1, x19.2)))) := by
        unfold Rp_version
        rw [if_neg d1, if_pos (show nI x ≤ 11 from d3), c_hasSlot hR wl, c2, c_idx]
        simp only [Option.bind_some]
        rw [if_pos qn1, c_at hs]
        rfl
      have fe : ∀ h : q_H, Mo_isFull (nI (10 * p + q)) (g_ma h 31 A) = some (q_bi (g_fu A (10 * p + q))) := fun h => by
        rw [m_isFull hs]; unfold g_fu; rw [iv]; rfl
      cases f : g_fu A (10 * p + q) with
      | false =>
        have n1 : ¬ H.1 3 0 0 (10 * p + q) = 1 := by
          rw [show H.1 3 0 0 (10 * p + q) = _ from (rs.2 f).1, if_pos iv]
          unfold g_fu at f
          rw [iv, Bool.true_and, decide_eq_false_iff_not] at f
          exact f
        have e : Rp_version (nI p) (nI q) (nI x) H = some (-1, q_si H 24 6 6 0 5) := by
          rw [pre, if_neg n1]; rfl
        rw [e]
        refine law_q hR hW (fun h _ => ?_)
        unfold Mo_version
        rw [m_isIn, show g_in (nI x) 0 11 = true from c]
        simp only [Option.bind_some]
        rw [m_asksS1 wl, c2, if_pos (by decide), hm]
        simp only [Option.bind_some]
        rw [if_pos q1n, fe, f]
        simp only [Option.bind_some]
        rw [if_neg qn0, m_ref]
        rfl
      | true =>
        have e1 : H.1 3 0 0 (10 * p + q) = 1 := (rs.1 f).1
        have e : Rp_version (nI p) (nI q) (nI x) H = some (g_vv A x (10 * p + q), q_si H 24 6 6 0 0) := by
          rw [pre, if_pos e1]
          by_cases z : x < 8
          · rw [if_neg (show ¬ (8 : Int32) ≤ nI x from Int32.not_le.mpr (nI_lt (a := x) (b := 8) z (by omega))), c_stamp hW hR hs f z]
            simp only [Option.bind_some]
            unfold g_vv
            rw [if_pos (by omega), e_answer]
            rfl
          · obtain ⟨k1, k2⟩ := c_such hW hR hs f (by omega) (show x < 12 by omega)
            rw [if_pos (show (8 : Int32) ≤ nI x from Int32.not_lt.mp (nI_nlt (a := x) (b := 8) (by omega) (by omega))), k1]
            exact g_01v k2
        rw [e]
        refine law_q hR hW (fun h _ => ?_)
        unfold Mo_version
        rw [m_isIn, show g_in (nI x) 0 11 = true from c]
        simp only [Option.bind_some]
        rw [m_asksS1 wl, c2, if_pos (by decide), hm]
        simp only [Option.bind_some]
        rw [if_pos q1n, fe, f]
        simp only [Option.bind_some]
        rw [if_pos qn1]
        have ws := wv _ hs f
        by_cases z : x < 10
        · rw [if_neg (show ¬ (10 : Int32) ≤ nI x from Int32.not_le.mpr (nI_lt (a := x) (b := 10) z (by omega))), show (2 : Int32) + nI x = nI (2 + x) from nI_add 2 x, m_of_ hs (by omega)]
          unfold g_vv
          rw [if_pos z]; rfl
        · rw [if_pos (show (10 : Int32) ≤ nI x from Int32.not_lt.mp (nI_nlt (a := x) (b := 10) (by omega) (by omega)))]
          have hx2 : x = 10 ∨ x = 11 := by omega
          rcases hx2 with rfl | rfl
          · rw [if_neg (by decide), m_horizon wt]
            simp only [Option.bind_some]
            rw [m_isDead hs wt ws (g_hz_lt wt)]
            simp only [Option.bind_some]
            show _ = some (q_bi (g_de A (g_hz A) (10 * p + q)), _)
            cases g_de A (g_hz A) (10 * p + q)
            · rw [if_pos (by rfl)]; rfl
            · rw [if_neg (by decide)]; rfl
          · rw [if_pos (by decide), m_isDying hs wt ws]
            simp only [Option.bind_some]
            show _ = some (q_bi (g_dy A (g_hz A) (10 * p + q)), _)
            cases g_dy A (g_hz A) (10 * p + q)
            · rw [if_pos (by rfl)]; rfl
            · rw [if_neg (by decide)]; rfl
