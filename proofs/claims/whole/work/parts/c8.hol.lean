/-! holds, gains -/
theorem fb_de {A B : g_A} (h : g_fb A B) {z s : Nat} : g_de B z s = g_de A z s := by unfold g_de; rw [fb_mk h, fb_en h, h.2.1, h.2.1, h.1]
theorem fb_du {A B : g_A} (h : g_fb A B) {z p n : Nat} (hn : 10 * p + 10 * n ≤ 60) : g_du B z p n = g_du A z p n := g_sm_congr (fun s a c => by rw [fb_fu h (by omega), fb_de h, h.1])
theorem m_cellT {t : Nat} : (1052 : Int32) + ((3 : Int32) * nI t) = nI (1052 + 3 * t) := by
  rw [show (1052 : Int32) = nI 1052 from rfl, show (3 : Int32) = nI 3 from rfl, pk_mul, nI_add]
theorem m_setT {h : q_H} {A : g_A} {t : Nat} {v : Int32} (ht : t < 61) : q_si (g_ma h 31 A) 31 0 7 (nI (1052 + 3 * t)).toNatClampNeg v = g_ma h 31 (g_au A 3 t 0 v) := by
  rw [g_cl (by omega)]
  exact g_ma_si (g := 3) (i := t) (w := 0) (fun B => g_at3 (w := 0) ht (by decide)) rfl (by omega)
theorem g_au_back {A : g_A} {g i w : Nat} {u v : Int32} (h : A g i w = v) : g_au (g_au A g i w u) g i w v = A := by
  funext a b c
  by_cases e : a = g ∧ b = i ∧ c = w
  · obtain ⟨rfl, rfl, rfl⟩ := e
    rw [g_au_eq, h]
  · rw [g_au_ne e, g_au_ne e]
theorem g_fb_cls {A : g_A} {t : Nat} {how : Int32} : g_fb (g_cls A t how) (g_au A 3 t 0 how) := by
  unfold g_cls g_cw0
  refine ⟨fun s w => ?_, fun s w => ?_, fun i hi => ?_⟩
  · rw [g_au_ne (by omega), g_au_ne (by omega), if_neg (by omega)]
  · by_cases e : s = t ∧ w = 0
    · obtain ⟨rfl, rfl⟩ := e
      rw [g_au_eq, g_au_eq]
    · rw [g_au_ne (by omega), g_au_ne (by omega), if_neg (by omega)]
  · rw [g_au_ne (by omega), g_au_ne (by omega), if_neg (by omega)]
theorem law_holds {b : Nat} {A : g_A} {H : q_H} {a : Int32} (hW : g_W A) (hR : g_R b (g_st H 0) A) (hn : r_n (g_st H 1)) : g_law b A H (Rp_holds a H) (Mo_holds a) := by
  have wt := hW.1.1
  have n61 := wt.2.2
  unfold Rp_holds
  rw [c_asOpen hR.2.1 wt]
  simp only [Option.bind_some]
  by_cases c : g_opn A a = 0
  · obtain ⟨t, e, t1, t2, t3, t4⟩ := g_opn_t wt c
    obtain ⟨h1, h2⟩ := t1
    have hS1 : g_R b (g_cpS (g_st H 1) (g_st H 0)) A := g_R_cp hR hn hW
    have w2 := g_W_cls hW ⟨h1, h2⟩ t2 (how := 1) (Or.inl rfl)
    have r2 := r_cls (how := 1) hS1 wt ⟨h1, h2⟩
    have fbc : g_fb (g_cls A t 1) (g_au A 3 t 0 1) := g_fb_cls
    have pi := fb_PI fbc w2.1
    rw [if_pos c, c_copyFrom (by decide) (g_R_01 hR hW.1.2.2.2.1), e]
    simp only [Option.bind_some]
    rw [c_end (A := A) (by rw [g_st_cw]; exact hS1.2.1) wt h1 h2]
    simp only [Option.bind_some]
    rw [g_st_cw, g_cw_cw]
    generalize hS2 : g_su (g_cS0 (g_cpS (g_st H 1) (g_st H 0)) t (g_nx A - 1) 1) 6 5 0 (nI (g_hz (g_cls A t 1))) = S2 at r2 ⊢
    have r2' : g_R b (g_st (g_cw H 1 S2) 1) (g_cls A t 1) := by rw [g_st_cw]; exact r2
    have r0 : g_R b (g_st (g_cw H 1 S2) 0) A := by rw [g_st_cn (by decide)]; exact hR
    rw [c_deadUnits r2'.2.1 r2'.2.2.2.1 w2.1.1 w2.1.2.2.2.1 r2'.2.2.1 (g_hz_lt w2.1.1)]
    simp only [Option.bind_some]
    rw [c_deadUnits r0.2.1 r0.2.2.2.1 wt hW.1.2.2.2.1 r0.2.2.1 (g_hz_lt wt)]
    simp only [Option.bind_some]
    rw [e_answer]
    refine law_q1 (g_f1_cw (fun _ => r2.2.2.2.2.1)) hR hW (fun h _ => ⟨g_s 0 h, ?_, g_s_M, g_s_6⟩)
    unfold Mo_holds
    rw [m_asksO wt (e ▸ c)]
    simp only [Option.bind_some]
    rw [if_pos q1n, m_allDead hW.1.2.2.1 wt hW.1.2.2.2.1, m_cellT, g_inN (by omega) (by decide)]
    simp only [Option.bind_some, cond_true]
    rw [m_setT (by omega), m_allDead pi.2.2.1 pi.1 pi.2.2.2.1]
    simp only [Option.bind_some]
    rw [m_setT (by omega), g_au_back t2, g_ft_hz (fb_ft fbc), fb_du fbc (by decide)]
  · rw [if_neg c, e_refuse]
    refine law_q hR hW (fun h _ => ?_)
    unfold Mo_holds
    rw [m_asksN wt c]
    rfl
theorem c_cntk {H : q_H} {A : g_A} {k p : Nat} (hl : r_l (g_st H k) A) (hp : p ≤ 7) : Lg_countOf k (nI p) H = some (A 0 (9 + p) 0) := c_cnt8 hl hp
def g_gv (A : g_A) (x : Nat) (B : g_A) : Int32 := if x = 0 then g_sm (fun p => g_fr B p) 0 6 - g_sm (fun p => g_fr A p) 0 6 else if x = 2 then nI (g_sL (g_v1 A) 60).length else B 0 (9 + x) 0 - A 0 (9 + x) 0
theorem g_ma_id {h : q_H} {t : Nat} {A : g_A} (e : ∀ j, j < 1644 → h.1 t 0 7 j = g_at A j) : g_ma h t A = h := by
  rw [g_ma_cg (X := A) (Y := g_of h t) (fun j hj => by rw [g_at_of, e j hj]), g_ma_of]
theorem law_gains {b : Nat} {A : g_A} {H : q_H} {a : Int32} (hW : g_W A) (hR : g_R b (g_st H 0) A) (hn : r_n (g_st H 1)) : g_law b A H (Rp_gains a H) (Mo_gains a) := by
  rcases g_in_c (a := a) (n := 5) (by decide) with ⟨c, d⟩ | ⟨c, x, hx, rfl, d1, d2, d3, d4, d5⟩
  · have e : Rp_gains a H = some (-1, q_si H 24 6 6 0 1) := by
      unfold Rp_gains
      rcases d with d | ⟨d1, d2, d3, d4, d5⟩
      · rw [if_pos d]; rfl
      · rw [if_neg d1, if_neg (show ¬ a ≤ 5 from d3)]; rfl
    rw [e]
    refine law_q hR hW (fun h _ => ?_)
    unfold Mo_gains
    rw [m_isIn, show g_in a 0 5 = false from c]
    simp only [Option.bind_some]
    rw [if_pos (show q_bi false = 0 from rfl), Option.bind_some, m_isA (by decide)]
    rfl
  · obtain ⟨v, c1, c8, h01⟩ := id hW.2.2.2.2.2.1
    have w1 : g_W (g_v1 A) := g_i6_I (n := 6) g_W hW (fun p hp B hB => (g_W_pr hB hp).1) 6 (Nat.le_refl _)
    have wgp : ∀ B, g_pv (g_v1 A) v (g_Q v (g_sL (g_v1 A) 60).length) (g_sL (g_v1 A) 60) B → g_W B := fun B hB => (g_pv_W w1 hB (g_Q_ge c1) (g_wg_pd w1.2.2.1 _)).2
    have hS1 : g_R b (g_cpS (g_st H 1) (g_st H 0)) A := g_R_cp hR hn hW
    have hS1' : g_R b (g_st (g_cw H 1 (g_cpS (g_st H 1) (g_st H 0))) 1) A := by rw [g_st_cw]; exact hS1
    obtain ⟨_, B0, _, _, _, hB0⟩ := m_vacuums (h := H) hW c1 c8 h01 wgp
    obtain ⟨⟨S0, e0, r0⟩, w0⟩ := c_vacuumAll hW hS1' c1 c8 h01 hB0
    rw [g_cw_cw] at e0
    have r0' : g_R b (g_st (g_cw H 1 S0) 1) (g_v3 B0) := by rw [g_st_cw]; exact r0
    have rz : g_R b (g_st (g_cw H 1 S0) 0) A := by rw [g_st_cn (by decide)]; exact hR
    have same : ∀ B, g_R b S0 B → g_gv A x B = g_gv A x (g_v3 B0) := fun B hB => by
      unfold g_gv
      by_cases x0 : x = 0
      · rw [if_pos x0, if_pos x0]
        have e1 := c_freeInAll (H := g_cw H 1 S0) (k := 1) (A := B) (by rw [show (g_cw H 1 S0).1 1 4 1 0 = (g_st (g_cw H 1 S0) 1).1 1 4 0 from rfl, g_st_cw]; exact hB.1.1) (by rw [g_st_cw]; exact hB.2.2.2.1)
        have e2 := c_freeInAll (H := g_cw H 1 S0) (k := 1) (A := g_v3 B0) (by rw [show (g_cw H 1 S0).1 1 4 1 0 = (g_st (g_cw H 1 S0) 1).1 1 4 0 from rfl, g_st_cw]; exact r0.1.1) (by rw [g_st_cw]; exact r0.2.2.2.1)
        rw [Option.some.inj (e1.symm.trans e2)]
      · rw [if_neg x0, if_neg x0]
        by_cases x2 : x = 2
        · rw [if_pos x2, if_pos x2]
        · rw [if_neg x2, if_neg x2, ← hB.2.2.2.2.2.2.1.2.2 x (by omega), ← r0.2.2.2.2.2.2.1.2.2 x (by omega)]
    have e : Rp_gains (nI x) H = some (g_gv A x (g_v3 B0), q_si (g_cw H 1 S0) 24 6 6 0 0) := by
      unfold Rp_gains
      rw [if_neg d1, if_pos (show nI x ≤ 5 from d3), c_copyFrom (by decide) (g_R_01 hR hW.1.2.2.2.1)]
      simp only [Option.bind_some]
      rw [e0]
      simp only [Option.bind_some]
      have cg : ∀ y, y ≤ 7 → Rp_countGained (nI y) (g_cw H 1 S0) = some (g_v3 B0 0 (9 + y) 0 - A 0 (9 + y) 0) := fun y hy => by
        unfold Rp_countGained
        rw [c_cntk r0'.2.2.2.2.2.2.1 hy, c_cntk rz.2.2.2.2.2.2.1 hy]; rfl
      have hx6 : x = 0 ∨ x = 1 ∨ x = 2 ∨ x = 3 ∨ x = 4 ∨ x = 5 := by omega
      rcases hx6 with rfl | rfl | rfl | rfl | rfl | rfl
      · rw [if_pos (by decide), c_freeInAll r0'.1.1 r0'.2.2.2.1, Option.bind_some, c_freeInAll (H := g_cw H 1 S0) (k := 0) (A := A) rz.1.1 rz.2.2.2.1, Option.bind_some, e_answer]; rfl
      · rw [if_neg (by decide), if_pos (by decide), show (1 : Int32) = nI 1 from rfl, cg 1 (by decide), Option.bind_some, e_answer]; rfl
      · rw [if_neg (by decide), if_neg (by decide), if_pos (by decide), e_answer]; rfl
      · rw [if_neg (by decide), if_neg (by decide), if_neg (by decide), if_pos (by decide), show (3 : Int32) = nI 3 from rfl, cg 3 (by decide), Option.bind_some, e_answer]; rfl
      · rw [if_neg (by decide), if_neg (by decide), if_neg (by decide), if_neg (by decide), if_pos (by decide), show (4 : Int32) = nI 4 from rfl, cg 4 (by decide), Option.bind_some, e_answer]; rfl
      · rw [if_neg (by decide), if_neg (by decide), if_neg (by decide), if_neg (by decide), if_neg (by decide), show (5 : Int32) = nI 5 from rfl, cg 5 (by decide), Option.bind_some, e_answer]; rfl
    rw [e]
    refine law_q1 (g_f1_cw (fun _ => r0.2.2.2.2.1)) hR hW (fun h _ => ?_)
    obtain ⟨hh, B, me, f, s, hB⟩ := m_vacuums (h := g_ma (g_s 0 h) 33 A) hW c1 c8 h01 wgp
    obtain ⟨⟨S1, e1, r1⟩, wB⟩ := c_vacuumAll hW hS1' c1 c8 h01 hB
    rw [g_cw_cw] at e1
    have eS : S1 = S0 := by
      have q := (Prod.mk.inj (Option.some.inj (e0.symm.trans e1))).2
      have q2 := congrArg (fun z => g_st z 1) q
      rw [g_st_cw, g_st_cw] at q2
      exact q2.symm
    have vv := same (g_v3 B) (eS ▸ r1)
    have h33 : ∀ j, j < 1644 → hh.1 33 0 7 j = g_at A j := fun j hj => by
      rw [f.1 _ _ _ _ (by omega), g_ma_rd hj]
    have cp : Mo_copy 33 7 31 7 (g_ma hh 31 (g_v3 B)) = some (g_ma hh 31 A) := by
      have := m_copy2 (h := hh) (t := 33) (A := A) (A' := g_v3 B) (Or.inr (Or.inl rfl))
      rw [g_ma_id h33] at this; exact this
    refine ⟨hh, ?_, g_fM_tr g_s_M (g_fM_tr (g_fM_a (Or.inr rfl)) (g_f36_M f)), by rw [s, g_ma_ne (by decide), g_s_6]⟩
    rw [← vv]
    unfold Mo_gains
    rw [m_isIn, show g_in (nI x) 0 5 = true from c]
    simp only [Option.bind_some]
    rw [if_neg qn1, Option.bind_some, m_isA0]
    simp only [Option.bind_some]
    rw [if_pos q1n, m_copy1 (Or.inr (Or.inl rfl))]
    simp only [Option.bind_some]
    rw [m_allFree hW.1.2.2.1, Option.bind_some, me]
    simp only [Option.bind_some]
    have hx6 : x = 0 ∨ x = 1 ∨ x = 2 ∨ x = 3 ∨ x = 4 ∨ x = 5 := by omega
    rcases hx6 with rfl | rfl | rfl | rfl | rfl | rfl
    · rw [if_pos (by decide), m_allFree wB.1.2.2.1, Option.bind_some, cp]; rfl
    · rw [if_neg (by decide), if_pos (by decide), cp, Option.bind_some, m_g (by omega), g_ma_ne (by decide), h33 10 (by omega), g_at0 (by omega)]; rfl
    · rw [if_neg (by decide), if_neg (by decide), if_pos (by decide), cp]; rfl
    · rw [if_neg (by decide), if_neg (by decide), if_neg (by decide), if_pos (by decide), cp, Option.bind_some, m_g (by omega), g_ma_ne (by decide), h33 12 (by omega), g_at0 (by omega)]; rfl
    · rw [if_neg (by decide), if_neg (by decide), if_neg (by decide), if_neg (by decide), if_pos (by decide), cp, Option.bind_some, m_g (by omega), g_ma_ne (by decide), h33 13 (by omega), g_at0 (by omega)]; rfl
    · rw [if_neg (by decide), if_neg (by decide), if_neg (by decide), if_neg (by decide), if_neg (by decide), cp, Option.bind_some, m_g (by omega), g_ma_ne (by decide), h33 14 (by omega), g_at0 (by omega)]; rfl
