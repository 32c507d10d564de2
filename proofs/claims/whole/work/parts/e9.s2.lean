/-! load -/
theorem z_S2 : lw_S2 z_Rel := fun n h a1 hn rel => by
  have rel0 := rel
  obtain ⟨A, e1, e2, e3, e4, e5, e6, e7, e8, ⟨⟨t, t1, t2, t3⟩, m2, m3, m4, m5⟩⟩ := rel
  have bad : (a1 < 0 ∨ nI (t + 1) ≤ a1) → ∃ (r : Int32) (h1 : q_H) (h2 : q_H), Rp_load a1 h = some (r, h1) ∧ Mo_load a1 h1 = some (r, h2) ∧ z_Rel (n + 1) h2 := fun d => by
    have c : g_in a1 0 (nI t) = false := by
      unfold g_in
      rcases d with d | d
      · rw [decide_eq_true d]; rfl
      · rw [decide_eq_true (show nI t < a1 from Int32.lt_of_lt_of_le (nI_lt (a := t) (b := t + 1) (by omega) (by omega)) d), Bool.not_true, Bool.and_false]
    refine ⟨-1, q_si h 24 6 6 0 1, g_s 1 (q_si h 24 6 6 0 1), rp_load_0 ?_, mo_load_1 ?_, z_mono (z_refuse rel0)⟩
    · rcases d with d | d
      · exact Or.inl d
      · refine Or.inr (fun q => ?_)
        rw [t2] at q
        exact absurd (Int32.le_trans d q) (nI_ge (by omega) (by omega))
    · rw [g_rd_o (by omega), t3]; exact c
  rcases pk_ix a1 (n := t + 1) (by omega) with d | d | ⟨k, hk, rfl⟩
  · exact bad (Or.inl d)
  · exact bad (Or.inr d)
  · have hk7 : k ≤ 700 := by omega
    -- the class as it begins to read
    obtain ⟨S', eN, fS⟩ := c_makeAnew (H := g_cw h 2 (g_cpS (g_st h 2) (g_st h 0))) (k := 0) (by rw [g_st_cn (by decide)]; exact e8 0 (by decide))
    have rS2 : g_R (z_bd n) (g_cpS (g_st h 2) (g_st h 0)) A := g_R_cp e4 (e8 2 (by decide)) e2
    generalize hS2 : g_cpS (g_st h 2) (g_st h 0) = S2 at eN rS2
    obtain ⟨H0, eO, oO, oO2, v1, v2, v3, v10, v11, v12, v13, v14, v15, v16⟩ := c_txOpen (a := nI k) (X := g_cw (g_cw h 2 S2) 0 S')
    have h0o : ∀ t f k' i, k' ≠ 0 → k' ≠ 2 → ¬ (t = 25 ∧ k' = 6 ∧ 1 ≤ f ∧ f ≤ 16) → H0.1 t f k' i = h.1 t f k' i := fun t f k' i a b c => by
      rw [oO t f k' i c, g_cw_rn a, g_cw_rn b]
    have h0o2 : ∀ t f k' i, k' ≠ 0 → k' ≠ 2 → H0.2 t f k' i = h.2 t f k' i := fun t f k' i a b => by
      rw [oO2, g_cw_rm a, g_cw_rm b]
    have st0 : g_st H0 0 = S' := by
      have : g_st H0 0 = g_st (g_cw (g_cw h 2 S2) 0 S') 0 := z_st (fun t f i => oO t f 0 i (by omega)) (fun t f i => by rw [oO2])
      rw [this, g_st_cw]
    have st2 : g_st H0 2 = S2 := by
      have : g_st H0 2 = g_st (g_cw (g_cw h 2 S2) 0 S') 2 := z_st (fun t f i => oO t f 2 i (by omega)) (fun t f i => by rw [oO2])
      rw [this, g_st_cn (by decide), g_st_cw]
    have stk : ∀ k', k' ≤ 5 → k' ≠ 0 → k' ≠ 2 → g_st H0 k' = g_st h k' := fun k' a b c => z_st (fun t f i => h0o t f k' i b c (by omega)) (fun t f i => h0o2 t f k' i b c)
    have tT : ∀ i, g_T H0 i = h.1 26 0 6 i := fun i => h0o 26 0 6 i (by decide) (by decide) (by omega)
    -- both together from any reference that knows the tape
    have run : ∀ g : q_H, (∀ i, i < 700 → g_by (g_T H0 i) (g.1 38 0 7 i)) → (∀ k, k < 14 → g.2 39 0 7 k = Int64.ofNat (x_W.getD k 0)) → (∀ k, k < 14 → g.1 40 0 7 k = nI (x_nb k)) → ∃ E hE hs, q_lp x_bcL q_fu ((0 : Int32), H0) = some E ∧ ((Mo_copy 31 7 34 7 (z_mi k g)).bind fun x13 => (Mo_clears x13).bind fun x15 => Mo_reads x15) = some hs ∧ q_lp x_bmL q_fu hs = some hE ∧ x_LE H0 hs E hE ∧ (∀ j, j < 1644 → hs.1 34 0 7 j = g.1 31 0 7 j) ∧ (∀ t f k i, ¬ (t = 30 ∧ k = 7 ∧ (f = 6 ∨ f = 7 ∨ (15 ≤ f ∧ f ≤ 21) ∨ (26 ≤ f ∧ f ≤ 28))) → ¬ (k = 7 ∧ (t = 31 ∨ t = 34)) → hs.1 t f k i = g.1 t f k i) ∧ (∀ t f k i, ¬ (t = 30 ∧ k = 7 ∧ f = 22) → hs.2 t f k i = g.2 t f k i) := fun g gB gw gt => by
      obtain ⟨hs, s1, s2, s3, s4, s5, s6, s7, s8, s9, s10, s11⟩ := m_start hk7 gB gw gt
      have LH : x_LH k (g_T H0) H0 hs 0 H0 hs := by
        refine ⟨g_A0, ⟨s2, g_A0_W, g_A0_c1, by rw [st0]; exact z_fr_R fS, by rw [stk 1 (by decide) (by decide) (by decide)]; exact e8 1 (by decide), v2, rfl, s3, ⟨fun _ _ _ _ _ _ _ _ _ => rfl, fun _ _ _ _ _ _ => rfl⟩, ⟨fun _ _ _ _ _ _ => rfl, fun _ _ _ _ _ => rfl⟩⟩, Or.inr ⟨⟨v15, v16, ⟨by rw [v11, s6], by rw [v12, s7], by rw [v13, s8], by rw [v12]; exact Or.inl rfl, by rw [v13]; exact Or.inl rfl⟩, fun _ => ⟨rfl, fun a _ f => by rw [g_A0_fu] at f; cases f⟩⟩, 0, Nat.le_refl 0, Nat.zero_le k, v3, Or.inl ⟨v10, s5, s4⟩⟩⟩
      obtain ⟨E, hE, k1, k2, k3⟩ := x_ll hk7 701 0 H0 hs (by omega) LH
      exact ⟨E, hE, hs, k1 q_fu (by decide), s1, k2 q_fu (by decide), k3, s9, s10, s11⟩
    obtain ⟨E, _, _, lE, _, _, LE0, _, _, _⟩ := run h (fun i hi => by rw [tT]; exact m2 i hi) m3 m4
    obtain ⟨_, _, _, _, _, _, F1, _, _⟩ := LE0
    have eo : ∀ t f k' i, k' ≠ 0 → k' ≠ 1 → k' ≠ 2 → ¬ (t = 24 ∧ f = 6 ∧ k' = 6 ∧ i = 0) → ¬ (t = 25 ∧ k' = 6 ∧ 1 ≤ f ∧ f ≤ 16) → ¬ (t = 27 ∧ k' = 6) → E.1 t f k' i = h.1 t f k' i := fun t f k' i a b c d1 d2 d3 => by
      rw [F1.1 t f k' i a b d1 (fun q => d2 ⟨q.1, q.2.1, by omega⟩) d3, h0o t f k' i a c d2]
    have eo2 : ∀ t f k' i, k' ≠ 0 → k' ≠ 1 → k' ≠ 2 → E.2 t f k' i = h.2 t f k' i := fun t f k' i a b c => by
      rw [F1.2 t f k' i a b, h0o2 t f k' i a c]
    have eV1 : E.1 25 1 6 0 = 0 := by rw [F1.1 25 1 6 0 (by decide) (by decide) (by omega) (by omega) (by omega)]; exact v1
    have eV14 : E.1 25 14 6 0 = 1 := by rw [F1.1 25 14 6 0 (by decide) (by decide) (by omega) (by omega) (by omega)]; exact v14
    have est2 : g_st E 2 = S2 := by
      rw [← st2]
      exact z_st (fun t f i => F1.1 t f 2 i (by decide) (by decide) (by omega) (by omega) (by omega)) (fun t f i => F1.2 t f 2 i (by decide) (by decide))
    have estk : ∀ k', 3 ≤ k' → k' ≤ 5 → g_st E k' = g_st h k' := fun k' a b => z_st (fun t f i => eo t f k' i (by omega) (by omega) (by omega) (by omega) (by omega) (by omega)) (fun t f i => eo2 t f k' i (by omega) (by omega) (by omega))
    have pre : Rp_load (nI k) h = x_fC E := by
      rw [rp_load_e (t := t) (by omega) t1 t2, c_copyFrom (by decide) (g_R_01 e4 e2.1.2.2.2.1), hS2, Option.bind_some, eN, Option.bind_some, eO, Option.bind_some, lE, Option.bind_some]
    -- the reference on what the class leaves
    have ref : ∀ h1 : q_H, (∀ t f k' i, k' ≠ 0 → ¬ (t = 24 ∧ f = 6 ∧ k' = 6 ∧ i = 0) → h1.1 t f k' i = E.1 t f k' i) → (∀ t f k' i, k' ≠ 0 → h1.2 t f k' i = E.2 t f k' i) → ∃ hE hs, x_LE H0 hs E hE ∧ (∀ j, j < 1644 → hs.1 34 0 7 j = g_at A j) ∧ (∀ t f k i, ¬ (t = 30 ∧ k = 7 ∧ (f = 6 ∨ f = 7 ∨ (15 ≤ f ∧ f ≤ 21) ∨ (26 ≤ f ∧ f ≤ 28))) → ¬ (k = 7 ∧ (t = 31 ∨ t = 34)) → hs.1 t f k i = h1.1 t f k i) ∧ (∀ t f k i, ¬ (t = 30 ∧ k = 7 ∧ f = 22) → hs.2 t f k i = h1.2 t f k i) ∧ Mo_load (nI k) h1 = x_fM hE := fun h1 o1 o2 => by
      have oo : ∀ t f k' i, k' ≠ 0 → k' ≠ 1 → k' ≠ 2 → ¬ (t = 24 ∧ f = 6 ∧ k' = 6 ∧ i = 0) → ¬ (t = 25 ∧ k' = 6 ∧ 1 ≤ f ∧ f ≤ 16) → ¬ (t = 27 ∧ k' = 6) → h1.1 t f k' i = h.1 t f k' i := fun t f k' i a b c d1 d2 d3 => (o1 t f k' i a d1).trans (eo t f k' i a b c d1 d2 d3)
      obtain ⟨E', hE, hs, lE', c1, c2, LE, c4, c5, c6⟩ := run h1 (fun i hi => by rw [tT, oo 38 0 7 i (by decide) (by decide) (by decide) (by omega) (by omega) (by omega)]; exact m2 i hi) (fun k hk => by rw [o2 39 0 7 k (by decide), eo2 39 0 7 k (by decide) (by decide) (by decide)]; exact m3 k hk) (fun k hk => by rw [oo 40 0 7 k (by decide) (by decide) (by decide) (by omega) (by omega) (by omega)]; exact m4 k hk)
      have eE : E' = E := Option.some.inj (lE'.symm.trans lE)
      subst eE
      refine ⟨hE, hs, LE, fun j hj => ?_, c5, c6, ?_⟩
      · rw [c4 j hj, oo 31 0 7 j (by decide) (by decide) (by decide) (by omega) (by omega) (by omega)]
        unfold g_is at e1
        rw [e1, g_ma_rd hj]
      · have c1' : ((Mo_copy 31 7 34 7 (q_si (q_si (q_si (q_si (q_si (q_si (g_s 0 h1) 30 21 7 0 (nI k)) 30 18 7 0 (0 : Int32)) 30 15 7 0 (0 : Int32)) 30 26 7 0 (0 : Int32)) 30 27 7 0 (0 : Int32)) 30 28 7 0 (0 : Int32))).bind fun x13 => (Mo_clears x13).bind fun x15 => Mo_reads x15) = some hs := c1
        obtain ⟨y1, z1, z2⟩ := Option.bind_eq_some_iff.mp c1'
        obtain ⟨y2, z3, z4⟩ := Option.bind_eq_some_iff.mp z2
        rw [mo_load_e (t := t) (by omega) t1 (by rw [oo 30 12 7 0 (by decide) (by decide) (by decide) (by omega) (by omega) (by omega)]; exact t3), Option.bind_some, z1, Option.bind_some, z3, Option.bind_some, z4, Option.bind_some, c2, Option.bind_some]
    have hb1 : 42060 ≤ z_bd (n + 1) := by unfold z_bd; omega
    have hbn : z_bd n ≤ z_bd (n + 1) := by unfold z_bd; omega
    by_cases g0 : E.1 25 15 6 0 = 0
    · have eC : Rp_load (nI k) h = some (E.1 0 7 0 0, q_si E 24 6 6 0 0) := by
        rw [pre]
        unfold x_fC
        rw [if_pos g0]; rfl
      obtain ⟨hE, hs, LE, s34, c5, c6, eM⟩ := ref (q_si E 24 6 6 0 0) (fun t f k' i _ q => g_rd_o q) (fun _ _ _ _ _ => rfl)
      obtain ⟨A', a1, a2, a3, a4, a5, _, F2, disj⟩ := LE
      have w : E.1 25 16 6 0 = -1 ∧ hE.1 30 15 7 0 = 0 := by
        rcases disj with ⟨_, d16, dw⟩ | bd
        · exact ⟨d16, dw⟩
        · exact absurd g0 (x_bad_s bd).1
      obtain ⟨d16, dw⟩ := w
      have hEo : ∀ t f k' i, ¬ (t = 30 ∧ k' = 7 ∧ (f = 6 ∨ f = 7 ∨ f = 9 ∨ (15 ≤ f ∧ f ≤ 21) ∨ (26 ≤ f ∧ f ≤ 28))) → ¬ (k' = 7 ∧ (t = 31 ∨ t = 32 ∨ t = 33 ∨ t = 34 ∨ t = 36 ∨ t = 37 ∨ t = 41)) → ¬ (t = 24 ∧ f = 6 ∧ k' = 6 ∧ i = 0) → hE.1 t f k' i = E.1 t f k' i := fun t f k' i n1 n2 n3 => by
        rw [F2.1 t f k' i (fun q => n1 ⟨q.1, q.2.1, by omega⟩) (fun q => n2 ⟨q.1, by omega⟩), c5 t f k' i (fun q => n1 ⟨q.1, q.2.1, by omega⟩) (fun q => n2 ⟨q.1, by omega⟩), g_rd_o n3]
      have hEo2 : ∀ t f k' i, ¬ (t = 30 ∧ k' = 7 ∧ f = 22) → hE.2 t f k' i = E.2 t f k' i := fun t f k' i n1 => by
        rw [F2.2 t f k' i n1, c6 t f k' i n1]; rfl
      have h24 : hE.1 24 6 6 0 = 0 := by
        rw [F2.1 24 6 6 0 (by omega) (by omega), c5 24 6 6 0 (by omega) (by omega), g_rd_e]
      generalize hX : q_si (q_si (q_si (q_si hE 30 12 7 0 0) 30 13 7 0 0) 30 14 7 0 (-1)) 30 6 7 0 0 = X
      have xo : ∀ t f k' i, ¬ (t = 30 ∧ k' = 7 ∧ (f = 6 ∨ f = 12 ∨ f = 13 ∨ f = 14)) → X.1 t f k' i = hE.1 t f k' i := fun t f k' i q => by
        rw [← hX, g_rd_o (fun z => q ⟨z.1, z.2.2.1, by omega⟩), g_rd_o (fun z => q ⟨z.1, z.2.2.1, by omega⟩), g_rd_o (fun z => q ⟨z.1, z.2.2.1, by omega⟩), g_rd_o (fun z => q ⟨z.1, z.2.2.1, by omega⟩)]
      have x2 : X.2 = hE.2 := by rw [← hX]; rfl
      have x6 : X.1 30 6 7 0 = 0 := by rw [← hX, g_rd_e]
      have x12 : X.1 30 12 7 0 = 0 := by rw [← hX, g_rd_o (by omega), g_rd_o (by omega), g_rd_o (by omega), g_rd_e]
      have x13 : X.1 30 13 7 0 = 0 := by rw [← hX, g_rd_o (by omega), g_rd_o (by omega), g_rd_e]
      have x14 : X.1 30 14 7 0 = -1 := by rw [← hX, g_rd_o (by omega), g_rd_e]
      have w1 : (q_si hE 30 12 7 0 0).1 30 15 7 0 = 0 := by rw [g_rd_o (by omega)]; exact dw
      have w2 : (q_si (q_si hE 30 12 7 0 0) 30 13 7 0 0).1 30 15 7 0 = 0 := by rw [g_rd_o (by omega)]; exact w1
      have eM2 : Mo_load (nI k) (q_si E 24 6 6 0 0) = some (X.1 31 0 7 3, X) := by
        rw [eM]
        unfold x_fM
        rw [w1, w2, if_pos (Int32.le_refl 0), Option.bind_some, hX, if_neg (show ¬ ¬ X.1 30 15 7 0 = 0 from fun q => q (by rw [xo 30 15 7 0 (by omega)]; exact dw))]
      have st : ∀ k', k' ≤ 5 → g_st X k' = g_st E k' := fun k' hk' => z_st (fun t f i => by rw [xo t f k' i (by omega), hEo t f k' i (by omega) (by omega) (by omega)]) (fun t f i => by rw [x2, hEo2 t f k' i (by omega)])
      have xi : g_is X A' := g_is_cg (fun j => xo 31 0 7 j (by omega)) a1
      have ex : ∀ t f k' i, ¬ (t = 30 ∧ k' = 7 ∧ (f = 6 ∨ f = 12 ∨ f = 13 ∨ f = 14)) → ¬ (t = 30 ∧ k' = 7 ∧ (f = 6 ∨ f = 7 ∨ f = 9 ∨ (15 ≤ f ∧ f ≤ 21) ∨ (26 ≤ f ∧ f ≤ 28))) → ¬ (k' = 7 ∧ (t = 31 ∨ t = 32 ∨ t = 33 ∨ t = 34 ∨ t = 36 ∨ t = 37 ∨ t = 41)) → ¬ (t = 24 ∧ f = 6 ∧ k' = 6 ∧ i = 0) → X.1 t f k' i = E.1 t f k' i := fun t f k' i p1 p2 p3 p4 => (xo t f k' i p1).trans (hEo t f k' i p2 p3 p4)
      refine ⟨E.1 0 7 0 0, _, X, eC, ?_, A', xi, a2, a3, ?_, ?_, ?_, ?_, fun k' hk' => ?_, ?_⟩
      · rw [eM2, xo 31 0 7 3 (by omega), g_is_rd a1 (by omega)]
        have : E.1 0 7 0 0 = A' 0 3 0 := a4.1.2.2.2
        rw [this]
      · rw [st 0 (by decide)]; exact g_R_mono a4 hb1
      · rw [x6, xo 24 6 6 0 (by omega), h24]
      · rw [ex 24 5 6 0 (by omega) (by omega) (by omega) (by omega), ex 30 5 7 0 (by omega) (by omega) (by omega) (by omega), eo 24 5 6 0 (by decide) (by decide) (by decide) (by omega) (by omega) (by omega), eo 30 5 7 0 (by decide) (by decide) (by decide) (by omega) (by omega) (by omega)]
        exact e6
      · obtain ⟨m, p1, p2, p3⟩ := e7
        refine ⟨m, p1, by rw [ex 30 5 7 0 (by omega) (by omega) (by omega) (by omega), eo 30 5 7 0 (by decide) (by decide) (by decide) (by omega) (by omega) (by omega)]; exact p2, fun j hj => ?_⟩
        obtain ⟨B, b1, b2, b3, b4⟩ := p3 j hj
        exact ⟨B, fun c hc => by rw [ex 35 0 7 _ (by omega) (by omega) (by omega) (by omega), eo 35 0 7 _ (by decide) (by decide) (by decide) (by omega) (by omega) (by omega)]; exact b1 c hc, b2, b3, by rw [st (3 + j) (by omega), estk (3 + j) (by omega) (by omega)]; exact g_R_mono b4 hbn⟩
      · rw [st k' hk']
        by_cases z0 : k' = 0
        · subst z0; exact a4.2.2.2.2.1
        · by_cases z1 : k' = 1
          · subst z1; exact a5
          · by_cases z2 : k' = 2
            · subst z2; rw [est2]; exact rS2.2.2.2.2.1
            · rw [estk k' (by omega) hk']; exact e8 k' hk'
      · refine ⟨⟨0, by omega, by rw [ex 25 1 6 0 (by omega) (by omega) (by omega) (by omega)]; exact eV1, x12⟩, fun i hi => ?_, fun k hk => ?_, fun k hk => ?_, Or.inr ⟨?_, ?_, ?_⟩⟩
        · rw [ex 26 0 6 i (by omega) (by omega) (by omega) (by omega), ex 38 0 7 i (by omega) (by omega) (by omega) (by omega), eo 26 0 6 i (by decide) (by decide) (by decide) (by omega) (by omega) (by omega), eo 38 0 7 i (by decide) (by decide) (by decide) (by omega) (by omega) (by omega)]
          exact m2 i hi
        · rw [x2, hEo2 39 0 7 k (by omega), eo2 39 0 7 k (by decide) (by decide) (by decide)]; exact m3 k hk
        · rw [ex 40 0 7 k (by omega) (by omega) (by omega) (by omega), eo 40 0 7 k (by decide) (by decide) (by decide) (by omega) (by omega) (by omega)]; exact m4 k hk
        · rw [ex 25 14 6 0 (by omega) (by omega) (by omega) (by omega)]; exact eV14
        · rw [ex 25 15 6 0 (by omega) (by omega) (by omega) (by omega), x13]; exact g0
        · rw [ex 25 16 6 0 (by omega) (by omega) (by omega) (by omega), x14]; exact d16
    · have rE2 : g_R (z_bd n) (g_st E 2) A := by rw [est2]; exact rS2
      have eC : Rp_load (nI k) h = some (-1, q_si (g_cw E 0 (g_cpS (g_st E 0) S2)) 24 6 6 0 9) := by
        rw [pre]
        unfold x_fC
        rw [if_neg g0, c_copyFrom (k := 0) (k1 := 2) (by decide) (g_R_01 rE2 e2.1.2.2.2.1), est2]; rfl
      obtain ⟨_, _, _, _, _, LE0r, _, _⟩ : ∃ (A : g_A), True ∧ True ∧ True ∧ True ∧ r_n (g_st E 0) ∧ True ∧ True := by
        obtain ⟨hE, hs, LE, _⟩ := ref (q_si E 24 6 6 0 0) (fun t f k' i _ q => g_rd_o q) (fun _ _ _ _ _ => rfl)
        obtain ⟨A', a1, a2, a3, a4, a5, _⟩ := LE
        exact ⟨A', trivial, trivial, trivial, trivial, a4.2.2.2.2.1, trivial, trivial⟩
      have rZ : g_R (z_bd n) (g_cpS (g_st E 0) S2) A := g_R_cp rS2 LE0r e2
      generalize g_cpS (g_st E 0) S2 = S3 at eC rZ
      obtain ⟨hE, hs, LE, s34, c5, c6, eM⟩ := ref (q_si (g_cw E 0 S3) 24 6 6 0 9) (fun t f k' i q1 q => by rw [g_rd_o q, g_cw_rn q1]) (fun t f k' i q1 => g_cw_rm q1)
      obtain ⟨A', a1, a2, a3, a4, a5, _, F2, disj⟩ := LE
      have bd : x_bad E hE := by
        rcases disj with d | d
        · exact absurd d.1 g0
        · exact d
      have nw := (x_bad_s bd).2
      obtain ⟨f9, q9, hf9, b15, b16, y15, y16⟩ := bd
      have hEo : ∀ t f k' i, ¬ (t = 30 ∧ k' = 7 ∧ (f = 6 ∨ f = 7 ∨ f = 9 ∨ (15 ≤ f ∧ f ≤ 21) ∨ (26 ≤ f ∧ f ≤ 28))) → ¬ (k' = 7 ∧ (t = 31 ∨ t = 32 ∨ t = 33 ∨ t = 34 ∨ t = 36 ∨ t = 37 ∨ t = 41)) → hE.1 t f k' i = (q_si (g_cw E 0 S3) 24 6 6 0 9).1 t f k' i := fun t f k' i n1 n2 => by
        rw [F2.1 t f k' i (fun q => n1 ⟨q.1, q.2.1, by omega⟩) (fun q => n2 ⟨q.1, by omega⟩), c5 t f k' i (fun q => n1 ⟨q.1, q.2.1, by omega⟩) (fun q => n2 ⟨q.1, by omega⟩)]
      have hEo2 : ∀ t f k' i, ¬ (t = 30 ∧ k' = 7 ∧ f = 22) → hE.2 t f k' i = (g_cw E 0 S3).2 t f k' i := fun t f k' i n1 => by
        rw [F2.2 t f k' i n1, c6 t f k' i n1]; rfl
      generalize hX : q_si (q_si (q_si (q_si hE 30 12 7 0 0) 30 13 7 0 (nI f9)) 30 14 7 0 (nI q9)) 30 6 7 0 0 = X
      have xo : ∀ t f k' i, ¬ (t = 30 ∧ k' = 7 ∧ (f = 6 ∨ f = 12 ∨ f = 13 ∨ f = 14)) → X.1 t f k' i = hE.1 t f k' i := fun t f k' i q => by
        rw [← hX, g_rd_o (fun z => q ⟨z.1, z.2.2.1, by omega⟩), g_rd_o (fun z => q ⟨z.1, z.2.2.1, by omega⟩), g_rd_o (fun z => q ⟨z.1, z.2.2.1, by omega⟩), g_rd_o (fun z => q ⟨z.1, z.2.2.1, by omega⟩)]
      have x2 : X.2 = hE.2 := by rw [← hX]; rfl
      have x12 : X.1 30 12 7 0 = 0 := by rw [← hX, g_rd_o (by omega), g_rd_o (by omega), g_rd_o (by omega), g_rd_e]
      have x13 : X.1 30 13 7 0 = nI f9 := by rw [← hX, g_rd_o (by omega), g_rd_o (by omega), g_rd_e]
      have x14 : X.1 30 14 7 0 = nI q9 := by rw [← hX, g_rd_o (by omega), g_rd_e]
      have w1 : (q_si hE 30 12 7 0 0).1 30 15 7 0 = nI f9 := by rw [g_rd_o (by omega)]; exact y15
      have w2 : (q_si (q_si hE 30 12 7 0 0) 30 13 7 0 (nI f9)).1 30 15 7 0 = nI f9 := by rw [g_rd_o (by omega)]; exact w1
      have w3 : (q_si (q_si hE 30 12 7 0 0) 30 13 7 0 (nI f9)).1 30 16 7 0 = nI q9 := by rw [g_rd_o (by omega), g_rd_o (by omega)]; exact y16
      have cp := m_copy (h := X) (t1 := 34) (t2 := 31) (by decide) rfl rfl rfl rfl
      have eM2 : Mo_load (nI k) (q_si (g_cw E 0 S3) 24 6 6 0 9) = some (-1, q_si (g_ma X 31 (g_of X 34)) 30 6 7 0 9) := by
        rw [eM]
        unfold x_fM
        rw [w1, w2, w3, if_neg (show ¬ nI f9 ≤ 0 from nI_ge (a := 0) (by omega) (by omega)), Option.bind_some, hX, if_pos (show ¬ X.1 30 15 7 0 = 0 from fun q => nw (by rw [xo 30 15 7 0 (by omega)] at q; exact q)), cp, Option.bind_some]
        rfl
      have zo : ∀ t f k' i, ¬ (t = 30 ∧ k' = 7 ∧ f = 6) → ¬ (k' = 7 ∧ t = 31) → (q_si (g_ma X 31 (g_of X 34)) 30 6 7 0 9).1 t f k' i = X.1 t f k' i := fun t f k' i n1 n2 => by
        rw [g_rd_o (fun q => n1 ⟨q.1, q.2.2.1, q.2.1⟩)]
        show (if t = 31 ∧ f = 0 ∧ k' = 7 ∧ i < 1644 then _ else X.1 t f k' i) = _
        rw [if_neg (fun q => n2 ⟨q.2.2.1, q.1⟩)]
      have z2 : (q_si (g_ma X 31 (g_of X 34)) 30 6 7 0 9).2 = hE.2 := x2
      have z6 : (q_si (g_ma X 31 (g_of X 34)) 30 6 7 0 9).1 30 6 7 0 = 9 := g_rd_e
      have z31 : ∀ j, j < 1644 → (q_si (g_ma X 31 (g_of X 34)) 30 6 7 0 9).1 31 0 7 j = g_at A j := fun j hj => by
        rw [g_rd_o (by omega), g_ma_rd hj, g_at_of, xo 34 0 7 j (by omega), ← s34 j hj]
        have := F2.1 34 0 7 j (by omega) (by omega)
        exact this
      generalize q_si (g_ma X 31 (g_of X 34)) 30 6 7 0 9 = Z at eM2 zo z2 z6 z31
      have ez : ∀ t f k' i, ¬ (t = 30 ∧ k' = 7 ∧ (f = 6 ∨ f = 7 ∨ f = 9 ∨ (12 ≤ f ∧ f ≤ 21) ∨ (26 ≤ f ∧ f ≤ 28))) → ¬ (k' = 7 ∧ (t = 31 ∨ t = 32 ∨ t = 33 ∨ t = 34 ∨ t = 36 ∨ t = 37 ∨ t = 41)) → Z.1 t f k' i = (q_si (g_cw E 0 S3) 24 6 6 0 9).1 t f k' i := fun t f k' i p1 p2 => by
        rw [zo t f k' i (fun q => p1 ⟨q.1, q.2.1, by omega⟩) (fun q => p2 ⟨q.1, by omega⟩), xo t f k' i (fun q => p1 ⟨q.1, q.2.1, by omega⟩), hEo t f k' i (fun q => p1 ⟨q.1, q.2.1, by omega⟩) p2]
      have ee : ∀ t f k' i, k' ≠ 0 → ¬ (t = 24 ∧ f = 6 ∧ k' = 6 ∧ i = 0) → ¬ (t = 30 ∧ k' = 7 ∧ (f = 6 ∨ f = 7 ∨ f = 9 ∨ (12 ≤ f ∧ f ≤ 21) ∨ (26 ≤ f ∧ f ≤ 28))) → ¬ (k' = 7 ∧ (t = 31 ∨ t = 32 ∨ t = 33 ∨ t = 34 ∨ t = 36 ∨ t = 37 ∨ t = 41)) → Z.1 t f k' i = E.1 t f k' i := fun t f k' i n0 n1 p1 p2 => by
        rw [ez t f k' i p1 p2, g_rd_o n1, g_cw_rn n0]
      have st : ∀ k', k' ≤ 5 → k' ≠ 0 → g_st Z k' = g_st E k' := fun k' hk' h0' => z_st (fun t f i => ee t f k' i h0' (by omega) (by omega) (by omega)) (fun t f i => by rw [z2, hEo2 t f k' i (by omega), g_cw_rm h0'])
      have st00 : g_st Z 0 = S3 := by
        have : g_st Z 0 = g_st (g_cw E 0 S3) 0 := z_st (fun t f i => by rw [ez t f 0 i (by omega) (by omega), g_rd_o (by omega)]) (fun t f i => by rw [z2, hEo2 t f 0 i (by omega)])
        rw [this, g_st_cw]
      refine ⟨-1, _, Z, eC, eM2, A, (g_ma_id z31).symm, e2, e3, by rw [st00]; exact g_R_mono rZ hbn, ?_, ?_, ?_, fun k' hk' => ?_, ?_⟩
      · rw [z6, ez 24 6 6 0 (by omega) (by omega), g_rd_e]
      · rw [ee 24 5 6 0 (by decide) (by omega) (by omega) (by omega), ee 30 5 7 0 (by decide) (by omega) (by omega) (by omega), eo 24 5 6 0 (by decide) (by decide) (by decide) (by omega) (by omega) (by omega), eo 30 5 7 0 (by decide) (by decide) (by decide) (by omega) (by omega) (by omega)]
        exact e6
      · obtain ⟨m, p1, p2, p3⟩ := e7
        refine ⟨m, p1, by rw [ee 30 5 7 0 (by decide) (by omega) (by omega) (by omega), eo 30 5 7 0 (by decide) (by decide) (by decide) (by omega) (by omega) (by omega)]; exact p2, fun j hj => ?_⟩
        obtain ⟨B, b1, b2, b3, b4⟩ := p3 j hj
        exact ⟨B, fun c hc => by rw [ee 35 0 7 _ (by decide) (by omega) (by omega) (by omega), eo 35 0 7 _ (by decide) (by decide) (by decide) (by omega) (by omega) (by omega)]; exact b1 c hc, b2, b3, by rw [st (3 + j) (by omega) (by omega), estk (3 + j) (by omega) (by omega)]; exact g_R_mono b4 hbn⟩
      · by_cases z0 : k' = 0
        · subst z0; rw [st00]; exact rZ.2.2.2.2.1
        · rw [st k' hk' z0]
          by_cases z1 : k' = 1
          · subst z1; exact a5
          · by_cases z2 : k' = 2
            · subst z2; rw [est2]; exact rS2.2.2.2.2.1
            · rw [estk k' (by omega) hk']; exact e8 k' hk'
      · refine ⟨⟨0, by omega, by rw [ee 25 1 6 0 (by decide) (by omega) (by omega) (by omega)]; exact eV1, ?_⟩, fun i hi => ?_, fun k hk => ?_, fun k hk => ?_, Or.inr ⟨?_, ?_, ?_⟩⟩
        · rw [zo 30 12 7 0 (by omega) (by omega)]; exact x12
        · rw [ee 26 0 6 i (by decide) (by omega) (by omega) (by omega), ee 38 0 7 i (by decide) (by omega) (by omega) (by omega), eo 26 0 6 i (by decide) (by decide) (by decide) (by omega) (by omega) (by omega), eo 38 0 7 i (by decide) (by decide) (by decide) (by omega) (by omega) (by omega)]
          exact m2 i hi
        · rw [z2, hEo2 39 0 7 k (by omega), g_cw_rm (by decide), eo2 39 0 7 k (by decide) (by decide) (by decide)]; exact m3 k hk
        · rw [ee 40 0 7 k (by decide) (by omega) (by omega) (by omega), eo 40 0 7 k (by decide) (by decide) (by decide) (by omega) (by omega) (by omega)]; exact m4 k hk
        · rw [ee 25 14 6 0 (by decide) (by omega) (by omega) (by omega)]; exact eV14
        · rw [ee 25 15 6 0 (by decide) (by omega) (by omega) (by omega), zo 30 13 7 0 (by omega) (by omega), x13]; exact b15
        · rw [ee 25 16 6 0 (by decide) (by omega) (by omega) (by omega), zo 30 14 7 0 (by omega) (by omega), x14]; exact b16
