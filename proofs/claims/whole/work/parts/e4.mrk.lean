/-! mark, back -/
def z_X (h : q_H) (m i : Nat) : q_H := (fun a f k j => if a = 35 ∧ f = 0 ∧ k = 7 ∧ 1644 * m ≤ j ∧ j < 1644 * m + i then h.1 31 0 7 (j - 1644 * m) else h.1 a f k j, h.2)
theorem z_X_o {h : q_H} {m i a f k j : Nat} (n : ¬ (a = 35 ∧ f = 0 ∧ k = 7)) : (z_X h m i).1 a f k j = h.1 a f k j := if_neg (fun q => n ⟨q.1, q.2.1, q.2.2.1⟩)
theorem z_X_s {h : q_H} {m i : Nat} : q_si (z_X h m i) 35 0 7 (1644 * m + i) (h.1 31 0 7 i) = z_X h m (i + 1) := by
  refine Prod.ext ?_ rfl
  funext a f k j
  show (if a = 35 ∧ f = 0 ∧ k = 7 ∧ j = 1644 * m + i then h.1 31 0 7 i else (if a = 35 ∧ f = 0 ∧ k = 7 ∧ 1644 * m ≤ j ∧ j < 1644 * m + i then h.1 31 0 7 (j - 1644 * m) else h.1 a f k j)) = (if a = 35 ∧ f = 0 ∧ k = 7 ∧ 1644 * m ≤ j ∧ j < 1644 * m + (i + 1) then h.1 31 0 7 (j - 1644 * m) else h.1 a f k j)
  by_cases c : a = 35 ∧ f = 0 ∧ k = 7 ∧ j = 1644 * m + i
  · rw [if_pos c, if_pos ⟨c.1, c.2.1, c.2.2.1, by omega, by omega⟩, c.2.2.2, show 1644 * m + i - 1644 * m = i by omega]
  · rw [if_neg c]
    by_cases d : a = 35 ∧ f = 0 ∧ k = 7 ∧ 1644 * m ≤ j ∧ j < 1644 * m + i
    · rw [if_pos d, if_pos ⟨d.1, d.2.1, d.2.2.1, by omega, by omega⟩]
    · rw [if_neg d, if_neg (fun q => by omega)]
theorem m_markLoop {h : q_H} {m : Nat} (hm : m < 3) (h5 : h.1 30 5 7 0 = nI m) : q_lp (fun s9 : Int32 × q_H => (if (1644 : Int32) ≤ s9.1 then (some (.inr ((((q_si s9.2 30 5 7 0 ((s9.2.1 30 5 7 0) + (1 : Int32))).1 30 5 7 0), (q_si s9.2 30 5 7 0 ((s9.2.1 30 5 7 0) + (1 : Int32))))))) else (bif q_in s9.1 1644 then (bif q_in (((1644 : Int32) * (s9.2.1 30 5 7 0)) + s9.1) 4932 then (some (.inl ((s9.1 + (1 : Int32)), (q_si s9.2 35 0 7 (((1644 : Int32) * (s9.2.1 30 5 7 0)) + s9.1).toNatClampNeg (s9.2.1 31 0 7 s9.1.toNatClampNeg))))) else none) else none) : Option ((Int32 × q_H) ⊕ (Int32 × q_H)))) q_fu (((0 : Int32), h) : Int32 × q_H) = some (nI (m + 1), q_si (z_X h m 1644) 30 5 7 0 (nI (m + 1))) := by
  have x0 : z_X h m 0 = h := by
    refine Prod.ext ?_ rfl
    funext a f k j
    exact if_neg (fun q => by omega)
  have x5 : ∀ i, (z_X h m i).1 30 5 7 0 = nI m := fun i => by rw [z_X_o (by omega)]; exact h5
  have := g_lpI' (body := fun s9 : Int32 × q_H => (if (1644 : Int32) ≤ s9.1 then (some (.inr ((((q_si s9.2 30 5 7 0 ((s9.2.1 30 5 7 0) + (1 : Int32))).1 30 5 7 0), (q_si s9.2 30 5 7 0 ((s9.2.1 30 5 7 0) + (1 : Int32))))))) else (bif q_in s9.1 1644 then (bif q_in (((1644 : Int32) * (s9.2.1 30 5 7 0)) + s9.1) 4932 then (some (.inl ((s9.1 + (1 : Int32)), (q_si s9.2 35 0 7 (((1644 : Int32) * (s9.2.1 30 5 7 0)) + s9.1).toNatClampNeg (s9.2.1 31 0 7 s9.1.toNatClampNeg))))) else none) else none) : Option ((Int32 × q_H) ⊕ (Int32 × q_H)))) (s0 := ((0 : Int32), h)) (β := Unit) (fun _ x => x) 0 1644 () (fun i _ => (nI i, z_X h m i)) (fun _ => (nI (m + 1), q_si (z_X h m 1644) 30 5 7 0 (nI (m + 1)))) (by rw [x0]; rfl) (fun i x a b => ?_) (fun x => ?_) (by unfold q_fu; omega)
  · rw [this]
  · dsimp only
    rw [if_neg (show ¬ (1644 : Int32) ≤ nI i from nI_ge (b := 1644) (by omega) (by decide)), g_inN (n := i) (by omega) (by decide), cond_true, x5, show (1644 : Int32) = nI 1644 from rfl, pk_mul, nI_add, g_inN (by omega) (by decide), cond_true, g_cl (n := 1644 * m + i) (by omega), g_cl (n := i) (by omega), z_X_o (by omega), z_X_s, nI_1]
  · dsimp only
    rw [if_pos (show (1644 : Int32) ≤ nI (0 + 1644) from Int32.le_refl _), x5, nI_1, g_rd_e]
theorem z_S29 : lw_S29 z_Rel := fun n h hn rel => by
  have rel0 := rel
  obtain ⟨A, e1, e2, e3, e4, e5, e6, ⟨m, m1, m2, m3⟩, e8, e9⟩ := rel
  have hb : z_bd n ≤ z_bd (n + 1) := by unfold z_bd; omega
  have c5 : h.1 24 5 6 0 = nI m := e6.trans m2
  have pre : Rp_mark h = (if (3 : Int32) ≤ nI m then ((Rp_refuse (3 : Int32) h).bind fun x3 => some ((x3.1, x3.2))) else (bif q_in (nI m) 3 then (bif q_in (nI m) 3 then ((St_copyFrom (3 + m) 0 h).bind fun x5 => (Rp_answer ((q_si x5 24 5 6 0 ((x5.1 24 5 6 0) + (1 : Int32))).1 24 5 6 0) (q_si x5 24 5 6 0 ((x5.1 24 5 6 0) + (1 : Int32)))).bind fun x7 => some ((x7.1, x7.2))) else none) else none)) := by
    unfold Rp_mark
    rw [c5, if_neg (show ¬ nI m < 0 from nI_nlt (b := 0) (by omega) (by omega)), g_cl (by omega)]
  by_cases c : m = 3
  · subst c
    have F : z_F h (q_si (q_si h 24 6 6 0 3) 30 6 7 0 3) := ⟨fun t f k i n0 n1 n2 n3 => by rw [g_rd_o (fun q => n3 ⟨q.2.2.1, by omega⟩), g_rd_o n2], fun _ _ _ _ _ _ => rfl⟩
    refine ⟨-1, q_si h 24 6 6 0 3, g_s 3 (q_si h 24 6 6 0 3), by rw [pre, if_pos (by decide)]; rfl, ?_, ?_⟩
    · unfold Mo_mark
      rw [g_rd_o (by omega), m2, if_neg (by decide), Option.bind_some, m_is1 (by decide)]
      rfl
    · have F2 : z_F h (g_s 3 (q_si h 24 6 6 0 3)) := ⟨fun t f k i n0 n1 n2 n3 => by rw [g_s_o (fun q => n3 ⟨q.2.2.1, by omega⟩), g_rd_o n2], fun _ _ _ _ _ _ => rfl⟩
      have s : ∀ k, k ≤ 5 → g_st (g_s 3 (q_si h 24 6 6 0 3)) k = g_st h k := fun k hk => z_st (fun t f i => by rw [g_s_o (by omega), g_rd_o (by omega)]) (fun t f i => rfl)
      refine z_mono ⟨A, g_is_cg (fun j => by rw [g_s_o (by omega), g_rd_o (by omega)]) e1, e2, e3, by rw [s 0 (by decide)]; exact e4, ?_, ?_, z_F_mk F2 ⟨3, m1, m2, m3⟩, fun k hk => by rw [s k hk]; exact e8 k hk, z_F_tx F2 e9⟩
      · rw [g_s_6, g_s_o (by omega), g_rd_e]
      · rw [g_s_o (by omega), g_s_o (by omega), g_rd_o (by omega), g_rd_o (by omega)]; exact e6
  · have hm : m < 3 := by omega
    have eC : Rp_mark h = some (nI (m + 1), q_si (q_si (g_cw h (3 + m) (g_cpS (g_st h (3 + m)) (g_st h 0))) 24 5 6 0 (nI (m + 1))) 24 6 6 0 0) := by
      rw [pre, if_neg (show ¬ (3 : Int32) ≤ nI m from nI_ge (b := 3) hm (by decide)), g_inN hm (by decide), cond_true, cond_true, c_copyFrom (by omega) (g_R_01 e4 e2.1.2.2.2.1), Option.bind_some, g_cw_rn (by omega), c5, nI_1, g_rd_e]
      rfl
    refine ⟨nI (m + 1), _, q_si (z_X (g_s 0 (q_si (q_si (g_cw h (3 + m) (g_cpS (g_st h (3 + m)) (g_st h 0))) 24 5 6 0 (nI (m + 1))) 24 6 6 0 0)) m 1644) 30 5 7 0 (nI (m + 1)), eC, ?_, ?_⟩
    · generalize hh1 : q_si (q_si (g_cw h (3 + m) (g_cpS (g_st h (3 + m)) (g_st h 0))) 24 5 6 0 (nI (m + 1))) 24 6 6 0 0 = h1
      have y5 : h1.1 30 5 7 0 = nI m := by rw [← hh1, g_rd_o (by omega), g_rd_o (by omega), g_cw_rn (by omega)]; exact m2
      unfold Mo_mark
      rw [y5, if_pos (show ¬ nI m = 3 from nI_e (b := 3) (by omega) (by omega) c), Option.bind_some, m_is0]
      simp only [Option.bind_some]
      rw [if_pos q1n, m_markLoop hm (by rw [g_s_o (by omega)]; exact y5)]
      rfl
    · generalize hS : g_cpS (g_st h (3 + m)) (g_st h 0) = S
      have rS : g_R (z_bd n) S A := by rw [← hS]; exact g_R_cp e4 (e8 (3 + m) (by omega)) e2
      generalize hh2 : q_si (z_X (g_s 0 (q_si (q_si (g_cw h (3 + m) S) 24 5 6 0 (nI (m + 1))) 24 6 6 0 0)) m 1644) 30 5 7 0 (nI (m + 1)) = h2
      have o : ∀ t f k i, k ≠ 3 + m → ¬ (t = 24 ∧ (f = 5 ∨ f = 6) ∧ k = 6 ∧ i = 0) → ¬ (t = 35 ∧ f = 0 ∧ k = 7) → ¬ (t = 30 ∧ (f = 5 ∨ f = 6 ∨ f = 7) ∧ k = 7 ∧ i = 0) → h2.1 t f k i = h.1 t f k i := fun t f k i n0 n1 n2 n3 => by
        rw [← hh2, g_rd_o (fun q => n3 ⟨q.1, by omega⟩), z_X_o n2, g_s_o (fun q => n3 ⟨q.1, by omega⟩), g_rd_o (fun q => n1 ⟨q.1, by omega⟩), g_rd_o (fun q => n1 ⟨q.1, by omega⟩), g_cw_rn n0]
      have o2 : ∀ t f k i, k ≠ 3 + m → h2.2 t f k i = h.2 t f k i := fun t f k i n0 => by
        rw [← hh2]
        show (g_cw h (3 + m) S).2 t f k i = _
        rw [g_cw_rm n0]
      have s : ∀ k, k ≤ 5 → k ≠ 3 + m → g_st h2 k = g_st h k := fun k hk hkm => z_st (fun t f i => o t f k i hkm (by omega) (by omega) (by omega)) (fun t f i => o2 t f k i hkm)
      have sm : g_st h2 (3 + m) = S := by
        rw [← hh2]
        have : g_st (q_si (z_X (g_s 0 (q_si (q_si (g_cw h (3 + m) S) 24 5 6 0 (nI (m + 1))) 24 6 6 0 0)) m 1644) 30 5 7 0 (nI (m + 1))) (3 + m) = g_st (g_cw h (3 + m) S) (3 + m) := z_st (fun t f i => by rw [g_rd_o (by omega), z_X_o (by omega), g_s_o (by omega), g_rd_o (by omega), g_rd_o (by omega)]) (fun t f i => rfl)
        rw [this, g_st_cw]
      have i31 : ∀ j, h2.1 31 0 7 j = h.1 31 0 7 j := fun j => o 31 0 7 j (by omega) (by omega) (by omega) (by omega)
      have m35 : ∀ j, h2.1 35 0 7 j = if 1644 * m ≤ j ∧ j < 1644 * m + 1644 then h.1 31 0 7 (j - 1644 * m) else h.1 35 0 7 j := fun j => by
        rw [← hh2, g_rd_o (by omega)]
        show (if 35 = 35 ∧ 0 = 0 ∧ 7 = 7 ∧ 1644 * m ≤ j ∧ j < 1644 * m + 1644 then _ else _) = _
        by_cases d : 1644 * m ≤ j ∧ j < 1644 * m + 1644
        · rw [if_pos ⟨rfl, rfl, rfl, d.1, d.2⟩, if_pos d, g_s_o (by omega), g_rd_o (by omega), g_rd_o (by omega), g_cw_rn (by omega)]
        · rw [if_neg (fun q => d q.2.2.2), if_neg d, g_s_o (by omega), g_rd_o (by omega), g_rd_o (by omega), g_cw_rn (by omega)]
      refine z_mono ⟨A, g_is_cg i31 e1, e2, e3, by rw [s 0 (by decide) (by omega)]; exact e4, ?_, ?_, ⟨m + 1, by omega, by rw [← hh2, g_rd_e], fun j hj => ?_⟩, fun k hk => ?_, ?_⟩
      · have a : h2.1 24 6 6 0 = 0 := by rw [← hh2, g_rd_o (by omega), z_X_o (by omega), g_s_o (by omega), g_rd_e]
        have b : h2.1 30 6 7 0 = 0 := by rw [← hh2, g_rd_o (by omega), z_X_o (by omega), g_s_6]
        rw [a, b]
      · have a : h2.1 24 5 6 0 = nI (m + 1) := by rw [← hh2, g_rd_o (by omega), z_X_o (by omega), g_s_o (by omega), g_rd_o (by omega), g_rd_e]
        have b : h2.1 30 5 7 0 = nI (m + 1) := by rw [← hh2, g_rd_e]
        rw [a, b]
      · by_cases d : j = m
        · subst d
          refine ⟨A, fun c hc => ?_, e2, e3, by rw [sm]; exact rS⟩
          rw [m35, if_pos ⟨by omega, by omega⟩, show 1644 * j + c - 1644 * j = c by omega]
          unfold g_is at e1
          rw [e1, g_ma_rd hc]
        · obtain ⟨B, b1, b2, b3, b4⟩ := m3 j (by omega)
          refine ⟨B, fun c hc => ?_, b2, b3, by rw [s (3 + j) (by omega) (by omega)]; exact b4⟩
          rw [m35, if_neg (by omega)]; exact b1 c hc
      · by_cases d : k = 3 + m
        · rw [d, sm]; exact rS.2.2.2.2.1
        · rw [s k hk d]; exact e8 k hk
      · obtain ⟨⟨t, t1, t2, t3⟩, q2, q3, q4, q5⟩ := e9
        refine ⟨⟨t, t1, by rw [o 25 1 6 0 (by omega) (by omega) (by omega) (by omega)]; exact t2, by rw [o 30 12 7 0 (by omega) (by omega) (by omega) (by omega)]; exact t3⟩, fun i hi => by rw [o 26 0 6 i (by omega) (by omega) (by omega) (by omega), o 38 0 7 i (by omega) (by omega) (by omega) (by omega)]; exact q2 i hi, fun k hk => by rw [o2 39 0 7 k (by omega)]; exact q3 k hk, fun k hk => by rw [o 40 0 7 k (by omega) (by omega) (by omega) (by omega)]; exact q4 k hk, ?_⟩
        rw [o 25 14 6 0 (by omega) (by omega) (by omega) (by omega), o 25 15 6 0 (by omega) (by omega) (by omega) (by omega), o 25 16 6 0 (by omega) (by omega) (by omega) (by omega), o 30 13 7 0 (by omega) (by omega) (by omega) (by omega), o 30 14 7 0 (by omega) (by omega) (by omega) (by omega)]
        exact q5
