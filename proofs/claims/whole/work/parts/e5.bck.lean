/-! back -/
def z_Y (h : q_H) (m i : Nat) : q_H := (fun a f k j => if a = 31 ∧ f = 0 ∧ k = 7 ∧ j < i then h.1 35 0 7 (1644 * m + j) else h.1 a f k j, h.2)
theorem z_Y_o {h : q_H} {m i a f k j : Nat} (n : ¬ (a = 31 ∧ f = 0 ∧ k = 7)) : (z_Y h m i).1 a f k j = h.1 a f k j := if_neg (fun q => n ⟨q.1, q.2.1, q.2.2.1⟩)
theorem z_Y_s {h : q_H} {m i : Nat} : q_si (z_Y h m i) 31 0 7 i (h.1 35 0 7 (1644 * m + i)) = z_Y h m (i + 1) := by
  refine Prod.ext ?_ rfl
  funext a f k j
  show (if a = 31 ∧ f = 0 ∧ k = 7 ∧ j = i then h.1 35 0 7 (1644 * m + i) else (if a = 31 ∧ f = 0 ∧ k = 7 ∧ j < i then h.1 35 0 7 (1644 * m + j) else h.1 a f k j)) = (if a = 31 ∧ f = 0 ∧ k = 7 ∧ j < i + 1 then h.1 35 0 7 (1644 * m + j) else h.1 a f k j)
  by_cases c : a = 31 ∧ f = 0 ∧ k = 7 ∧ j = i
  · rw [if_pos c, if_pos ⟨c.1, c.2.1, c.2.2.1, by omega⟩, c.2.2.2]
  · rw [if_neg c]
    by_cases d : a = 31 ∧ f = 0 ∧ k = 7 ∧ j < i
    · rw [if_pos d, if_pos ⟨d.1, d.2.1, d.2.2.1, by omega⟩]
    · rw [if_neg d, if_neg (fun q => by omega)]
theorem m_backLoop {h : q_H} {m : Nat} (hm : m < 3) (h5 : h.1 30 5 7 0 = nI m) : q_lp (fun s9 : Int32 × q_H => (if (1644 : Int32) ≤ s9.1 then (some (.inr (((s9.2.1 30 5 7 0), s9.2)))) else (bif q_in (((1644 : Int32) * (s9.2.1 30 5 7 0)) + s9.1) 4932 then (bif q_in s9.1 1644 then (some (.inl ((s9.1 + (1 : Int32)), (q_si s9.2 31 0 7 s9.1.toNatClampNeg (s9.2.1 35 0 7 (((1644 : Int32) * (s9.2.1 30 5 7 0)) + s9.1).toNatClampNeg))))) else none) else none) : Option ((Int32 × q_H) ⊕ (Int32 × q_H)))) q_fu (((0 : Int32), h) : Int32 × q_H) = some (nI m, z_Y h m 1644) := by
  have x0 : z_Y h m 0 = h := by
    refine Prod.ext ?_ rfl
    funext a f k j
    exact if_neg (fun q => by omega)
  have x5 : ∀ i, (z_Y h m i).1 30 5 7 0 = nI m := fun i => by rw [z_Y_o (by omega)]; exact h5
  have := g_lpI' (body := fun s9 : Int32 × q_H => (if (1644 : Int32) ≤ s9.1 then (some (.inr (((s9.2.1 30 5 7 0), s9.2)))) else (bif q_in (((1644 : Int32) * (s9.2.1 30 5 7 0)) + s9.1) 4932 then (bif q_in s9.1 1644 then (some (.inl ((s9.1 + (1 : Int32)), (q_si s9.2 31 0 7 s9.1.toNatClampNeg (s9.2.1 35 0 7 (((1644 : Int32) * (s9.2.1 30 5 7 0)) + s9.1).toNatClampNeg))))) else none) else none) : Option ((Int32 × q_H) ⊕ (Int32 × q_H)))) (s0 := ((0 : Int32), h)) (β := Unit) (fun _ x => x) 0 1644 () (fun i _ => (nI i, z_Y h m i)) (fun _ => (nI m, z_Y h m 1644)) (by rw [x0]; rfl) (fun i x a b => ?_) (fun x => ?_) (by unfold q_fu; omega)
  · rw [this]
  · dsimp only
    rw [if_neg (show ¬ (1644 : Int32) ≤ nI i from nI_ge (b := 1644) (by omega) (by decide)), x5, show (1644 : Int32) = nI 1644 from rfl, pk_mul, nI_add, g_inN (by omega) (by decide), cond_true, g_inN (n := i) (by omega) (by decide), cond_true, g_cl (n := i) (by omega), g_cl (n := 1644 * m + i) (by omega), z_Y_o (by omega), z_Y_s, nI_1]
  · dsimp only
    rw [if_pos (show (1644 : Int32) ≤ nI (0 + 1644) from Int32.le_refl _), x5]
theorem z_S30 : lw_S30 z_Rel := fun n h hn rel => by
  have rel0 := rel
  obtain ⟨A, e1, e2, e3, e4, e5, e6, ⟨m, m1, m2, m3⟩, e8, e9⟩ := rel
  have c5 : h.1 24 5 6 0 = nI m := e6.trans m2
  by_cases c : m = 0
  · subst c
    have F2 : z_F h (g_s 5 (q_si h 24 6 6 0 5)) := ⟨fun t f k i n0 n1 n2 n3 => by rw [g_s_o (fun q => n3 ⟨q.2.2.1, by omega⟩), g_rd_o n2], fun _ _ _ _ _ _ => rfl⟩
    have s : ∀ k, k ≤ 5 → g_st (g_s 5 (q_si h 24 6 6 0 5)) k = g_st h k := fun k hk => z_st (fun t f i => by rw [g_s_o (by omega), g_rd_o (by omega)]) (fun t f i => rfl)
    refine ⟨-1, q_si h 24 6 6 0 5, g_s 5 (q_si h 24 6 6 0 5), ?_, ?_, ?_⟩
    · unfold Rp_back
      rw [c5, if_pos (by decide)]; rfl
    · unfold Mo_back
      rw [g_rd_o (by omega), m2, if_neg (by decide), Option.bind_some, m_is1 (by decide)]
      rfl
    · refine z_mono ⟨A, g_is_cg (fun j => by rw [g_s_o (by omega), g_rd_o (by omega)]) e1, e2, e3, by rw [s 0 (by decide)]; exact e4, ?_, ?_, z_F_mk F2 ⟨0, m1, m2, m3⟩, fun k hk => by rw [s k hk]; exact e8 k hk, z_F_tx F2 e9⟩
      · rw [g_s_6, g_s_o (by omega), g_rd_e]
      · rw [g_s_o (by omega), g_s_o (by omega), g_rd_o (by omega), g_rd_o (by omega)]; exact e6
  · obtain ⟨k, rfl⟩ : ∃ k, m = k + 1 := ⟨m - 1, by omega⟩
    obtain ⟨B, b1, b2, b3, b4⟩ := m3 k (by omega)
    have sub1 : nI (k + 1) - (1 : Int32) = nI k := by
      rw [show (1 : Int32) = nI 1 from rfl, pk_sub (by omega), show k + 1 - 1 = k by omega]
    have eC : Rp_back h = some (nI k, q_si (q_si (g_cw h 0 (g_cpS (g_st h 0) (g_st h (3 + k)))) 24 5 6 0 (nI k)) 24 6 6 0 0) := by
      unfold Rp_back
      rw [c5, sub1, if_neg (show ¬ nI k < 0 from nI_nlt (b := 0) (by omega) (by omega)), if_neg (show ¬ (3 : Int32) ≤ nI k from nI_ge (b := 3) (by omega) (by decide)), g_inN (by omega) (by decide), cond_true, cond_true, g_cl (by omega), c_copyFrom (k := 0) (k1 := 3 + k) (by omega) (g_R_01 b4 b2.1.2.2.2.1), Option.bind_some, g_rd_e]
      rfl
    generalize hS : g_cpS (g_st h 0) (g_st h (3 + k)) = S at eC
    have rS : g_R (z_bd n) S B := by rw [← hS]; exact g_R_cp b4 (e8 0 (by omega)) b2
    generalize hh1 : q_si (q_si (g_cw h 0 S) 24 5 6 0 (nI k)) 24 6 6 0 0 = h1 at eC
    have y5 : h1.1 30 5 7 0 = nI (k + 1) := by rw [← hh1, g_rd_o (by omega), g_rd_o (by omega), g_cw_rn (by omega)]; exact m2
    refine ⟨nI k, h1, z_Y (q_si (g_s 0 h1) 30 5 7 0 (nI k)) k 1644, eC, ?_, ?_⟩
    · unfold Mo_back
      rw [y5, if_pos (show ¬ nI (k + 1) = 0 from nI_e (b := 0) (by omega) (by omega) (by omega)), Option.bind_some, m_is0]
      simp only [Option.bind_some]
      rw [if_pos q1n, g_s_o (by omega), y5, sub1, m_backLoop (by omega) g_rd_e]
      rfl
    · generalize hh2 : z_Y (q_si (g_s 0 h1) 30 5 7 0 (nI k)) k 1644 = h2
      have o : ∀ t f k' i, k' ≠ 0 → ¬ (t = 24 ∧ (f = 5 ∨ f = 6) ∧ k' = 6 ∧ i = 0) → ¬ (t = 31 ∧ f = 0 ∧ k' = 7) → ¬ (t = 30 ∧ (f = 5 ∨ f = 6 ∨ f = 7) ∧ k' = 7 ∧ i = 0) → h2.1 t f k' i = h.1 t f k' i := fun t f k' i n0 n1 n2 n3 => by
        rw [← hh2, z_Y_o n2, g_rd_o (fun q => n3 ⟨q.1, by omega⟩), g_s_o (fun q => n3 ⟨q.1, by omega⟩), ← hh1, g_rd_o (fun q => n1 ⟨q.1, by omega⟩), g_rd_o (fun q => n1 ⟨q.1, by omega⟩), g_cw_rn n0]
      have o2 : ∀ t f k' i, k' ≠ 0 → h2.2 t f k' i = h.2 t f k' i := fun t f k' i n0 => by
        rw [← hh2, ← hh1]
        show (g_cw h 0 S).2 t f k' i = _
        rw [g_cw_rm n0]
      have s : ∀ k', k' ≤ 5 → k' ≠ 0 → g_st h2 k' = g_st h k' := fun k' hk hkm => z_st (fun t f i => o t f k' i hkm (by omega) (by omega) (by omega)) (fun t f i => o2 t f k' i hkm)
      have s0 : g_st h2 0 = S := by
        have : g_st h2 0 = g_st (g_cw h 0 S) 0 := z_st (fun t f i => by rw [← hh2, z_Y_o (by omega), g_rd_o (by omega), g_s_o (by omega), ← hh1, g_rd_o (by omega), g_rd_o (by omega)]) (fun t f i => by rw [← hh2, ← hh1]; rfl)
        rw [this, g_st_cw]
      have i31 : ∀ j, j < 1644 → h2.1 31 0 7 j = g_at B j := fun j hj => by
        rw [← b1 j hj, ← hh2]
        show (if 31 = 31 ∧ 0 = 0 ∧ 7 = 7 ∧ j < 1644 then _ else _) = _
        rw [if_pos ⟨rfl, rfl, rfl, hj⟩, g_rd_o (by omega), g_s_o (by omega), ← hh1, g_rd_o (by omega), g_rd_o (by omega), g_cw_rn (by omega)]
      refine z_mono ⟨B, (g_ma_id i31).symm, b2, b3, by rw [s0]; exact rS, ?_, ?_, ⟨k, by omega, ?_, fun j hj => ?_⟩, fun k' hk => ?_, ?_⟩
      · have a : h2.1 24 6 6 0 = 0 := by rw [← hh2, z_Y_o (by omega), g_rd_o (by omega), g_s_o (by omega), ← hh1, g_rd_e]
        have b : h2.1 30 6 7 0 = 0 := by rw [← hh2, z_Y_o (by omega), g_rd_o (by omega), g_s_6]
        rw [a, b]
      · have a : h2.1 24 5 6 0 = nI k := by rw [← hh2, z_Y_o (by omega), g_rd_o (by omega), g_s_o (by omega), ← hh1, g_rd_o (by omega), g_rd_e]
        have b : h2.1 30 5 7 0 = nI k := by rw [← hh2, z_Y_o (by omega), g_rd_e]
        rw [a, b]
      · rw [← hh2, z_Y_o (by omega), g_rd_e]
      · obtain ⟨D, d1, d2, d3, d4⟩ := m3 j (by omega)
        exact ⟨D, fun c hc => by rw [o 35 0 7 _ (by omega) (by omega) (by omega) (by omega)]; exact d1 c hc, d2, d3, by rw [s (3 + j) (by omega) (by omega)]; exact d4⟩
      · by_cases d : k' = 0
        · rw [d, s0]; exact rS.2.2.2.2.1
        · rw [s k' hk d]; exact e8 k' hk
      · obtain ⟨⟨t, t1, t2, t3⟩, q2, q3, q4, q5⟩ := e9
        refine ⟨⟨t, t1, by rw [o 25 1 6 0 (by omega) (by omega) (by omega) (by omega)]; exact t2, by rw [o 30 12 7 0 (by omega) (by omega) (by omega) (by omega)]; exact t3⟩, fun i hi => by rw [o 26 0 6 i (by omega) (by omega) (by omega) (by omega), o 38 0 7 i (by omega) (by omega) (by omega) (by omega)]; exact q2 i hi, fun k hk => by rw [o2 39 0 7 k (by omega)]; exact q3 k hk, fun k hk => by rw [o 40 0 7 k (by omega) (by omega) (by omega) (by omega)]; exact q4 k hk, ?_⟩
        rw [o 25 14 6 0 (by omega) (by omega) (by omega) (by omega), o 25 15 6 0 (by omega) (by omega) (by omega) (by omega), o 25 16 6 0 (by omega) (by omega) (by omega) (by omega), o 30 13 7 0 (by omega) (by omega) (by omega) (by omega), o 30 14 7 0 (by omega) (by omega) (by omega) (by omega)]
        exact q5
