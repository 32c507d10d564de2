/-! load -/
theorem z_refuse {n : Nat} {h : q_H} {st : Int32} (rel : z_Rel n h) : z_Rel n (g_s st (q_si h 24 6 6 0 st)) := by
  obtain ⟨A, e1, e2, e3, e4, e5, e6, e7, e8, e9⟩ := rel
  have F2 : z_F h (g_s st (q_si h 24 6 6 0 st)) := ⟨fun t f k i n0 n1 n2 n3 => by rw [g_s_o (fun q => n3 ⟨q.2.2.1, by omega⟩), g_rd_o n2], fun _ _ _ _ _ _ => rfl⟩
  have s : ∀ k, k ≤ 5 → g_st (g_s st (q_si h 24 6 6 0 st)) k = g_st h k := fun k hk => z_st (fun t f i => by rw [g_s_o (by omega), g_rd_o (by omega)]) (fun t f i => rfl)
  refine ⟨A, g_is_cg (fun j => by rw [g_s_o (by omega), g_rd_o (by omega)]) e1, e2, e3, by rw [s 0 (by decide)]; exact e4, ?_, ?_, z_F_mk F2 e7, fun k hk => by rw [s k hk]; exact e8 k hk, z_F_tx F2 e9⟩
  · rw [g_s_6, g_s_o (by omega), g_rd_e]
  · rw [g_s_o (by omega), g_s_o (by omega), g_rd_o (by omega), g_rd_o (by omega)]; exact e6
theorem c_txOpen {a : Int32} {X : q_H} : ∃ H0, Tx_open a X = some H0 ∧ (∀ t f k i, ¬ (t = 25 ∧ k = 6 ∧ 1 ≤ f ∧ f ≤ 16) → H0.1 t f k i = X.1 t f k i) ∧ H0.2 = X.2 ∧ H0.1 25 1 6 0 = 0 ∧ H0.1 25 2 6 0 = a ∧ H0.1 25 3 6 0 = 0 ∧ H0.1 25 10 6 0 = 0 ∧ H0.1 25 11 6 0 = 0 ∧ H0.1 25 12 6 0 = 0 ∧ H0.1 25 13 6 0 = 0 ∧ H0.1 25 14 6 0 = 1 ∧ H0.1 25 15 6 0 = 0 ∧ H0.1 25 16 6 0 = -1 := by
  refine ⟨_, rfl, fun t f k i n => ?_, rfl, rfl, rfl, rfl, rfl, rfl, rfl, rfl, rfl, rfl, rfl⟩
  have o : ∀ (h : q_H) (g : Nat) (v : Int32), 1 ≤ g → g ≤ 16 → (q_si h 25 g 6 0 v).1 t f k i = h.1 t f k i := fun h g v a b => g_rd_o (fun q => n ⟨q.1, q.2.2.1, by omega⟩)
  rw [o _ 16 _ (by omega) (by omega), o _ 15 _ (by omega) (by omega), o _ 14 _ (by omega) (by omega), o _ 13 _ (by omega) (by omega), o _ 12 _ (by omega) (by omega), o _ 11 _ (by omega) (by omega), o _ 10 _ (by omega) (by omega), o _ 3 _ (by omega) (by omega), o _ 1 _ (by omega) (by omega), o _ 2 _ (by omega) (by omega)]
def z_mi (n : Nat) (g : q_H) : q_H := q_si (q_si (q_si (q_si (q_si (q_si (g_s 0 g) 30 21 7 0 (nI n)) 30 18 7 0 (0 : Int32)) 30 15 7 0 (0 : Int32)) 30 26 7 0 (0 : Int32)) 30 27 7 0 (0 : Int32)) 30 28 7 0 (0 : Int32)
/-- the reference as it begins to read -/
theorem m_start {n : Nat} {T : Nat → Int32} {g : q_H} (hn : n ≤ 700) (hB : ∀ i, i < 700 → g_by (T i) (g.1 38 0 7 i)) (hw : ∀ k, k < 14 → g.2 39 0 7 k = Int64.ofNat (x_W.getD k 0)) (ht : ∀ k, k < 14 → g.1 40 0 7 k = nI (x_nb k)) : ∃ hs, ((Mo_copy 31 7 34 7 (z_mi n g)).bind fun x13 => (Mo_clears x13).bind fun x15 => Mo_reads x15) = some hs ∧ g_is hs g_A0 ∧ x_sm hs T n ∧ x_rd hs T n 0 ∧ hs.1 30 15 7 0 = 0 ∧ hs.1 30 26 7 0 = 0 ∧ hs.1 30 27 7 0 = 0 ∧ hs.1 30 28 7 0 = 0 ∧ (∀ j, j < 1644 → hs.1 34 0 7 j = g.1 31 0 7 j) ∧ (∀ t f k i, ¬ (t = 30 ∧ k = 7 ∧ (f = 6 ∨ f = 7 ∨ (15 ≤ f ∧ f ≤ 21) ∨ (26 ≤ f ∧ f ≤ 28))) → ¬ (k = 7 ∧ (t = 31 ∨ t = 34)) → hs.1 t f k i = g.1 t f k i) ∧ (∀ t f k i, ¬ (t = 30 ∧ k = 7 ∧ f = 22) → hs.2 t f k i = g.2 t f k i) := by
  have cp := m_copy (h := z_mi n g) (t1 := 31) (t2 := 34) (by decide) rfl rfl rfl rfl
  have zo : ∀ t f k i, ¬ (t = 30 ∧ k = 7 ∧ (f = 6 ∨ f = 7 ∨ (15 ≤ f ∧ f ≤ 21) ∨ (26 ≤ f ∧ f ≤ 28))) → (z_mi n g).1 t f k i = g.1 t f k i := fun t f k i n => by
    unfold z_mi
    rw [g_rd_o (fun q => n ⟨q.1, q.2.2.1, by omega⟩), g_rd_o (fun q => n ⟨q.1, q.2.2.1, by omega⟩), g_rd_o (fun q => n ⟨q.1, q.2.2.1, by omega⟩), g_rd_o (fun q => n ⟨q.1, q.2.2.1, by omega⟩), g_rd_o (fun q => n ⟨q.1, q.2.2.1, by omega⟩), g_rd_o (fun q => n ⟨q.1, q.2.2.1, by omega⟩), g_s_o (fun q => n ⟨q.1, q.2.2.1, by omega⟩)]
  generalize hY : g_ma (g_ma (z_mi n g) 34 (g_of (z_mi n g) 31)) 31 g_A0 = Y
  have yo : ∀ t f k i, t ≠ 31 → t ≠ 34 → Y.1 t f k i = (z_mi n g).1 t f k i := fun t f k i a b => by rw [← hY, g_ma_ne a, g_ma_ne b]
  have yo2 : ∀ t f k i, ¬ (k = 7 ∧ (t = 31 ∨ t = 34)) → Y.1 t f k i = (z_mi n g).1 t f k i := fun t f k i a => by
    rw [← hY]
    show (if t = 31 ∧ f = 0 ∧ k = 7 ∧ i < 1644 then _ else (if t = 34 ∧ f = 0 ∧ k = 7 ∧ i < 1644 then _ else (z_mi n g).1 t f k i)) = _
    rw [if_neg (fun q => a ⟨q.2.2.1, Or.inl q.1⟩), if_neg (fun q => a ⟨q.2.2.1, Or.inr q.1⟩)]
  have y2 : ∀ t f k i, Y.2 t f k i = g.2 t f k i := fun t f k i => by rw [← hY]; rfl
  have yi : g_is Y g_A0 := by rw [← hY]; exact g_is_ma
  have ysm : x_sm Y T n := ⟨fun i hi => by rw [yo 38 0 7 i (by decide) (by decide), zo 38 0 7 i (by omega)]; exact hB i hi, by rw [yo 30 21 7 0 (by decide) (by decide)]; rfl, fun k hk => by rw [y2]; exact hw k hk, fun k hk => by rw [yo 40 0 7 k (by decide) (by decide), zo 40 0 7 k (by omega)]; exact ht k hk⟩
  obtain ⟨hs, e3, f3, t3⟩ := m_reads (h := Y) (n := n) (T := T) (p := 0) ysm.1 hn ysm.2.1 (by omega) (by rw [yo 30 18 7 0 (by decide) (by decide)]; rfl)
  have q3 := g_tm_q f3
  refine ⟨hs, ?_, x_is_q q3 yi, x_sm_q q3 ysm, t3, ?_, ?_, ?_, ?_, fun j hj => ?_, fun t f k i n1 n2 => ?_, fun t f k i n1 => ?_⟩
  · rw [cp, Option.bind_some, m_clears, Option.bind_some, hY, e3]
  · rw [f3.1 30 15 7 0 (by omega), yo 30 15 7 0 (by decide) (by decide)]; rfl
  · rw [f3.1 30 26 7 0 (by omega), yo 30 26 7 0 (by decide) (by decide)]; rfl
  · rw [f3.1 30 27 7 0 (by omega), yo 30 27 7 0 (by decide) (by decide)]; rfl
  · rw [f3.1 30 28 7 0 (by omega), yo 30 28 7 0 (by decide) (by decide)]; rfl
  · rw [f3.1 34 0 7 j (by omega), ← hY, g_ma_ne (by decide), g_ma_rd hj, g_at_of, zo 31 0 7 j (by omega)]
  · rw [f3.1 t f k i (fun q => n1 ⟨q.1, q.2.1, by omega⟩), yo2 t f k i n2, zo t f k i n1]
  · rw [f3.2 t f k i n1, y2]
