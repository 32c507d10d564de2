/-! begin -/
theorem g_bi_or {x : Int32} {i j : Nat} (hi : i < 32) (hj : j < 32) : g_bi (x ||| ((1 : Int32) <<< (nI i &&& 31))) j = (g_bi x j || decide (j = i)) := by
  unfold g_bi
  have e : (x ||| ((1 : Int32) <<< (nI i &&& 31))).toBitVec = x.toBitVec ||| (1#32 <<< ((nI i &&& 31).toBitVec.smod 32).toNat) := rfl
  rw [e, g_s32 i hi, BitVec.getLsbD_or, BitVec.getLsbD_shiftLeft]
  congr 1
  by_cases c : j = i
  · subst c; simp [hj]
  · rw [decide_eq_false c]
    by_cases d : j < i
    · simp [d]
    · have : j - i ≠ 0 := by omega
      simp [BitVec.getLsbD_one, d, this]
theorem g_bt_or {x : Int64} {i j : Nat} (hi : i < 64) (hj : j < 64) : g_bt (x ||| ((1 : Int64) <<< ((nI i).toInt64 &&& 63))) j = (g_bt x j || decide (j = i)) := by
  unfold g_bt
  have e : (x ||| ((1 : Int64) <<< ((nI i).toInt64 &&& 63))).toBitVec = x.toBitVec ||| (1#64 <<< (((nI i).toInt64 &&& 63).toBitVec.smod 64).toNat) := rfl
  rw [e, g_s64 i hi, BitVec.getLsbD_or, BitVec.getLsbD_shiftLeft]
  congr 1
  by_cases c : j = i
  · subst c; simp [hj]
  · rw [decide_eq_false c]
    by_cases d : j < i
    · simp [d]
    · have : j - i ≠ 0 := by omega
      simp [BitVec.getLsbD_one, d, this]
/-- the reference's words of those that are open -/
def g_b1f (A : g_A) (k : Nat) (x : Int32) : Int32 := if g_op A k = true ∧ k ≤ 30 then x ||| ((1 : Int32) <<< (nI (k - 1) &&& 31)) else x
def g_b2f (A : g_A) (k : Nat) (x : Int32) : Int32 := if g_op A k = true ∧ ¬ k ≤ 30 then x ||| ((1 : Int32) <<< (nI (k - 31) &&& 31)) else x
def g_w1 (A : g_A) (n : Nat) : Int32 := g_it (g_b1f A) 1 n 0
def g_w2 (A : g_A) (n : Nat) : Int32 := g_it (g_b2f A) 1 n 0
def g_bw (A : g_A) (n : Nat) : g_A := g_au (g_au (g_au A 3 (g_nx A) 0 0) 3 (g_nx A) 1 (g_w1 A n)) 3 (g_nx A) 2 (g_w2 A n)
def g_beg (A : g_A) : g_A := g_au (g_au (g_bw A (g_nx A - 1)) 6 (g_nx A) 0 0) 0 4 0 (A 0 4 0 + 1)
theorem g_w1_b {A : g_A} {o : Nat} (h1 : 1 ≤ o) (h2 : o ≤ 30) : ∀ n, n ≤ 60 → g_bi (g_w1 A n) (o - 1) = (decide (o < 1 + n) && g_op A o) := by
  intro n
  induction n with
  | zero =>
    intro _
    rw [decide_eq_false (by omega)]
    show g_bi 0 (o - 1) = false
    unfold g_bi
    simp
  | succ n ih =>
    intro hn
    have ih := ih (by omega)
    show g_bi (g_b1f A (1 + n) (g_w1 A n)) (o - 1) = _
    unfold g_b1f
    by_cases c : g_op A (1 + n) = true ∧ 1 + n ≤ 30
    · rw [if_pos c, g_bi_or (by omega) (by omega), ih]
      by_cases d : o = 1 + n
      · subst d
        rw [decide_eq_true (by omega : 1 + n - 1 = 1 + n - 1), c.1, decide_eq_true (by omega : 1 + n < 1 + (n + 1))]; simp
      · rw [decide_eq_false (by omega : ¬ o - 1 = 1 + n - 1)]
        have : decide (o < 1 + (n + 1)) = decide (o < 1 + n) := by congr 1; exact propext ⟨fun q => by omega, fun q => by omega⟩
        rw [this]; simp
    · rw [if_neg c, ih]
      by_cases d : o = 1 + n
      · subst d
        have : g_op A (1 + n) = false := by
          cases z : g_op A (1 + n) with
          | false => rfl
          | true => exact absurd ⟨z, h2⟩ c
        rw [this]; simp
      · have : decide (o < 1 + (n + 1)) = decide (o < 1 + n) := by congr 1; exact propext ⟨fun q => by omega, fun q => by omega⟩
        rw [this]
theorem g_w2_b {A : g_A} {o : Nat} (h1 : 31 ≤ o) (h2 : o < 61) : ∀ n, n ≤ 60 → g_bi (g_w2 A n) (o - 31) = (decide (o < 1 + n) && g_op A o) := by
  intro n
  induction n with
  | zero =>
    intro _
    rw [decide_eq_false (by omega)]
    show g_bi 0 (o - 31) = false
    unfold g_bi
    simp
  | succ n ih =>
    intro hn
    have ih := ih (by omega)
    show g_bi (g_b2f A (1 + n) (g_w2 A n)) (o - 31) = _
    unfold g_b2f
    by_cases c : g_op A (1 + n) = true ∧ ¬ 1 + n ≤ 30
    · rw [if_pos c, g_bi_or (by omega) (by omega), ih]
      by_cases d : o = 1 + n
      · subst d
        rw [decide_eq_true (by omega : 1 + n - 31 = 1 + n - 31), c.1, decide_eq_true (by omega : 1 + n < 1 + (n + 1))]; simp
      · rw [decide_eq_false (by omega : ¬ o - 31 = 1 + n - 31)]
        have : decide (o < 1 + (n + 1)) = decide (o < 1 + n) := by congr 1; exact propext ⟨fun q => by omega, fun q => by omega⟩
        rw [this]; simp
    · rw [if_neg c, ih]
      by_cases d : o = 1 + n
      · subst d
        have : g_op A (1 + n) = false := by
          cases z : g_op A (1 + n) with
          | false => rfl
          | true => exact absurd ⟨z, by omega⟩ c
        rw [this]; simp
      · have : decide (o < 1 + (n + 1)) = decide (o < 1 + n) := by congr 1; exact propext ⟨fun q => by omega, fun q => by omega⟩
        rw [this]
theorem g_beg_o {A : g_A} {g i w : Nat} (h3 : ¬ (g = 3 ∧ i = g_nx A)) (h6 : ¬ (g = 6 ∧ i = g_nx A)) (h0 : ¬ (g = 0 ∧ i = 4)) : g_beg A g i w = A g i w := by
  unfold g_beg g_bw
  rw [g_au_ne (fun q => h0 ⟨q.1, q.2.1⟩), g_au_ne (fun q => h6 ⟨q.1, q.2.1⟩), g_au_ne (fun q => h3 ⟨q.1, q.2.1⟩), g_au_ne (fun q => h3 ⟨q.1, q.2.1⟩), g_au_ne (fun q => h3 ⟨q.1, q.2.1⟩)]
theorem g_beg_f {A : g_A} (hw : g_wt A) (h60 : g_nx A ≤ 60) : g_beg A 0 4 0 = nI (g_nx A + 1) ∧ g_nx (g_beg A) = g_nx A + 1 ∧ g_beg A 3 (g_nx A) 0 = 0 ∧ g_beg A 6 (g_nx A) 0 = 0 ∧ (∀ o, 1 ≤ o → o < g_nx A → g_nt (g_beg A) (g_nx A) o = g_op A o) := by
  have e4 : g_beg A 0 4 0 = nI (g_nx A + 1) := by unfold g_beg; rw [g_au_eq, hw.1, nI_1]
  refine ⟨e4, ?_, ?_, ?_, fun o h1 h2 => ?_⟩
  · show (g_beg A 0 4 0).toNatClampNeg = _
    rw [e4, g_cl (by omega)]
  · unfold g_beg g_bw
    rw [g_au_ne (by omega), g_au_ne (by omega), g_au_ne (by omega), g_au_ne (by omega), g_au_eq]
  · unfold g_beg
    rw [g_au_ne (by omega), g_au_eq]
  · have c1 : g_beg A 3 (g_nx A) 1 = g_w1 A (g_nx A - 1) := by
      unfold g_beg g_bw
      rw [g_au_ne (by omega), g_au_ne (by omega), g_au_ne (by omega), g_au_eq]
    have c2 : g_beg A 3 (g_nx A) 2 = g_w2 A (g_nx A - 1) := by
      unfold g_beg g_bw
      rw [g_au_ne (by omega), g_au_ne (by omega), g_au_eq]
    rw [g_nt_b h1 (by omega)]
    by_cases c : o ≤ 30
    · rw [if_pos c, c1, g_w1_b h1 c _ (by omega), decide_eq_true (by omega)]; simp
    · rw [if_neg c, c2, g_w2_b (by omega) (by omega) _ (by omega), decide_eq_true (by omega)]; simp
theorem m_beginNow {A : g_A} {h : q_H} (hw : g_wt A) : Mo_beginNow (g_ma h 31 A) = if g_nx A ≤ 60 then some (nI (g_nx A), g_ma h 31 (g_beg A)) else some (-1, q_si (g_ma h 31 A) 30 6 7 0 3) := by
  obtain ⟨e, h2, h61⟩ := hw
  unfold Mo_beginNow
  rw [m_g (by omega), e]
  by_cases c : g_nx A ≤ 60
  · have ix : ∀ w, w < 3 → q_in (((1052 : Int32) + ((3 : Int32) * nI (g_nx A))) + nI w) 1644 = true ∧ (((1052 : Int32) + ((3 : Int32) * nI (g_nx A))) + nI w).toNatClampNeg = 1052 + 3 * g_nx A + w := fun w hw => by
      rw [show (1052 : Int32) = nI 1052 from rfl, show (3 : Int32) = nI 3 from rfl, pk_mul, nI_add, nI_add, g_cl (by omega)]
      exact ⟨g_inN (by omega) (by decide), rfl⟩
    have ix0 : q_in ((1052 : Int32) + ((3 : Int32) * nI (g_nx A))) 1644 = true ∧ ((1052 : Int32) + ((3 : Int32) * nI (g_nx A))).toNatClampNeg = 1052 + 3 * g_nx A + 0 := by
      rw [show (1052 : Int32) = nI 1052 from rfl, show (3 : Int32) = nI 3 from rfl, pk_mul, nI_add, g_cl (by omega)]
      exact ⟨g_inN (by omega) (by decide), rfl⟩
    have wr : ∀ (B : g_A) (w : Nat) (v : Int32), w < 3 → q_si (g_ma h 31 B) 31 0 7 (1052 + 3 * g_nx A + w) v = g_ma h 31 (g_au B 3 (g_nx A) w v) := fun B w v hw => g_ma_si (g := 3) (i := g_nx A) (w := w) (fun B => g_at3 (by omega) hw) rfl (by omega)
    have i1 : q_in (((1052 : Int32) + ((3 : Int32) * nI (g_nx A))) + (1 : Int32)) 1644 = true ∧ (((1052 : Int32) + ((3 : Int32) * nI (g_nx A))) + (1 : Int32)).toNatClampNeg = 1052 + 3 * g_nx A + 1 := ix 1 (by omega)
    have i2 : q_in (((1052 : Int32) + ((3 : Int32) * nI (g_nx A))) + (2 : Int32)) 1644 = true ∧ (((1052 : Int32) + ((3 : Int32) * nI (g_nx A))) + (2 : Int32)).toNatClampNeg = 1052 + 3 * g_nx A + 2 := ix 2 (by omega)
    rw [if_pos (show nI (g_nx A) ≤ (60 : Int32) from nI_le (b := 60) c (by decide)), if_pos c, ix0.1, i1.1]
    simp only [cond_true, Option.bind_some]
    rw [i2.1, ix0.2, i1.2, i2.2, wr _ 0 _ (by omega), wr _ 1 _ (by omega), wr _ 2 _ (by omega)]
    simp only [cond_true]
    refine g_bs ?_
    have e0 : g_au (g_au (g_au A 3 (g_nx A) 0 0) 3 (g_nx A) 1 0) 3 (g_nx A) 2 0 = g_bw A 0 := rfl
    rw [e0]
    refine g_lp (fun i => (nI (1 + i), g_ma h 31 (g_bw A i))) _ (g_nx A - 1) (fun i hi => ?_) ?_ q_fu (by unfold q_fu; omega)
    · dsimp only
      rw [if_neg (nI_ge (by omega) (by omega)), m_isOpen (by omega)]
      simp only [Option.bind_some]
      have op : g_op (g_bw A i) (1 + i) = g_op A (1 + i) := by
        unfold g_op g_bw
        rw [g_au_ne (by omega), g_au_ne (by omega), g_au_ne (by omega)]
      have s1 : g_w1 A (i + 1) = g_b1f A (1 + i) (g_w1 A i) := rfl
      have s2 : g_w2 A (i + 1) = g_b2f A (1 + i) (g_w2 A i) := rfl
      have en : nI (1 + i) + (1 : Int32) = nI (1 + (i + 1)) := by rw [nI_1]; rfl
      rw [op, en]
      cases o : g_op A (1 + i) with
      | false =>
        rw [if_pos (by rfl)]
        have : g_bw A (i + 1) = g_bw A i := by
          unfold g_bw
          rw [s1, s2]
          unfold g_b1f g_b2f
          rw [o, if_neg (fun q => by cases q.1), if_neg (fun q => by cases q.1)]
        rw [this]; rfl
      | true =>
        rw [if_neg (by decide)]
        by_cases k30 : 1 + i ≤ 30
        · have c30 : nI (1 + i) ≤ 30 := nI_le (b := 30) k30 (by decide)
          rw [if_pos c30]
          simp only [Option.bind_some]
          rw [i1.1, if_pos c30, i1.2]
          simp only [cond_true]
          rw [g_ma_rd (by omega), show 1052 + 3 * g_nx A + 1 = 1052 + 3 * g_nx A + 1 from rfl, g_at3 (by omega) (by omega), wr _ 1 _ (by omega), g_sub1 (by omega)]
          have r1 : g_bw A i 3 (g_nx A) 1 = g_w1 A i := by unfold g_bw; rw [g_au_ne (by omega), g_au_eq]
          have : g_au (g_bw A i) 3 (g_nx A) 1 (g_bw A i 3 (g_nx A) 1 ||| ((1 : Int32) <<< (nI (1 + i - 1) &&& 31))) = g_bw A (i + 1) := by
            rw [r1]
            unfold g_bw
            rw [s1, s2]
            unfold g_b1f g_b2f
            rw [o, if_pos ⟨rfl, k30⟩, if_neg (fun q => q.2 k30)]
            funext a b c
            unfold g_au
            repeat' split
            all_goals first | rfl | omega
          rw [this]; rfl
        · have c30 : ¬ nI (1 + i) ≤ 30 := fun q => k30 ((nI_leI (b := 30) (by omega) (by decide)).mp q)
          rw [if_neg c30]
          simp only [Option.bind_some]
          rw [i2.1, if_neg c30, i2.2]
          simp only [cond_true]
          have s31 : nI (1 + i) - (31 : Int32) = nI (1 + i - 31) := pk_sub (b := 31) (by omega)
          rw [g_ma_rd (by omega), g_at3 (by omega) (by omega), wr _ 2 _ (by omega), s31]
          have r1 : g_bw A i 3 (g_nx A) 2 = g_w2 A i := by unfold g_bw; rw [g_au_eq]
          have : g_au (g_bw A i) 3 (g_nx A) 2 (g_bw A i 3 (g_nx A) 2 ||| ((1 : Int32) <<< (nI (1 + i - 31) &&& 31))) = g_bw A (i + 1) := by
            rw [r1]
            unfold g_bw
            rw [s1, s2]
            unfold g_b1f g_b2f
            rw [o, if_neg (fun q => k30 q.2), if_pos ⟨rfl, k30⟩]
            funext a b c
            unfold g_au
            repeat' split
            all_goals first | rfl | omega
          rw [this]; rfl
    · dsimp only
      have en : 1 + (g_nx A - 1) = g_nx A := by omega
      rw [en, if_pos (Int32.le_refl _), show (1583 : Int32) = nI 1583 from rfl, nI_add, g_inN (by omega) (by decide), g_cl (by omega), g_ma_si (g := 6) (i := g_nx A) (w := 0) (fun B => g_at6) rfl (by omega), m_g (by omega), g_w0 (by omega)]
      have r4 : g_au (g_bw A (g_nx A - 1)) 6 (g_nx A) 0 0 0 4 0 = A 0 4 0 := by
        unfold g_bw
        rw [g_au_ne (by omega), g_au_ne (by omega), g_au_ne (by omega), g_au_ne (by omega)]
      rw [r4]
      rfl
  · rw [if_neg (show ¬ nI (g_nx A) ≤ (60 : Int32) from fun q => c ((nI_leI (b := 60) (by omega) (by decide)).mp q)), if_neg c]
    rfl
