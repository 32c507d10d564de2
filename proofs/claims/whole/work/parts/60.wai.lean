/-! who waits for whom -/
def g_wn (A : g_A) (t : Nat) : Nat := (A 6 t 0).toNatClampNeg
def g_wp (A : g_A) (t : Nat) (i : Nat) : Nat := match i with | 0 => t | i + 1 => if g_wp A t i = 0 then 0 else g_wn A (g_wp A t i)
theorem g_wp_s (A : g_A) (t i : Nat) : g_wp A t (i + 1) = if g_wp A t i = 0 then 0 else g_wn A (g_wp A t i) := rfl
def g_ww (A : g_A) : Prop := (∀ t, 1 ≤ t → t < g_nx A → A 6 t 0 = nI (g_wn A t) ∧ g_wn A t < g_nx A) ∧ ∀ t, 1 ≤ t → t < g_nx A → ∃ n, g_wp A t n = 0
theorem g_wp_lt {A : g_A} {t : Nat} (hw : g_ww A) (ht : g_wt A) (h2 : t < g_nx A) : ∀ i, g_wp A t i < g_nx A := by
  intro i
  induction i with
  | zero => exact h2
  | succ i ih =>
    rw [g_wp_s]
    by_cases c : g_wp A t i = 0
    · rw [if_pos c]; have := ht.2.1; omega
    · rw [if_neg c]; exact (hw.1 _ (by omega) ih).2
theorem g_wp_0 {A : g_A} {t i : Nat} (h : g_wp A t i = 0) : ∀ m, g_wp A t (i + m) = 0 := by
  intro m
  induction m with
  | zero => exact h
  | succ m ih => show g_wp A t (i + m + 1) = 0; rw [g_wp_s, if_pos ih]
theorem g_wp_z {A : g_A} {t i j : Nat} (h : g_wp A t i = 0) (hij : i ≤ j) : g_wp A t j = 0 := by
  obtain ⟨m, rfl⟩ : ∃ m, j = i + m := ⟨j - i, by omega⟩
  exact g_wp_0 h m
theorem g_wp_eq {A : g_A} {t u i j : Nat} (h : g_wp A t i = g_wp A u j) : ∀ m, g_wp A t (i + m) = g_wp A u (j + m) := by
  intro m
  induction m with
  | zero => exact h
  | succ m ih => show g_wp A t (i + m + 1) = g_wp A u (j + m + 1); rw [g_wp_s, g_wp_s, ih]
theorem g_wp_cyc {A : g_A} {t i d : Nat} (hd : 0 < d) (h : g_wp A t i = g_wp A t (i + d)) (h0 : ∃ n, g_wp A t n = 0) : g_wp A t i = 0 := by
  obtain ⟨n, hn⟩ := h0
  have key : ∀ m, g_wp A t (i + m * d) = g_wp A t i := by
    intro m
    induction m with
    | zero => rw [Nat.zero_mul]; rfl
    | succ m ih =>
      have := g_wp_eq h (m * d)
      have e : i + (m + 1) * d = i + d + m * d := by rw [Nat.add_mul, Nat.one_mul]; omega
      rw [e, ← this, ih]
  have h1 := key n
  have hle : n ≤ i + n * d := by
    have : n ≤ n * d := Nat.le_mul_of_pos_right n hd
    omega
  have := g_wp_0 hn (i + n * d - n)
  have e : n + (i + n * d - n) = i + n * d := by omega
  rw [e] at this
  rw [← h1, this]
theorem g_wp_60 {A : g_A} {t : Nat} (hw : g_ww A) (ht : g_wt A) (h1 : 1 ≤ t) (h2 : t < g_nx A) : g_wp A t 60 = 0 := by
  by_cases c : g_wp A t 60 = 0
  · exact c
  · exfalso
    have h3 := ht.2.2
    have nz : ∀ i, i ≤ 60 → g_wp A t i ≠ 0 := fun i hi q => c (g_wp_z q hi)
    obtain ⟨i, j, a, b, e⟩ := g_php 60 (fun i => g_wp A t i - 1) (fun i hi => by
      have := g_wp_lt hw ht h2 i
      have := nz i hi
      omega)
    have hi := nz i (by omega)
    have hj := nz j b
    have e2 : g_wp A t i = g_wp A t (i + (j - i)) := by
      have : i + (j - i) = j := by omega
      rw [this]; omega
    exact hi (g_wp_cyc (by omega) e2 (hw.2 t h1 h2))
def g_ri (A : g_A) (t e : Nat) : Nat := if g_wp A e (g_fst (fun i => decide (g_wp A e i = 0) || decide (g_wp A e i = t)) 0 60) = t then g_fst (fun i => decide (g_wp A e i = 0) || decide (g_wp A e i = t)) 0 60 + 1 else 0
def g_bk (A : g_A) (t : Nat) : Int32 := g_sm (fun o => q_bi (decide (o ≠ t) && decide (g_ri A t o ≠ 0))) 1 (g_nx A - 1)
theorem m_ringOf {h : q_H} {A : g_A} {t e : Nat} (hw : g_ww A) (ht : g_wt A) (h1 : 1 ≤ t) (h2 : t < 61) (h3 : 1 ≤ e) (h4 : e < g_nx A) : Mo_ringOf (nI t) (nI e) (g_ma h 31 A) = some (nI (g_ri A t e)) := by
  have n61 := ht.2.2
  unfold Mo_ringOf
  refine g_bs ((g_lpB (fun i => decide (g_wp A e i = 0) || decide (g_wp A e i = t)) (fun i => (nI (1 + i), nI (g_wp A e i))) 0 60 (fun i => if g_wp A e i = t then nI (i + 1) else 0) rfl (fun i a b => ?_) ?_ (by decide)).trans ?_)
  · dsimp only
    have hlt := g_wp_lt hw ht h4 i
    by_cases c : g_wp A e i = 0
    · rw [c, if_pos (by decide), if_neg (by omega), decide_eq_true rfl]; rfl
    · rw [if_neg (nI_nle (by omega) (by omega)), decide_eq_false c]
      by_cases d : g_wp A e i = t
      · rw [d, if_neg (fun q => q rfl), if_pos rfl, decide_eq_true rfl, Nat.add_comm]; rfl
      · rw [if_pos (fun q => d ((nI_eq (by omega) (by omega)).mp q)), decide_eq_false d, show (1583 : Int32) = nI 1583 from rfl, nI_add, g_inN (by omega) (by decide), g_cl (by omega), g_ma_rd (by omega), g_at6, g_wp_s, if_neg c, (hw.1 _ (by omega) hlt).1, nI_1]
        rfl
  · dsimp only
    have z := g_wp_60 hw ht h3 h4
    rw [Nat.zero_add, z, if_pos (by decide), if_neg (by omega)]
  · unfold g_ri
    by_cases c : g_wp A e (g_fst (fun i => decide (g_wp A e i = 0) || decide (g_wp A e i = t)) 0 60) = t
    · rw [if_pos c, if_pos c]
    · rw [if_neg c, if_neg c]; rfl
theorem c_waits' {H : q_H} {k t : Nat} {A : g_A} (hR : r_t (g_st H k) A) (ht : g_wt A) (hw : g_ww A) (h1 : 1 ≤ t) (h2 : t < g_nx A) : Tn_waitsFor k (nI t) H = some (g_pe (g_wn A t)) := by
  rw [c_waits hR ht h1 h2]
  have := ht.2.2
  have e := hw.1 t h1 h2
  unfold g_pe
  by_cases c : g_wn A t = 0
  · rw [if_pos c, e.1, c, if_neg (by decide)]
  · rw [if_neg c, e.1, if_pos (show (0 : Int32) < nI (g_wn A t) from nI_lt (a := 0) (by omega) (by omega))]
theorem g_peE {a b : Nat} (ha : a < 2 ^ 31) (hb : b < 2 ^ 31) (h : 1 ≤ b) : g_pe a = nI b ↔ a = b := by
  unfold g_pe
  by_cases c : a = 0
  · rw [if_pos c]
    exact ⟨fun q => absurd (q ▸ nI_pos' (n := b) hb) (by decide), fun q => by omega⟩
  · rw [if_neg c]; exact nI_eq ha hb
theorem g_pe1 {a : Nat} (ha : a < 2 ^ 31) : g_pe a = -1 ↔ a = 0 := by
  unfold g_pe
  by_cases c : a = 0
  · rw [if_pos c]; exact ⟨fun _ => c, fun _ => rfl⟩
  · rw [if_neg c]; exact ⟨fun q => absurd (q ▸ nI_pos' (n := a) ha) (by decide), fun q => absurd q c⟩
theorem c_ringLength {H : q_H} {k t e : Nat} {A : g_A} (hR : r_t (g_st H k) A) (hw : g_ww A) (ht : g_wt A) (h1 : 1 ≤ t) (h2 : t < 61) (h3 : 1 ≤ e) (h4 : e < g_nx A) : Tn_ringLength k (nI t) (nI e) H = some (nI (g_ri A t e)) := by
  have n61 := ht.2.2
  unfold Tn_ringLength
  refine g_bd (g_lpB (fun i => decide (g_wp A e i = 0) || decide (g_wp A e i = t)) (fun i => (g_pe (g_wp A e i), nI (1 + i), nI i)) 0 60 (fun i => (g_pe (g_wp A e i), nI (1 + i))) ?_ (fun i a b => ?_) ?_ (by decide)) ?_
  · show (nI e, (1 : Int32), (0 : Int32)) = (g_pe e, nI (1 + 0), nI 0)
    have : g_pe e = nI e := if_neg (by omega)
    rw [this]; rfl
  · dsimp only
    have hlt := g_wp_lt hw ht h4 i
    rw [if_neg (show ¬ (60 : Int32) ≤ nI i from nI_ge (b := 60) (by omega) (by decide))]
    by_cases c : g_wp A e i = 0
    · rw [if_pos ((g_pe1 (by omega)).mpr c), decide_eq_true c]; rfl
    · rw [if_neg (fun q => c ((g_pe1 (by omega)).mp q)), decide_eq_false c]
      by_cases d : g_wp A e i = t
      · rw [if_pos ((g_peE (by omega) (by omega) h1).mpr d), decide_eq_true d]; rfl
      · rw [if_neg (fun q => d ((g_peE (by omega) (by omega) h1).mp q)), decide_eq_false d]
        have : g_pe (g_wp A e i) = nI (g_wp A e i) := if_neg c
        rw [this, c_waits' hR ht hw (by omega) hlt, g_wp_s, if_neg c, nI_1, nI_1]
        rfl
  · dsimp only
    rfl
  · dsimp only
    unfold g_ri
    have hlt := g_wp_lt hw ht h4 (g_fst (fun i => decide (g_wp A e i = 0) || decide (g_wp A e i = t)) 0 60)
    by_cases c : g_wp A e (g_fst (fun i => decide (g_wp A e i = 0) || decide (g_wp A e i = t)) 0 60) = t
    · rw [if_neg (fun q => q ((g_peE (by omega) (by omega) h1).mpr c)), if_pos c, Nat.add_comm]
    · rw [if_pos (fun q => c ((g_peE (by omega) (by omega) h1).mp q)), if_neg c]; rfl
theorem c_blocks {H : q_H} {k t : Nat} {A : g_A} (hR : r_t (g_st H k) A) (hw : g_ww A) (ht : g_wt A) (h1 : 1 ≤ t) (h2 : t < 61) : Tn_howManyWaitFor k (nI t) H = some (g_bk A t) := by
  obtain ⟨e, n2, n61⟩ := id ht
  unfold Tn_howManyWaitFor
  rw [show H.1 6 4 k 0 = A 0 4 0 from hR.1, e]
  refine g_bs (g_lpC0 (fun o => q_bi (decide (o ≠ t) && decide (g_ri A t o ≠ 0))) 1 (g_nx A - 1) rfl (fun i x a b => ?_) (fun x => ?_) (by unfold q_fu; omega))
  · dsimp only
    rw [if_neg (nI_ge (by omega) (by omega)), nI_1]
    by_cases c : i = t
    · rw [if_pos (by rw [c]), decide_eq_false (fun q => q c)]
      exact congrArg (fun z => some (Sum.inl (z, nI (i + 1)))) (g_add0 rfl)
    · rw [if_neg (fun q => c ((nI_eq (by omega) (by omega)).mp q)), c_ringLength hR hw ht h1 h2 a (by omega), decide_eq_true c]
      simp only [Option.bind_some]
      have hr : g_ri A t i ≤ 61 := by
        have := g_fst_le (fun j => decide (g_wp A i j = 0) || decide (g_wp A i j = t)) 60 0
        unfold g_ri
        split <;> omega
      by_cases d : g_ri A t i = 0
      · rw [d, if_pos (by decide), decide_eq_false (fun q => q rfl)]
        exact congrArg (fun z => some (Sum.inl (z, nI (i + 1)))) (g_add0 rfl)
      · rw [if_neg (nI_nle (by omega) (by omega)), decide_eq_true d]; rfl
  · dsimp only
    have : 1 + (g_nx A - 1) = g_nx A := by omega
    rw [this, if_pos (Int32.le_refl _)]
/-- the reference's way to who waits -/
theorem m_bkin {h : q_H} {A : g_A} {t o : Nat} (hw : g_ww A) (ht : g_wt A) (h1 : 1 ≤ t) (h2 : t < 61) (h3 : 1 ≤ o) (h4 : o < g_nx A) : q_lp (fun s11 : Int32 => (if s11 ≤ 0 then (some (.inr (s11))) else (if s11 = nI t then (some (.inr (s11))) else (bif q_in ((1583 : Int32) + s11) 1644 then (some (.inl ((g_ma h 31 A).1 31 0 7 ((1583 : Int32) + s11).toNatClampNeg))) else none)) : Option ((Int32) ⊕ (Int32)))) q_fu (nI (g_wn A o)) = some (if o ≠ t ∧ g_ri A t o ≠ 0 then nI t else 0) := by
  have n61 := ht.2.2
  have e1 : g_wp A o 1 = g_wn A o := by rw [g_wp_s]; exact if_neg (by show o ≠ 0; omega)
  refine (g_lpB (fun i => decide (g_wp A o i = 0) || decide (g_wp A o i = t)) (fun i => nI (g_wp A o i)) 1 59 (fun i => nI (g_wp A o i)) (by rw [e1]) (fun i a b => ?_) ?_ (by decide)).trans ?_
  · have hlt := g_wp_lt hw ht h4 i
    by_cases c : g_wp A o i = 0
    · rw [c, if_pos (by decide), decide_eq_true rfl]; rfl
    · rw [if_neg (nI_nle (by omega) (by omega)), decide_eq_false c]
      by_cases d : g_wp A o i = t
      · rw [d, if_pos rfl, decide_eq_true rfl]; rfl
      · rw [if_neg (fun q => d ((nI_eq (by omega) (by omega)).mp q)), decide_eq_false d, show (1583 : Int32) = nI 1583 from rfl, nI_add, g_inN (by omega) (by decide), g_cl (by omega), g_ma_rd (by omega), g_at6, g_wp_s, if_neg c, (hw.1 _ (by omega) hlt).1]
        rfl
  · have z := g_wp_60 hw ht h3 h4
    show (if nI (g_wp A o 60) ≤ 0 then _ else _) = _
    rw [z, if_pos (by decide)]
  · have hle := g_fst_le (fun i => decide (g_wp A o i = 0) || decide (g_wp A o i = t)) 59 1
    by_cases c : o = t
    · rw [if_neg (fun q => q.1 c)]
      congr 1
      have z : g_wp A o (g_fst (fun i => decide (g_wp A o i = 0) || decide (g_wp A o i = t)) 1 59) = 0 := by
        by_cases d : g_fst (fun i => decide (g_wp A o i = 0) || decide (g_wp A o i = t)) 1 59 < 60
        · have := g_fst_at _ _ _ d
          simp only [Bool.or_eq_true, decide_eq_true_iff] at this
          rcases this with q | q
          · exact q
          · exfalso
            have e2 : g_wp A o 0 = g_wp A o (0 + g_fst (fun i => decide (g_wp A o i = 0) || decide (g_wp A o i = t)) 1 59) := by
              rw [Nat.zero_add, q]; exact c
            have := g_wp_cyc (by omega) e2 (hw.2 o h3 h4)
            have : o = 0 := this
            omega
        · have e2 : g_fst (fun i => decide (g_wp A o i = 0) || decide (g_wp A o i = t)) 1 59 = 60 := by omega
          rw [e2]; exact g_wp_60 hw ht h3 h4
      rw [z]; rfl
    · have e2 : g_fst (fun i => decide (g_wp A o i = 0) || decide (g_wp A o i = t)) 0 60 = g_fst (fun i => decide (g_wp A o i = 0) || decide (g_wp A o i = t)) 1 59 := by
        show (bif (decide (o = 0) || decide (o = t)) then 0 else _) = _
        rw [decide_eq_false c, decide_eq_false (by omega : ¬ o = 0)]; rfl
      by_cases d : g_wp A o (g_fst (fun i => decide (g_wp A o i = 0) || decide (g_wp A o i = t)) 1 59) = t
      · rw [d, if_pos ⟨c, by unfold g_ri; rw [e2, if_pos d]; omega⟩]
      · rw [if_neg (fun q => q.2 (by unfold g_ri; rw [e2, if_neg d]))]
        have z : g_wp A o (g_fst (fun i => decide (g_wp A o i = 0) || decide (g_wp A o i = t)) 1 59) = 0 := by
          by_cases f : g_fst (fun i => decide (g_wp A o i = 0) || decide (g_wp A o i = t)) 1 59 < 60
          · have := g_fst_at _ _ _ f
            simp only [Bool.or_eq_true, decide_eq_true_iff] at this
            rcases this with q | q
            · exact q
            · exact absurd q d
          · have e3 : g_fst (fun i => decide (g_wp A o i = 0) || decide (g_wp A o i = t)) 1 59 = 60 := by omega
            rw [e3]; exact g_wp_60 hw ht h3 h4
        rw [z]; rfl
