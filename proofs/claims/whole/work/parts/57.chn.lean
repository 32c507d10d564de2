/-! counts, chains, the index -/
theorem g_php : ∀ (n : Nat) (g : Nat → Nat), (∀ i, i ≤ n → g i < n) → ∃ i j, i < j ∧ j ≤ n ∧ g i = g j := by
  intro n
  induction n with
  | zero => intro g h; exact absurd (h 0 (Nat.le_refl _)) (by omega)
  | succ n ih =>
    intro g h
    by_cases c : ∃ i, i ≤ n ∧ g i = g (n + 1)
    · obtain ⟨i, hi, e⟩ := c
      exact ⟨i, n + 1, by omega, by omega, e⟩
    · have hne : ∀ i, i ≤ n → g i ≠ g (n + 1) := fun i hi e => c ⟨i, hi, e⟩
      have hl := h (n + 1) (Nat.le_refl _)
      obtain ⟨i, j, a, b, e⟩ := ih (fun i => if g (n + 1) < g i then g i - 1 else g i) (fun i hi => by
        have := hne i hi
        have := h i (by omega)
        split <;> omega)
      refine ⟨i, j, a, by omega, ?_⟩
      have h1 := hne i (by omega)
      have h2 := hne j b
      by_cases p : g (n + 1) < g i
      · rw [if_pos p] at e
        by_cases q : g (n + 1) < g j
        · rw [if_pos q] at e; omega
        · rw [if_neg q] at e; omega
      · rw [if_neg p] at e
        by_cases q : g (n + 1) < g j
        · rw [if_pos q] at e; omega
        · rw [if_neg q] at e; omega
def g_mm (A : g_A) (s : Nat) : Nat := (A 1 s 12).toNatClampNeg
def g_cm (S : g_S) (s : Nat) : Nat := (S.1 3 9 s).toNatClampNeg
/-- what comes behind was made later -/
def g_wc (A : g_A) : Prop := ∀ s, s < 60 → g_fu A s = true → A 1 s 8 = nI (s / 10) → g_fu A (g_n1 A s) = true → g_mm A s < g_mm A (g_n1 A s)
def g_ci (A : g_A) (s : Nat) (i : Nat) : Nat := match i with | 0 => s | i + 1 => if g_ci A s i < 60 then g_nn A (g_ci A s i) else 60
theorem g_ci_s (A : g_A) (s i : Nat) : g_ci A s (i + 1) = if g_ci A s i < 60 then g_nn A (g_ci A s i) else 60 := rfl
def g_ct (A : g_A) (s : Nat) : Nat := g_fst (fun i => !decide (g_ci A s i < 60)) 0 10
theorem g_nn_in {A : g_A} {s : Nat} (h : g_nn A s < 60) : g_nn A s = g_n1 A s ∧ g_eo A s ≠ 0 ∧ A 1 s 8 = nI (s / 10) ∧ g_fu A (g_n1 A s) = true ∧ A 1 (g_n1 A s) 10 = 1 ∧ A 1 (g_n1 A s) 6 = nI (g_eo A s) := by
  unfold g_nn at h ⊢
  by_cases c : g_eo A s ≠ 0 ∧ A 1 s 8 = nI (s / 10) ∧ g_fu A (g_n1 A s) = true ∧ A 1 (g_n1 A s) 10 = 1 ∧ A 1 (g_n1 A s) 6 = nI (g_eo A s)
  · rw [if_pos c]; exact ⟨rfl, c⟩
  · rw [if_neg c] at h; omega
theorem g_n1_pg {A : g_A} {s : Nat} (hs : s < 60) (hw : g_ws A s) (h : A 1 s 8 = nI (s / 10)) : g_n1 A s / 10 = s / 10 ∧ g_n1 A s < 60 := by
  rcases hw.2.2.2.1 with q | ⟨p, q, hp, hq, e8, e9⟩
  · rw [q.1] at h; exact absurd (h ▸ nI_pos' (n := s / 10) (by omega)) (by decide)
  · have : g_n1 A s = 10 * (s / 10) + q := by unfold g_n1; rw [e9, g_cl (by omega)]
    omega
/-- a chain stays in its page, each of it is full, each made later -/
theorem g_ci_in {A : g_A} {s : Nat} (hs : s < 60) (hf : g_fu A s = true) (hv : g_wv A) (hc : g_wc A) : ∀ i, g_ci A s i < 60 → g_ci A s i / 10 = s / 10 ∧ g_fu A (g_ci A s i) = true ∧ (∀ j, j < i → g_ci A s j < 60 ∧ g_mm A (g_ci A s j) < g_mm A (g_ci A s i)) := by
  intro i
  induction i with
  | zero => intro h; exact ⟨rfl, hf, fun j hj => by omega⟩
  | succ i ih =>
    intro h
    rw [g_ci_s] at h ⊢
    by_cases c : g_ci A s i < 60
    · rw [if_pos c] at h ⊢
      obtain ⟨a, b, d⟩ := ih c
      obtain ⟨e, e0, e1, e2, e3, e4⟩ := g_nn_in h
      have hw := hv _ c b
      obtain ⟨p1, p2⟩ := g_n1_pg c hw e1
      rw [e]
      have hm := hc _ c b e1 e2
      refine ⟨by omega, e2, fun j hj => ?_⟩
      rcases Nat.lt_or_ge j i with q | q
      · have := d j q; exact ⟨this.1, by omega⟩
      · have : j = i := by omega
        subst this; exact ⟨c, hm⟩
    · rw [if_neg c] at h; omega
theorem g_ci_10 {A : g_A} {s : Nat} (hs : s < 60) (hf : g_fu A s = true) (hv : g_wv A) (hc : g_wc A) : ¬ g_ci A s 10 < 60 := by
  intro h
  have h10 := g_ci_in hs hf hv hc 10 h
  obtain ⟨i, j, a, b, e⟩ := g_php 10 (fun i => g_ci A s i % 10) (fun i _ => by omega)
  have hj : g_ci A s j < 60 := by
    rcases Nat.lt_or_ge j 10 with q | q
    · exact (h10.2.2 j q).1
    · have : j = 10 := by omega
      subst this; exact h
  have ij := g_ci_in hs hf hv hc j hj
  have h1 := ij.2.2 i a
  have ii := g_ci_in hs hf hv hc i h1.1
  have : g_ci A s i = g_ci A s j := by omega
  rw [this] at h1
  omega
theorem g_ci_60 {A : g_A} {s : Nat} (h : ¬ s < 60) : ∀ i, 0 < i → g_ci A s i = 60 := by
  intro i
  induction i with
  | zero => intro q; omega
  | succ i ih =>
    intro _
    rw [g_ci_s]
    rcases Nat.eq_zero_or_pos i with q | q
    · subst q; exact if_neg h
    · rw [ih q]; rfl
def g_cn (A : g_A) (s : Nat) : Nat := g_ct A (g_ch A s)
/-- where a slot leads is a version -/
def g_wh (A : g_A) (s : Nat) : Prop := g_ch A s < 60 → g_fu A (g_ch A s) = true
def g_wtu (A : g_A) (s : Nat) : Prop := A 1 s 0 = 2 → ∃ x, x < 10 ∧ A 1 s 1 = nI x
theorem g_ch_10 {A : g_A} {s : Nat} (hh : g_wh A s) (hv : g_wv A) (hc : g_wc A) : ¬ g_ci A (g_ch A s) 10 < 60 := by
  by_cases c : g_ch A s < 60
  · exact g_ci_10 c (hh c) hv hc
  · rw [g_ci_60 c 10 (by omega)]; omega
theorem g_ci_fu {A : g_A} {s i : Nat} (hh : g_wh A s) (hv : g_wv A) (hc : g_wc A) (h : g_ci A (g_ch A s) i < 60) : g_fu A (g_ci A (g_ch A s) i) = true := by
  by_cases c : g_ch A s < 60
  · exact (g_ci_in c (hh c) hv hc i h).2.1
  · exfalso
    rcases Nat.eq_zero_or_pos i with q | q
    · subst q; exact c h
    · rw [g_ci_60 c i q] at h; omega
theorem m_chainMany {h : q_H} {A : g_A} {s : Nat} (hs : s < 60) (hl : g_wl A) (ht : g_wt A) (hv : g_wv A) (hc : g_wc A) (hh : g_wh A s) (hT : g_wtu A s) : Mo_chainMany (nI s) (g_ma h 31 A) = some (nI (g_cn A s)) := by
  unfold Mo_chainMany
  rw [m_chainOf hs hT]
  simp only [Option.bind_some]
  refine g_bs (g_lpB (fun i => !decide (g_ci A (g_ch A s) i < 60)) (fun i => (nI i, g_pp (g_ci A (g_ch A s) i))) 0 10 (fun i => nI i) rfl (fun i a b => ?_) ?_ (by decide))
  · dsimp only
    by_cases c : g_ci A (g_ch A s) i < 60
    · rw [if_neg (fun q => g_ppN.mp q c), decide_eq_true c]
      have f := g_ci_fu hh hv hc c
      have e : g_pp (g_ci A (g_ch A s) i) = nI (g_ci A (g_ch A s) i) := if_pos c
      rw [e, m_chainNext c hl ht (hv _ c f), g_ci_s, if_pos c, nI_1]
      rfl
    · rw [if_pos (g_ppN.mpr c), decide_eq_false c]; rfl
  · dsimp only
    rw [if_pos (g_ppN.mpr (g_ch_10 hh hv hc))]
theorem c_chainLength {H : q_H} {k : Nat} {A : g_A} {s : Nat} (hs : s < 60) (hi : g_iv A s = true) (hR : r_t (g_st H k) A) (hP : ∀ p, p < 6 → r_p (g_st H k) A p) (ht : g_wt A) (hq : g_wq A) (hv : g_wv A) (hc : g_wc A) (hh : g_wh A s) (hT : g_wtu A s) : St_chainLength k (nI s) H = some (nI (g_cn A s)) := by
  unfold St_chainLength
  rw [c_chainFirst hs (r_ps hP hs) hi hT]
  simp only [Option.bind_some]
  refine g_bs (g_lpB (fun i => !decide (g_ci A (g_ch A s) i < 60)) (fun i => (nI i, g_pp (g_ci A (g_ch A s) i), nI i)) 0 10 (fun i => nI i) rfl (fun i a b => ?_) rfl (by decide))
  dsimp only
  rw [if_neg (show ¬ (10 : Int32) ≤ nI i from nI_ge (b := 10) (by omega) (by decide))]
  by_cases c : g_ci A (g_ch A s) i < 60
  · rw [if_neg (fun q => g_pp1.mp q c), decide_eq_true c]
    have f := g_ci_fu hh hv hc c
    have e : g_pp (g_ci A (g_ch A s) i) = nI (g_ci A (g_ch A s) i) := if_pos c
    rw [e, c_chainNext c hR (fun j hj => (hP _ (by omega)).2.2 j hj) f ht hq hv, g_ci_s, if_pos c, nI_1]
    rfl
  · rw [if_pos (g_pp1.mpr c), decide_eq_false c]; rfl
/-- the index -/
def g_ne (A : g_A) : Nat := (A 0 5 0).toNatClampNeg
def g_wi (A : g_A) : Prop := A 0 5 0 = nI (g_ne A) ∧ g_ne A ≤ 60 ∧ ∀ i, i < g_ne A → (∃ p q, p < 6 ∧ q < 10 ∧ A 2 i 1 = nI p ∧ A 2 i 2 = nI q) ∧ g_01 (A 2 i 3)
def g_ep (A : g_A) (i : Nat) : Nat := 10 * (A 2 i 1).toNatClampNeg + (A 2 i 2).toNatClampNeg
def r_i (S : g_S) (A : g_A) : Prop := S.1 11 3 0 = A 0 5 0 ∧ ∀ i, i < g_ne A → S.1 12 0 i = A 2 i 0 ∧ S.1 13 0 i = nI (g_ep A i) ∧ S.1 14 0 i = A 2 i 3
theorem g_ep_lt {A : g_A} {i : Nat} (hw : g_wi A) (hi : i < g_ne A) : g_ep A i < 60 ∧ A 2 i 1 = nI (g_ep A i / 10) ∧ A 2 i 2 = nI (g_ep A i % 10) := by
  obtain ⟨⟨p, q, hp, hq, e1, e2⟩, _⟩ := hw.2.2 i hi
  have e : g_ep A i = 10 * p + q := by unfold g_ep; rw [e1, e2, g_cl (by omega), g_cl (by omega)]
  have a1 : (10 * p + q) / 10 = p := by omega
  have a2 : (10 * p + q) % 10 = q := by omega
  rw [e, a1, a2]
  exact ⟨by omega, e1, e2⟩
section g_M
variable {h : q_H} {A : g_A}
theorem m_en_ {i w : Nat} (hi : i < 60) (hw : w < 4) : Mo_entryOf (nI i) (nI w) (g_ma h 31 A) = some (A 2 i w) := by
  unfold Mo_entryOf
  rw [show (812 : Int32) = nI 812 from rfl, show (4 : Int32) = nI 4 from rfl, pk_mul, nI_add, nI_add, g_inN (by omega) (by decide), g_cl (by omega), g_ma_rd (by omega), g_at2 hi hw]
  rfl
theorem m_en0 {i : Nat} (hi : i < 60) : Mo_entryOf (nI i) (0 : Int32) (g_ma h 31 A) = some (A 2 i 0) := m_en_ (w := 0) hi (by decide)
theorem m_en1 {i : Nat} (hi : i < 60) : Mo_entryOf (nI i) (1 : Int32) (g_ma h 31 A) = some (A 2 i 1) := m_en_ (w := 1) hi (by decide)
theorem m_en2 {i : Nat} (hi : i < 60) : Mo_entryOf (nI i) (2 : Int32) (g_ma h 31 A) = some (A 2 i 2) := m_en_ (w := 2) hi (by decide)
theorem m_en3 {i : Nat} (hi : i < 60) : Mo_entryOf (nI i) (3 : Int32) (g_ma h 31 A) = some (A 2 i 3) := m_en_ (w := 3) hi (by decide)
theorem m_leadsTo {i : Nat} (hw : g_wi A) (hi : i < g_ne A) : Mo_leadsTo (nI i) (g_ma h 31 A) = some (nI (g_ep A i)) := by
  have := hw.2.1
  obtain ⟨a, b, c⟩ := g_ep_lt hw hi
  unfold Mo_leadsTo
  rw [m_en1 (by omega), m_en2 (by omega)]
  simp only [Option.bind_some]
  rw [b, c, show (10 : Int32) = nI 10 from rfl, pk_mul, nI_add, Nat.div_add_mod]
def g_et (A : g_A) (s : Nat) : Int32 := g_sm (fun i => q_bi (decide (g_ep A i = s))) 0 (g_ne A)
theorem m_entriesTo {s : Nat} (hs : s < 60) (hw : g_wi A) : Mo_entriesTo (nI s) (g_ma h 31 A) = some (g_et A s) := by
  have h60 := hw.2.1
  unfold Mo_entriesTo
  rw [m_g (by omega), hw.1]
  refine g_bs (g_lpC0 (fun i => q_bi (decide (g_ep A i = s))) 0 (g_ne A) rfl (fun i x a b => ?_) (fun x => ?_) (by unfold q_fu; omega))
  · dsimp only
    have := (g_ep_lt hw (i := i) (by omega)).1
    rw [if_neg (nI_ge (by omega) (by omega)), m_leadsTo hw (by omega), nI_1]
    simp only [Option.bind_some]
    by_cases c : g_ep A i = s
    · rw [if_neg (fun q => q (by rw [c])), decide_eq_true c]; rfl
    · rw [if_pos (fun q => c ((nI_eq (by omega) (by omega)).mp q)), decide_eq_false c]; rfl
  · dsimp only
    rw [Nat.zero_add, if_pos (Int32.le_refl _)]
end g_M
section g_C
variable {H : q_H} {k : Nat} {A : g_A}
theorem c_keyAt {i : Nat} (hR : r_i (g_st H k) A) (hw : g_wi A) (hi : i < g_ne A) : Ix_keyAt k (nI i) H = some (A 2 i 0) := by
  unfold Ix_keyAt
  rw [c_pick (n := 60) rfl rfl (by have := hw.2.1; omega) (by decide)]
  exact congrArg some (hR.2 i hi).1
theorem c_placeAt {i : Nat} (hR : r_i (g_st H k) A) (hw : g_wi A) (hi : i < g_ne A) : Ix_placeAt k (nI i) H = some (nI (g_ep A i)) := by
  unfold Ix_placeAt
  rw [c_pick (n := 60) rfl rfl (by have := hw.2.1; omega) (by decide)]
  exact congrArg some (hR.2 i hi).2.1
theorem c_isKilled {i : Nat} (hR : r_i (g_st H k) A) (hw : g_wi A) (hi : i < g_ne A) : Ix_isKilled k (nI i) H = some (q_bi (decide (A 2 i 3 = 1))) := by
  unfold Ix_isKilled
  rw [c_pick (n := 60) rfl rfl (by have := hw.2.1; omega) (by decide)]
  simp only [Option.bind_some]
  rw [show H.1 14 0 k i = _ from (hR.2 i hi).2.2]
  by_cases c : A 2 i 3 = 1
  · rw [if_neg (fun q => q c), decide_eq_true c]; rfl
  · rw [if_pos c, decide_eq_false c]; rfl
theorem c_leads {s : Nat} (hs : s < 60) (hR : r_i (g_st H k) A) (hw : g_wi A) : Ix_howManyLeadTo k (nI s) H = some (g_et A s) := by
  have h60 := hw.2.1
  unfold Ix_howManyLeadTo
  rw [show H.1 11 3 k 0 = _ from hR.1, hw.1]
  refine g_bs (g_lpC0 (fun i => q_bi (decide (g_ep A i = s))) 0 (g_ne A) rfl (fun i x a b => ?_) (fun x => ?_) (by unfold q_fu; omega))
  · dsimp only
    have := (g_ep_lt hw (i := i) (by omega)).1
    rw [if_neg (nI_ge (by omega) (by omega)), c_placeAt hR hw (by omega), nI_1]
    simp only [Option.bind_some]
    by_cases c : g_ep A i = s
    · rw [if_neg (fun q => q (by rw [c])), decide_eq_true c]; rfl
    · rw [if_pos (fun q => c ((nI_eq (by omega) (by omega)).mp q)), decide_eq_false c]; simp only [Option.bind_some]; rw [show q_bi false = 0 from rfl, Int32.add_zero]
  · dsimp only
    rw [Nat.zero_add, if_pos (Int32.le_refl _)]
theorem c_isClear {p : Nat} (hp : p < 6) (hP : r_p (g_st H k) A p) : Pg_isClear k (nI p) H = some (q_bi (decide (A 0 (23 + p) 0 = 1))) := by
  unfold Pg_isClear
  rw [c_pick (n := 6) rfl rfl hp (by decide)]
  simp only [Option.bind_some]
  rw [show H.1 5 0 k p = _ from hP.2.1]
  by_cases c : A 0 (23 + p) 0 = 1
  · rw [if_neg (fun q => q c), decide_eq_true c]; rfl
  · rw [if_pos c, decide_eq_false c]; rfl
/-- what a look reads -/
def g_rd (A : g_A) (key : Int32) : Int32 := g_sm (fun i => q_bi (decide (A 2 i 0 = key) && (decide (A 2 i 3 = 0) && !decide (A 0 (23 + g_ep A i / 10) 0 = 1)))) 0 (g_ne A)
theorem c_readsFor {key : Int32} (hR : r_i (g_st H k) A) (hP : ∀ p, p < 6 → r_p (g_st H k) A p) (hw : g_wi A) : St_readsFor k key H = some (g_rd A key) := by
  have h60 := hw.2.1
  unfold St_readsFor
  rw [show H.1 11 3 k 0 = _ from hR.1, hw.1]
  refine g_bs (g_lpC0 (fun i => q_bi (decide (A 2 i 0 = key) && (decide (A 2 i 3 = 0) && !decide (A 0 (23 + g_ep A i / 10) 0 = 1)))) 0 (g_ne A) rfl (fun i x a b => ?_) (fun x => ?_) (by unfold q_fu; omega))
  · dsimp only
    have e60 := (g_ep_lt hw (i := i) (by omega)).1
    rw [if_neg (nI_ge (by omega) (by omega)), c_keyAt hR hw (by omega), nI_1]
    simp only [Option.bind_some]
    by_cases c : A 2 i 0 = key
    · rw [if_neg (fun q => q c), c_isKilled hR hw (by omega), decide_eq_true c]
      simp only [Option.bind_some]
      rcases (hw.2.2 i (by omega)).2 with d | d
      · rw [d, if_pos (by decide)]
        simp only [Option.bind_some]
        rw [if_neg (fun q => q trivial), c_placeAt hR hw (by omega)]
        simp only [Option.bind_some]
        rw [c_pageOf e60]
        simp only [Option.bind_some]
        rw [c_isClear (by omega) (hP _ (by omega))]
        simp only [Option.bind_some]
        cases decide (A 0 (23 + g_ep A i / 10) 0 = 1) with
        | true => rw [if_pos (by decide)]; simp only [Option.bind_some]; simp [q_bi]
        | false => rfl
      · rw [d, if_neg (by decide)]
        simp only [Option.bind_some]
        rw [if_pos (by decide)]
        simp only [Option.bind_some]
        rw [show (q_bi (true && (decide ((1 : Int32) = 0) && !decide (A 0 (23 + g_ep A i / 10) 0 = 1)))) = 0 from rfl, Int32.add_zero]
    · rw [if_pos c, decide_eq_false c]
      simp only [Option.bind_some]
      rw [if_pos (by decide)]
      simp only [Option.bind_some]
      rw [show q_bi (false && (decide (A 2 i 3 = 0) && !decide (A 0 (23 + g_ep A i / 10) 0 = 1))) = 0 from rfl, Int32.add_zero]
  · dsimp only
    rw [Nat.zero_add, if_pos (Int32.le_refl _)]
end g_C
