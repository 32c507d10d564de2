/-! slots: what is told of them, by the reference's rows -/
section g_M
variable {h : q_H} {A : g_A}
theorem m_of0 {s : Nat} (hs : s < 60) : Mo_of (nI s) (0 : Int32) (g_ma h 31 A) = some (A 1 s 0) := m_of_ (w := 0) hs (by decide)
theorem m_st0 {s : Nat} {v : Int32} (hs : s < 60) : Mo_sets (nI s) (0 : Int32) v (g_ma h 31 A) = some (g_ma h 31 (g_au A 1 s 0 v)) := m_sets_ (w := 0) hs (by decide)
theorem m_of1 {s : Nat} (hs : s < 60) : Mo_of (nI s) (1 : Int32) (g_ma h 31 A) = some (A 1 s 1) := m_of_ (w := 1) hs (by decide)
theorem m_st1 {s : Nat} {v : Int32} (hs : s < 60) : Mo_sets (nI s) (1 : Int32) v (g_ma h 31 A) = some (g_ma h 31 (g_au A 1 s 1 v)) := m_sets_ (w := 1) hs (by decide)
theorem m_of2 {s : Nat} (hs : s < 60) : Mo_of (nI s) (2 : Int32) (g_ma h 31 A) = some (A 1 s 2) := m_of_ (w := 2) hs (by decide)
theorem m_st2 {s : Nat} {v : Int32} (hs : s < 60) : Mo_sets (nI s) (2 : Int32) v (g_ma h 31 A) = some (g_ma h 31 (g_au A 1 s 2 v)) := m_sets_ (w := 2) hs (by decide)
theorem m_of3 {s : Nat} (hs : s < 60) : Mo_of (nI s) (3 : Int32) (g_ma h 31 A) = some (A 1 s 3) := m_of_ (w := 3) hs (by decide)
theorem m_st3 {s : Nat} {v : Int32} (hs : s < 60) : Mo_sets (nI s) (3 : Int32) v (g_ma h 31 A) = some (g_ma h 31 (g_au A 1 s 3 v)) := m_sets_ (w := 3) hs (by decide)
theorem m_of4 {s : Nat} (hs : s < 60) : Mo_of (nI s) (4 : Int32) (g_ma h 31 A) = some (A 1 s 4) := m_of_ (w := 4) hs (by decide)
theorem m_st4 {s : Nat} {v : Int32} (hs : s < 60) : Mo_sets (nI s) (4 : Int32) v (g_ma h 31 A) = some (g_ma h 31 (g_au A 1 s 4 v)) := m_sets_ (w := 4) hs (by decide)
theorem m_of5 {s : Nat} (hs : s < 60) : Mo_of (nI s) (5 : Int32) (g_ma h 31 A) = some (A 1 s 5) := m_of_ (w := 5) hs (by decide)
theorem m_st5 {s : Nat} {v : Int32} (hs : s < 60) : Mo_sets (nI s) (5 : Int32) v (g_ma h 31 A) = some (g_ma h 31 (g_au A 1 s 5 v)) := m_sets_ (w := 5) hs (by decide)
theorem m_of6 {s : Nat} (hs : s < 60) : Mo_of (nI s) (6 : Int32) (g_ma h 31 A) = some (A 1 s 6) := m_of_ (w := 6) hs (by decide)
theorem m_st6 {s : Nat} {v : Int32} (hs : s < 60) : Mo_sets (nI s) (6 : Int32) v (g_ma h 31 A) = some (g_ma h 31 (g_au A 1 s 6 v)) := m_sets_ (w := 6) hs (by decide)
theorem m_of7 {s : Nat} (hs : s < 60) : Mo_of (nI s) (7 : Int32) (g_ma h 31 A) = some (A 1 s 7) := m_of_ (w := 7) hs (by decide)
theorem m_st7 {s : Nat} {v : Int32} (hs : s < 60) : Mo_sets (nI s) (7 : Int32) v (g_ma h 31 A) = some (g_ma h 31 (g_au A 1 s 7 v)) := m_sets_ (w := 7) hs (by decide)
theorem m_of8 {s : Nat} (hs : s < 60) : Mo_of (nI s) (8 : Int32) (g_ma h 31 A) = some (A 1 s 8) := m_of_ (w := 8) hs (by decide)
theorem m_st8 {s : Nat} {v : Int32} (hs : s < 60) : Mo_sets (nI s) (8 : Int32) v (g_ma h 31 A) = some (g_ma h 31 (g_au A 1 s 8 v)) := m_sets_ (w := 8) hs (by decide)
theorem m_of9 {s : Nat} (hs : s < 60) : Mo_of (nI s) (9 : Int32) (g_ma h 31 A) = some (A 1 s 9) := m_of_ (w := 9) hs (by decide)
theorem m_st9 {s : Nat} {v : Int32} (hs : s < 60) : Mo_sets (nI s) (9 : Int32) v (g_ma h 31 A) = some (g_ma h 31 (g_au A 1 s 9 v)) := m_sets_ (w := 9) hs (by decide)
theorem m_of10 {s : Nat} (hs : s < 60) : Mo_of (nI s) (10 : Int32) (g_ma h 31 A) = some (A 1 s 10) := m_of_ (w := 10) hs (by decide)
theorem m_st10 {s : Nat} {v : Int32} (hs : s < 60) : Mo_sets (nI s) (10 : Int32) v (g_ma h 31 A) = some (g_ma h 31 (g_au A 1 s 10 v)) := m_sets_ (w := 10) hs (by decide)
theorem m_of11 {s : Nat} (hs : s < 60) : Mo_of (nI s) (11 : Int32) (g_ma h 31 A) = some (A 1 s 11) := m_of_ (w := 11) hs (by decide)
theorem m_st11 {s : Nat} {v : Int32} (hs : s < 60) : Mo_sets (nI s) (11 : Int32) v (g_ma h 31 A) = some (g_ma h 31 (g_au A 1 s 11 v)) := m_sets_ (w := 11) hs (by decide)
theorem m_of12 {s : Nat} (hs : s < 60) : Mo_of (nI s) (12 : Int32) (g_ma h 31 A) = some (A 1 s 12) := m_of_ (w := 12) hs (by decide)
theorem m_st12 {s : Nat} {v : Int32} (hs : s < 60) : Mo_sets (nI s) (12 : Int32) v (g_ma h 31 A) = some (g_ma h 31 (g_au A 1 s 12 v)) := m_sets_ (w := 12) hs (by decide)
end g_M
def g_ln (A : g_A) (p : Nat) : Nat := (A 0 (17 + p) 0).toNatClampNeg
def g_wl (A : g_A) : Prop := ∀ p, p < 6 → A 0 (17 + p) 0 = nI (g_ln A p) ∧ g_ln A p ≤ 10
def g_iv (A : g_A) (s : Nat) : Bool := decide (s % 10 < g_ln A (s / 10))
def g_fu (A : g_A) (s : Nat) : Bool := g_iv A s && decide (A 1 s 0 = 1)
def g_mk (A : g_A) (s : Nat) : Nat := (A 1 s 6).toNatClampNeg
def g_en (A : g_A) (s : Nat) : Nat := (A 1 s 7).toNatClampNeg
def g_tn (A : g_A) (t : Nat) : Prop := 1 ≤ t ∧ t < g_nx A
def g_01 (x : Int32) : Prop := x = 0 ∨ x = 1
/-- a version's stamps are what they can be -/
def g_ws (A : g_A) (s : Nat) : Prop := A 1 s 6 = nI (g_mk A s) ∧ g_tn A (g_mk A s) ∧ ((A 1 s 7 = -1 ∧ g_en A s = 0) ∨ (A 1 s 7 = nI (g_en A s) ∧ g_tn A (g_en A s))) ∧ ((A 1 s 8 = -1 ∧ A 1 s 9 = -1) ∨ ∃ p q, p < 6 ∧ q < 10 ∧ A 1 s 8 = nI p ∧ A 1 s 9 = nI q) ∧ g_01 (A 1 s 10) ∧ g_01 (A 1 s 11)
def g_eo (A : g_A) (s : Nat) : Nat := if g_en A s ≠ 0 ∧ A 3 (g_en A s) 0 ≠ 2 then g_en A s else 0
def g_pe (n : Nat) : Int32 := if n = 0 then -1 else nI n
def g_pp (n : Nat) : Int32 := if n < 60 then nI n else -1
def g_de (A : g_A) (z s : Nat) : Bool := (decide (A 3 (g_mk A s) 0 = 2) && decide (A 1 s 11 = 0)) || (decide (g_en A s ≠ 0) && (decide (A 3 (g_en A s) 0 = 1) && decide (g_en A s < z)))
def g_dy (A : g_A) (z s : Nat) : Bool := decide (g_en A s ≠ 0) && (decide (A 3 (g_en A s) 0 = 1) && !g_de A z s)
def g_se (A : g_A) (t s : Nat) : Bool := (decide (A 1 s 11 = 1) || g_kn A t (g_mk A s)) && !(decide (g_en A s ≠ 0) && g_kn A t (g_en A s))
def g_n1 (A : g_A) (s : Nat) : Nat := 10 * (s / 10) + (A 1 s 9).toNatClampNeg
def g_nn (A : g_A) (s : Nat) : Nat := if g_eo A s ≠ 0 ∧ A 1 s 8 = nI (s / 10) ∧ g_fu A (g_n1 A s) = true ∧ A 1 (g_n1 A s) 10 = 1 ∧ A 1 (g_n1 A s) 6 = nI (g_eo A s) then g_n1 A s else 60
def g_ch (A : g_A) (s : Nat) : Nat := if A 1 s 0 = 1 then s else if A 1 s 0 = 2 then 10 * (s / 10) + (A 1 s 1).toNatClampNeg else 60
theorem g_ws_en {A : g_A} {s : Nat} (h : g_ws A s) : g_en A s ≠ 0 → A 1 s 7 = nI (g_en A s) ∧ g_tn A (g_en A s) := by
  intro h0
  rcases h.2.2.1 with q | q
  · exact absurd q.2 h0
  · exact q
theorem g_ws_e0 {A : g_A} {s : Nat} (h : g_ws A s) : g_en A s = 0 → A 1 s 7 = -1 := by
  intro h0
  rcases h.2.2.1 with q | q
  · exact q.1
  · exact absurd h0 (by have := q.2.1; omega)
theorem g_ws_pe {A : g_A} {s : Nat} (h : g_ws A s) : A 1 s 7 = g_pe (g_en A s) := by
  unfold g_pe
  by_cases c : g_en A s = 0
  · rw [if_pos c]; exact g_ws_e0 h c
  · rw [if_neg c]; exact (g_ws_en h c).1
theorem g_fu_iv {A : g_A} {s : Nat} (h : g_fu A s = true) : g_iv A s = true ∧ A 1 s 0 = 1 := by
  unfold g_fu at h
  rw [Bool.and_eq_true, decide_eq_true_iff] at h
  exact h
theorem g_fu_i {A : g_A} {s : Nat} (h : g_iv A s = true) (h1 : A 1 s 0 = 1) : g_fu A s = true := by
  unfold g_fu
  rw [h, decide_eq_true h1]; rfl
theorem g_pe0 {n : Nat} (h : n < 2 ^ 31) : g_pe n ≤ 0 ↔ n = 0 := by
  unfold g_pe
  by_cases c : n = 0
  · rw [if_pos c]; exact ⟨fun _ => c, fun _ => by decide⟩
  · rw [if_neg c]; exact ⟨fun q => absurd q (nI_nle (by omega) h), fun q => absurd q c⟩
theorem g_peN {n : Nat} (h : n < 2 ^ 31) : g_pe n < 0 ↔ n = 0 := by
  unfold g_pe
  by_cases c : n = 0
  · rw [if_pos c]; exact ⟨fun _ => c, fun _ => by decide⟩
  · rw [if_neg c]; exact ⟨fun q => absurd q (nI_pos h), fun q => absurd q c⟩
section g_M
variable {h : q_H} {A : g_A}
theorem m_isSlot {s : Nat} (hs : s < 60) (hl : g_wl A) : Mo_isSlot (nI s) (g_ma h 31 A) = some (q_bi (g_iv A s)) := by
  unfold Mo_isSlot g_iv
  have hp := hl (s / 10) (by omega)
  rw [show (17 : Int32) = nI 17 from rfl, show (10 : Int32) = nI 10 from rfl, pk_rem (by omega) (by omega) (by omega), pk_div (by omega) (by omega) (by omega), nI_add, g_inN (by omega) (by decide), g_cl (by omega), m_g (by omega), hp.1]
  simp only [cond_true]
  by_cases c : s % 10 < g_ln A (s / 10)
  · rw [if_neg (nI_ge c (by omega)), decide_eq_true c]; rfl
  · rw [if_pos (nI_le (by omega) (by omega)), decide_eq_false c]; rfl
theorem m_isFull {s : Nat} (hs : s < 60) : Mo_isFull (nI s) (g_ma h 31 A) = some (q_bi (decide (A 1 s 0 = 1))) := by
  unfold Mo_isFull
  rw [m_of0 hs]
  simp only [Option.bind_some]
  by_cases c : A 1 s 0 = 1
  · rw [if_neg (fun q => q c), decide_eq_true c]; rfl
  · rw [if_pos c, decide_eq_false c]; rfl
theorem m_isVersion {s : Nat} (hs : s < 60) (hl : g_wl A) : Mo_isVersion (nI s) (g_ma h 31 A) = some (q_bi (g_fu A s)) := by
  unfold Mo_isVersion g_fu
  rw [m_isSlot hs hl]
  simp only [Option.bind_some]
  cases g_iv A s with
  | false => rw [if_pos (by rfl)]; rfl
  | true =>
    rw [if_neg (by decide), m_isFull hs]
    simp only [Option.bind_some]
    cases decide (A 1 s 0 = 1) <;> rfl
theorem m_enderOf {s : Nat} (hs : s < 60) (ht : g_wt A) (hw : g_ws A s) : Mo_enderOf (nI s) (g_ma h 31 A) = some (g_pe (g_eo A s)) := by
  unfold Mo_enderOf g_eo
  rw [m_of7 hs]
  simp only [Option.bind_some]
  by_cases c : g_en A s = 0
  · rw [g_ws_e0 hw c, if_pos (by decide), if_neg (fun q => q.1 c)]; rfl
  · obtain ⟨e, t1, t2⟩ := g_ws_en hw c
    have := ht.2.2
    rw [e, if_neg (nI_nle (by omega) (by omega)), m_stateOf (by omega)]
    simp only [Option.bind_some]
    by_cases d : A 3 (g_en A s) 0 = 2
    · rw [if_pos d, if_neg (fun q => q.2 d)]; rfl
    · rw [if_neg d, if_pos ⟨c, d⟩]; unfold g_pe; rw [if_neg c]
theorem g_eo_lt {A : g_A} {s : Nat} (ht : g_wt A) (hw : g_ws A s) : g_eo A s < 61 := by
  have := ht.2.2
  unfold g_eo
  by_cases c : g_en A s ≠ 0 ∧ A 3 (g_en A s) 0 ≠ 2
  · rw [if_pos c]; have := (g_ws_en hw c.1).2.2; omega
  · rw [if_neg c]; omega
theorem m_isDead {s z : Nat} (hs : s < 60) (ht : g_wt A) (hw : g_ws A s) (hz : z < 1000) : Mo_isDead (nI s) (nI z) (g_ma h 31 A) = some (q_bi (g_de A z s)) := by
  unfold Mo_isDead g_de
  have t3 := ht.2.2
  have m2 := hw.2.1.2
  rw [m_of6 hs]
  simp only [Option.bind_some]
  rw [hw.1, m_stateOf (by omega)]
  simp only [Option.bind_some]
  have rest : ((Mo_enderOf (nI s) (g_ma h 31 A)).bind fun x14 => if x14 ≤ 0 then (some ((0 : Int32))) else ((Mo_stateOf x14 (g_ma h 31 A)).bind fun x16 => if ¬ x16 = (1 : Int32) then (some ((0 : Int32))) else (if nI z ≤ x14 then (some ((0 : Int32))) else (some ((1 : Int32)))))) = some (q_bi (decide (g_en A s ≠ 0) && (decide (A 3 (g_en A s) 0 = 1) && decide (g_en A s < z)))) := by
    rw [m_enderOf hs ht hw]
    simp only [Option.bind_some]
    by_cases c : g_en A s = 0
    · have : g_eo A s = 0 := if_neg (fun q => q.1 c)
      rw [this, if_pos (by decide), decide_eq_false (fun q => q c)]; rfl
    · obtain ⟨e, t1, t2⟩ := g_ws_en hw c
      by_cases d : A 3 (g_en A s) 0 = 2
      · have : g_eo A s = 0 := if_neg (fun q => q.2 d)
        rw [this, if_pos (by decide), d, decide_eq_true c]; rfl
      · have : g_eo A s = g_en A s := if_pos ⟨c, d⟩
        rw [this, if_neg (fun q => c ((g_pe0 (by omega)).mp q))]
        have e2 : g_pe (g_en A s) = nI (g_en A s) := if_neg c
        rw [e2, m_stateOf (by omega)]
        simp only [Option.bind_some]
        rw [decide_eq_true c]
        by_cases f : A 3 (g_en A s) 0 = 1
        · rw [if_neg (fun q => q f), decide_eq_true f]
          by_cases g : g_en A s < z
          · rw [if_neg (nI_ge g (by omega)), decide_eq_true g]; rfl
          · rw [if_pos (nI_le (by omega) (by omega)), decide_eq_false g]; rfl
        · rw [if_pos f, decide_eq_false f]; rfl
  by_cases a : A 3 (g_mk A s) 0 = 2
  · rw [if_neg (fun q => q a), m_of11 hs, decide_eq_true a]
    simp only [Option.bind_some]
    by_cases b : A 1 s 11 = 0
    · rw [if_neg (fun q => q b), decide_eq_true b]; rfl
    · rw [if_pos b, decide_eq_false b]
      simp only [Option.bind_some]
      rw [rest]; rfl
  · rw [if_pos a, decide_eq_false a]
    simp only [Option.bind_some]
    rw [rest]; rfl
theorem m_isSeen {t s : Nat} (hs : s < 60) (ht : g_wt A) (hw : g_ws A s) (h1 : g_tn A t) : Mo_isSeen (nI t) (nI s) (g_ma h 31 A) = some (q_bi (g_se A t s)) := by
  unfold Mo_isSeen g_se
  have t3 := ht.2.2
  have m2 := hw.2.1
  unfold g_tn at h1 m2
  rw [m_of11 hs]
  simp only [Option.bind_some]
  have rest : ((Mo_of (nI s) (7 : Int32) (g_ma h 31 A)).bind fun x14 => if x14 ≤ 0 then (some ((1 : Int32))) else ((Mo_of (nI s) (7 : Int32) (g_ma h 31 A)).bind fun x16 => (Mo_isKnown (nI t) x16 (g_ma h 31 A)).bind fun x18 => if ¬ x18 = 0 then (some ((0 : Int32))) else (some ((1 : Int32))))) = some (q_bi (!(decide (g_en A s ≠ 0) && g_kn A t (g_en A s)))) := by
    rw [m_of7 hs]
    simp only [Option.bind_some]
    by_cases c : g_en A s = 0
    · rw [g_ws_e0 hw c, if_pos (by decide), decide_eq_false (fun q => q c)]; rfl
    · obtain ⟨e, t1, t2⟩ := g_ws_en hw c
      rw [e, if_neg (nI_nle (by omega) (by omega)), m_isKnown (by omega) t1 (by omega), decide_eq_true c]
      simp only [Option.bind_some]
      cases g_kn A t (g_en A s) <;> rfl
  by_cases a : A 1 s 11 = 1
  · rw [if_pos a, decide_eq_true a]
    simp only [Option.bind_some]
    rw [rest]; rfl
  · rw [if_neg a, decide_eq_false a, m_of6 hs]
    simp only [Option.bind_some]
    rw [hw.1, m_isKnown (by omega) m2.1 (by omega)]
    simp only [Option.bind_some]
    cases g_kn A t (g_mk A s) with
    | false => rfl
    | true =>
      rw [if_neg (by decide)]
      simp only [Option.bind_some]
      rw [rest]; rfl
theorem m_chainOf {s : Nat} (hs : s < 60) (hT : A 1 s 0 = 2 → ∃ x, x < 10 ∧ A 1 s 1 = nI x) : Mo_chainOf (nI s) (g_ma h 31 A) = some (g_pp (g_ch A s)) := by
  unfold Mo_chainOf g_ch
  rw [m_of0 hs]
  simp only [Option.bind_some]
  by_cases c : A 1 s 0 = 1
  · rw [if_neg (fun q => q c), if_pos c]; unfold g_pp; rw [if_pos hs]
  · rw [if_pos c, if_neg c]
    by_cases d : A 1 s 0 = 2
    · obtain ⟨x, hx, e⟩ := hT d
      rw [if_neg (fun q => q d), if_pos d, m_of1 hs]
      simp only [Option.bind_some]
      rw [e, g_cl (by omega), show (10 : Int32) = nI 10 from rfl, pk_div (by omega) (by omega) (by omega), pk_mul, nI_add]
      unfold g_pp
      rw [if_pos (by omega), Nat.mul_comm]
    · rw [if_pos d, if_neg d]; rfl
theorem m_chainNext {s : Nat} (hs : s < 60) (hl : g_wl A) (ht : g_wt A) (hw : g_ws A s) : Mo_chainNext (nI s) (g_ma h 31 A) = some (g_pp (g_nn A s)) := by
  have t3 := ht.2.2
  unfold Mo_chainNext g_nn
  rw [m_enderOf hs ht hw]
  simp only [Option.bind_some]
  have e61 := g_eo_lt ht hw
  by_cases c : g_eo A s = 0
  · rw [if_pos ((g_peN (by omega)).mpr c), if_neg (fun q => q.1 c)]; rfl
  · rw [if_neg (fun q => c ((g_peN (by omega)).mp q)), m_of8 hs]
    simp only [Option.bind_some]
    rw [show (10 : Int32) = nI 10 from rfl, pk_div (by omega) (by omega) (by omega)]
    by_cases d : A 1 s 8 = nI (s / 10)
    · rw [if_pos d, m_of9 hs]
      simp only [Option.bind_some]
      rcases hw.2.2.2.1 with q | ⟨p, q, hp, hq, e8, e9⟩
      · exfalso
        rw [q.1] at d
        exact absurd (d ▸ nI_pos' (n := s / 10) (by omega)) (by decide)
      · have en1 : g_n1 A s = 10 * (s / 10) + q := by unfold g_n1; rw [e9, g_cl (by omega)]
        have en : nI 10 * A 1 s 8 + A 1 s 9 = nI (g_n1 A s) := by rw [d, e9, pk_mul, nI_add, en1]
        have hn : g_n1 A s < 60 := by omega
        rw [en, m_isVersion hn hl]
        simp only [Option.bind_some]
        have e2 : g_pe (g_eo A s) = nI (g_eo A s) := if_neg c
        cases f : g_fu A (g_n1 A s) with
        | false => rw [if_pos (by rfl), if_neg (fun q => by cases q.2.2.1)]; rfl
        | true =>
          rw [if_neg (by decide), show Mo_of (nI (g_n1 A s)) (nI 10) (g_ma h 31 A) = some (A 1 (g_n1 A s) 10) from m_of10 hn]
          simp only [Option.bind_some]
          by_cases g : A 1 (g_n1 A s) 10 = 1
          · rw [if_neg (fun q => q g), m_of6 hn]
            simp only [Option.bind_some]
            rw [e2]
            by_cases i : A 1 (g_n1 A s) 6 = nI (g_eo A s)
            · rw [if_neg (fun q => q i), if_pos ⟨c, d, trivial, g, i⟩]; unfold g_pp; rw [if_pos hn]
            · rw [if_pos i, if_neg (fun q => i q.2.2.2.2)]; rfl
          · rw [if_pos g, if_neg (fun q => g q.2.2.2.1)]; rfl
    · rw [if_neg d, if_neg (fun q => d q.2.1)]; rfl
end g_M
