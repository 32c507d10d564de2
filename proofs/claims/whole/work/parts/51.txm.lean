/-! transactions: what is told of them, by the reference's rows -/
theorem g_bs {α : Type} {x : Option α} {r : α} (h : x = some r) : (x.bind fun z => some z) = some r := by rw [h]; rfl
theorem g_lpI' {β σ ρ : Type} {body : σ → Option (σ ⊕ ρ)} {s0 : σ} (f : Nat → β → β) (i0 n : Nat) (b : β) (st : Nat → β → σ) (rr : β → ρ) (h0 : s0 = st i0 b) (hstep : ∀ i x, i0 ≤ i → i < i0 + n → body (st i x) = some (.inl (st (i + 1) (f i x)))) (hend : ∀ x, body (st (i0 + n) x) = some (.inr (rr x))) (hf : n < q_fu) : q_lp body q_fu s0 = some (rr (g_it f i0 n b)) := by
  rw [h0]; exact g_lpI f i0 n b st rr hstep hend q_fu hf
theorem g_lpS' {σ ρ : Type} {body : σ → Option (σ ⊕ ρ)} {s0 : σ} (P : Nat → Bool) (st : Nat → σ) (i0 n : Nat) (rr : Nat → ρ) (h0 : s0 = st i0) (hstep : ∀ i, i0 ≤ i → i < i0 + n → P i = false → body (st i) = some (.inl (st (i + 1)))) (hhit : ∀ i, i0 ≤ i → i < i0 + n → P i = true → body (st i) = some (.inr (rr i))) (hend : body (st (i0 + n)) = some (.inr (rr (i0 + n)))) (hf : n < q_fu) : q_lp body q_fu s0 = some (rr (g_fst P i0 n)) := by
  rw [h0]; exact g_lpS P st i0 n rr hstep hhit hend q_fu hf
def g_nx (A : g_A) : Nat := (A 0 4 0).toNatClampNeg
def g_wt (A : g_A) : Prop := A 0 4 0 = nI (g_nx A) ∧ 2 ≤ g_nx A ∧ g_nx A ≤ 61
def g_nt (A : g_A) (t o : Nat) : Bool := decide (((A 3 t (if o ≤ 30 then 1 else 2)) >>> ((if o ≤ 30 then nI (o - 1) else nI (o - 31)) &&& 31)) &&& (1 : Int32) = 1)
def g_kn (A : g_A) (t o : Nat) : Bool := decide (o = t) || (decide (o < t) && (decide (A 3 o 0 = 1) && !g_nt A t o))
def g_op (A : g_A) (t : Nat) : Bool := decide (A 3 t 0 = 0)
def g_lo (A : g_A) (t : Nat) : Nat := g_fst (g_nt A t) 1 (t - 1)
def g_hs (A : g_A) (b t x : Nat) : Nat := if g_op A t = true ∧ t ≠ b ∧ g_lo A t < x then g_lo A t else x
def g_hb (A : g_A) (b : Nat) : Nat := g_it (g_hs A b) 1 (g_nx A - 1) (g_nx A)
def g_hz (A : g_A) : Nat := g_hb A 0
def g_tx (A : g_A) (a : Int32) : Bool := decide (1 ≤ a) && decide (a < A 0 4 0)
theorem g_lo_le {A : g_A} {t : Nat} (h : 1 ≤ t) : 1 ≤ g_lo A t ∧ g_lo A t ≤ t := by
  have := g_fst_le (g_nt A t) (t - 1) 1
  unfold g_lo; omega
theorem g_it_le {f : Nat → Nat → Nat} (hf : ∀ i x, f i x ≤ x) (i0 b : Nat) : ∀ n, g_it f i0 n b ≤ b := by
  intro n
  induction n with
  | zero => exact Nat.le_refl _
  | succ n ih => unfold g_it; exact Nat.le_trans (hf _ _) ih
theorem g_hb_le {A : g_A} {b : Nat} : g_hb A b ≤ g_nx A := by
  unfold g_hb
  refine g_it_le (fun i x => ?_) _ _ _
  unfold g_hs
  split <;> omega
theorem g_tx_t {A : g_A} {a : Int32} (hw : g_wt A) (h : g_tx A a = true) : ∃ t, a = nI t ∧ 1 ≤ t ∧ t < g_nx A := by
  unfold g_tx at h
  rw [Bool.and_eq_true, decide_eq_true_iff, decide_eq_true_iff, hw.1] at h
  obtain ⟨h1, h2⟩ := h
  rcases pk_ix a (n := g_nx A) (by have := hw.2.2; omega) with q | q | ⟨j, hj, rfl⟩
  · exact absurd (Int32.lt_of_lt_of_le q (by decide : (0 : Int32) ≤ 1)) (Int32.not_lt.mpr h1)
  · exact absurd h2 (Int32.not_lt.mpr q)
  · refine ⟨j, rfl, ?_, hj⟩
    rcases Nat.eq_zero_or_pos j with q | q
    · subst q; exact absurd h1 (by decide)
    · exact q
theorem g_tx_n {A : g_A} {t : Nat} (hw : g_wt A) (h1 : 1 ≤ t) (h2 : t < g_nx A) : g_tx A (nI t) = true := by
  have h3 := hw.2.2
  unfold g_tx
  rw [hw.1, Bool.and_eq_true, decide_eq_true_iff, decide_eq_true_iff]
  exact ⟨nI_le (a := 1) h1 (by omega), nI_lt h2 (by omega)⟩
section g_M
variable {h : q_H} {A : g_A}
theorem m_g {i : Nat} (hi : i < 32) : (g_ma h 31 A).1 31 0 7 i = A 0 i 0 := by rw [g_ma_rd (by omega), g_at0 hi]
theorem m_of_ {s w : Nat} (hs : s < 60) (hw : w < 13) : Mo_of (nI s) (nI w) (g_ma h 31 A) = some (A 1 s w) := by
  unfold Mo_of
  rw [show (32 : Int32) = nI 32 from rfl, show (13 : Int32) = nI 13 from rfl, pk_mul, nI_add, nI_add, g_inN (by omega) (by decide), g_cl (by omega), g_ma_rd (by omega), g_at1 hs hw]
  rfl
theorem m_sets_ {s w : Nat} {v : Int32} (hs : s < 60) (hw : w < 13) : Mo_sets (nI s) (nI w) v (g_ma h 31 A) = some (g_ma h 31 (g_au A 1 s w v)) := by
  unfold Mo_sets
  rw [show (32 : Int32) = nI 32 from rfl, show (13 : Int32) = nI 13 from rfl, pk_mul, nI_add, nI_add, g_inN (by omega) (by decide), g_cl (by omega), g_ma_si (g := 1) (i := s) (w := w) (fun B => g_at1 hs hw) rfl (by omega)]
  rfl
theorem m_stateOf {t : Nat} (ht : t < 61) : Mo_stateOf (nI t) (g_ma h 31 A) = some (A 3 t 0) := by
  unfold Mo_stateOf
  rw [show (1052 : Int32) = nI 1052 from rfl, show (3 : Int32) = nI 3 from rfl, pk_mul, nI_add, g_inN (by omega) (by decide), g_cl (by omega), g_ma_rd (by omega), show 1052 + 3 * t = 1052 + 3 * t + 0 from rfl, g_at3 ht (by omega)]
  rfl
theorem m_isOpen {t : Nat} (ht : t < 61) : Mo_isOpen (nI t) (g_ma h 31 A) = some (q_bi (g_op A t)) := by
  unfold Mo_isOpen
  rw [m_stateOf ht]
  simp only [Option.bind_some]
  unfold g_op
  by_cases e : A 3 t 0 = 0
  · rw [if_neg (fun q => q e), decide_eq_true e]; rfl
  · rw [if_pos e, decide_eq_false e]; rfl
theorem m_isTxn {a : Int32} (hw : g_wt A) : Mo_isTxn a (g_ma h 31 A) = some (q_bi (g_tx A a)) := by
  obtain ⟨e, h1, h2⟩ := hw
  unfold Mo_isTxn Mo_isIn g_tx
  rw [m_g (by omega), e, show (1 : Int32) = nI 1 from rfl, pk_sub (by omega)]
  by_cases c1 : a < nI 1
  · rw [if_pos c1, decide_eq_false (Int32.not_le.mpr c1)]; rfl
  · rw [if_neg c1, decide_eq_true (Int32.not_lt.mp c1)]
    rcases pk_ix a (n := g_nx A) (by omega) with q | q | ⟨j, hj, rfl⟩
    · exact absurd (Int32.lt_of_lt_of_le q (by decide : (0 : Int32) ≤ nI 1)) c1
    · have : nI (g_nx A - 1) < a := Int32.lt_of_lt_of_le (nI_lt (by omega) (by omega)) q
      rw [if_pos this, decide_eq_false (Int32.not_lt.mpr q)]; rfl
    · rw [if_neg (nI_nlt (by omega) (by omega)), decide_eq_true (nI_lt hj (by omega))]; rfl
theorem m_isWaiting {t : Nat} (ht : t < 61) : Mo_isWaiting (nI t) (g_ma h 31 A) = some (q_bi (decide (0 < A 6 t 0))) := by
  unfold Mo_isWaiting
  rw [show (1583 : Int32) = nI 1583 from rfl, nI_add, g_inN (by omega) (by decide), g_cl (by omega), g_ma_rd (by omega), g_at6]
  simp only [cond_true]
  by_cases e : A 6 t 0 ≤ 0
  · rw [if_pos e, decide_eq_false (Int32.not_lt.mpr e)]; rfl
  · rw [if_neg e, decide_eq_true (Int32.not_le.mp e)]; rfl
theorem m_noted {t o : Nat} (ht : t < 61) (ho : 1 ≤ o) (ho2 : o < 61) : Mo_noted (nI t) (nI o) (g_ma h 31 A) = some (q_bi (g_nt A t o)) := by
  unfold Mo_noted g_nt
  have e1 : (30 : Int32) = nI 30 := rfl
  have key : ∀ (w : Nat), w < 3 → q_in (((1052 : Int32) + ((3 : Int32) * nI t)) + nI w) 1644 = true ∧ (g_ma h 31 A).1 31 0 7 (((1052 : Int32) + ((3 : Int32) * nI t)) + nI w).toNatClampNeg = A 3 t w := by
    intro w hw
    rw [show (1052 : Int32) = nI 1052 from rfl, show (3 : Int32) = nI 3 from rfl, pk_mul, nI_add, nI_add, g_cl (by omega), g_ma_rd (by omega), g_at3 ht hw]
    exact ⟨g_inN (by omega) (by decide), rfl⟩
  by_cases c : o ≤ 30
  · have c' : nI o ≤ 30 := nI_le (b := 30) c (by decide)
    have k := key 1 (by omega)
    rw [if_pos c', if_pos c', if_pos c, if_pos c]
    simp only [Option.bind_some]
    rw [show (1 : Int32) = nI 1 from rfl, k.1, pk_sub ho]
    simp only [cond_true, Option.bind_some]
    rw [k.2]
    by_cases e : (A 3 t 1 >>> (nI (o - 1) &&& 31)) &&& nI 1 = nI 1
    · rw [if_neg (fun q => q e), decide_eq_true e]; rfl
    · rw [if_pos e, decide_eq_false e]; rfl
  · have c' : ¬ nI o ≤ 30 := fun q => c ((nI_leI (b := 30) (by omega) (by decide)).mp q)
    have k := key 2 (by omega)
    rw [if_neg c', if_neg c', if_neg c, if_neg c]
    simp only [Option.bind_some]
    rw [show (2 : Int32) = nI 2 from rfl, show (31 : Int32) = nI 31 from rfl, k.1, pk_sub (by omega)]
    simp only [cond_true, Option.bind_some]
    rw [k.2]
    by_cases e : (A 3 t 2 >>> (nI (o - 31) &&& nI 31)) &&& (1 : Int32) = (1 : Int32)
    · rw [if_neg (fun q => q e), decide_eq_true e]; rfl
    · rw [if_pos e, decide_eq_false e]; rfl
theorem m_isKnown {t o : Nat} (ht : t < 61) (ho : 1 ≤ o) (ho2 : o < 61) : Mo_isKnown (nI t) (nI o) (g_ma h 31 A) = some (q_bi (g_kn A t o)) := by
  unfold Mo_isKnown g_kn
  by_cases c : o = t
  · rw [if_pos (by rw [c]), decide_eq_true c]; rfl
  · rw [if_neg (fun q => c ((nI_eq (by omega) (by omega)).mp q)), decide_eq_false c]
    by_cases c2 : t ≤ o
    · rw [if_pos (nI_le c2 (by omega)), decide_eq_false (by omega)]; rfl
    · rw [if_neg (nI_ge (by omega) (by omega)), decide_eq_true (by omega), m_stateOf ho2]
      simp only [Option.bind_some]
      by_cases c3 : A 3 o 0 = 1
      · rw [if_neg (fun q => q c3), decide_eq_true c3, m_noted ht ho ho2]
        simp only [Option.bind_some]
        cases g_nt A t o <;> rfl
      · rw [if_pos c3, decide_eq_false c3]; rfl
theorem m_lowOf {t : Nat} (h1 : 1 ≤ t) (ht : t < 61) : Mo_lowOf (nI t) (g_ma h 31 A) = some (nI (g_lo A t)) := by
  unfold Mo_lowOf
  refine g_bs (g_lpS' (g_nt A t) (fun i => nI i) 1 (t - 1) (fun i => nI i) rfl (fun i a b c => ?_) (fun i a b c => ?_) ?_ (by unfold q_fu; omega))
  · rw [if_neg (nI_ge (by omega) (by omega)), m_noted ht a (by omega), c]
    show some (Sum.inl (nI i + 1)) = _
    rw [nI_1]
  · rw [if_neg (nI_ge (by omega) (by omega)), m_noted ht a (by omega), c]
    rfl
  · have e : 1 + (t - 1) = t := by omega
    rw [e, if_pos (Int32.le_refl _)]
theorem m_hb {a : Int32} {b : Nat} (hw : g_wt A) (hab : ∀ t, 1 ≤ t → t < 61 → (nI t = a ↔ t = b)) : Mo_horizonBut a (g_ma h 31 A) = some (nI (g_hb A b)) := by
  obtain ⟨e, h1, h2⟩ := hw
  unfold Mo_horizonBut
  refine g_bs ?_
  refine (g_lpI' (g_hs A b) 1 (g_nx A - 1) (g_nx A) (fun i x => (nI (min x (g_nx A)), nI i)) (fun x => nI (min x (g_nx A))) ?_ (fun i x c1 c2 => ?_) (fun x => ?_) (by unfold q_fu; omega)).trans ?_
  · rw [m_g (by omega), e, Nat.min_self]; rfl
  · have hlo := g_lo_le (A := A) c1
    rw [m_g (by omega)]
    dsimp only
    rw [if_neg (by rw [e]; exact nI_ge (by omega) (by omega)), m_isOpen (by omega), nI_1]
    simp only [Option.bind_some]
    by_cases o : g_op A i = true
    · rw [o, if_neg (by decide)]
      by_cases q : i = b
      · have : g_hs A b i x = x := if_neg (fun z => z.2.1 q)
        rw [if_pos ((hab i c1 (by omega)).mpr q), this]
        rfl
      · rw [if_neg (fun z => q ((hab i c1 (by omega)).mp z)), m_lowOf c1 (by omega)]
        simp only [Option.bind_some]
        by_cases z : g_lo A i < x
        · have : g_hs A b i x = g_lo A i := if_pos ⟨o, q, z⟩
          rw [if_neg (nI_ge (by omega) (by omega)), this, Nat.min_eq_left (by omega)]
          rfl
        · have : g_hs A b i x = x := if_neg (fun y => z y.2.2)
          rw [if_pos (nI_le (by omega) (by omega)), this]
          rfl
    · have : g_hs A b i x = x := if_neg (fun y => o y.1)
      rw [this, Bool.not_eq_true _ |>.mp o, if_pos (by rfl)]
      rfl
  · rw [m_g (by omega)]
    dsimp only
    have e2 : 1 + (g_nx A - 1) = g_nx A := by omega
    rw [e2, if_pos (by rw [e]; exact Int32.le_refl _)]
  · have : g_hb A b ≤ g_nx A := g_hb_le
    unfold g_hb at this ⊢
    rw [Nat.min_eq_left this]
theorem m_horizon (hw : g_wt A) : Mo_horizon (g_ma h 31 A) = some (nI (g_hz A)) := by
  unfold Mo_horizon
  rw [m_hb (b := 0) hw (fun t h1 h2 => ⟨fun q => by exfalso; exact absurd (q ▸ nI_pos' (n := t) (by omega)) (by decide), fun q => by omega⟩)]
  rfl
end g_M
