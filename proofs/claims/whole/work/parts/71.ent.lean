/-! an entry comes into the index -/
def g_bh (A : g_A) (key : Int32) (s i : Nat) : Bool := decide (key < A 2 i 0) || (decide (A 2 i 0 = key) && decide (s < g_ep A i))
def g_esh (A : g_A) (m j : Nat) : g_A := fun g i w => if g = 2 ∧ w < 4 ∧ i ≤ m ∧ m < i + j then A 2 (i - 1) w else A g i w
def g_ef (B : g_A) (i : Nat) (key : Int32) (s : Nat) : g_A := g_au (g_au (g_au (g_au (g_au B 2 i 0 key) 2 i 1 (nI (s / 10))) 2 i 2 (nI (s % 10))) 2 i 3 0) 0 5 0 (B 0 5 0 + 1)
def g_es (A : g_A) (key : Int32) (s : Nat) : Nat := g_fst (fun j => !g_bh A key s (g_ne A - 1 - j)) 0 (g_ne A)
def g_ent (A : g_A) (key : Int32) (s : Nat) : g_A := g_ef (g_esh A (g_ne A) (g_es A key s)) (g_ne A - g_es A key s) key s
theorem g_es_le {A : g_A} {key : Int32} {s : Nat} : g_es A key s ≤ g_ne A := by
  have := g_fst_le (fun j => !g_bh A key s (g_ne A - 1 - j)) (g_ne A) 0
  unfold g_es; omega
theorem g_esh_lo {A : g_A} {m j i : Nat} (h : i + j ≤ m) (w : Nat) : g_esh A m j 2 i w = A 2 i w := by
  unfold g_esh; rw [if_neg (by omega)]
theorem g_esh_o {A : g_A} {m j g i w : Nat} (h : g ≠ 2) : g_esh A m j g i w = A g i w := by
  unfold g_esh; rw [if_neg (by omega)]
theorem g_esh_s {A : g_A} {m j : Nat} (hj : j < m) : g_au (g_au (g_au (g_au (g_esh A m j) 2 (m - j) 0 (A 2 (m - j - 1) 0)) 2 (m - j) 1 (A 2 (m - j - 1) 1)) 2 (m - j) 2 (A 2 (m - j - 1) 2)) 2 (m - j) 3 (A 2 (m - j - 1) 3) = g_esh A m (j + 1) := by
  funext g i w
  by_cases e : g = 2 ∧ i = m - j ∧ w < 4
  · obtain ⟨rfl, rfl, hw⟩ := e
    have r : g_esh A m (j + 1) 2 (m - j) w = A 2 (m - j - 1) w := by unfold g_esh; rw [if_pos (by omega)]
    rw [r]
    have : w = 0 ∨ w = 1 ∨ w = 2 ∨ w = 3 := by omega
    rcases this with rfl | rfl | rfl | rfl
    · rw [g_au_ne (by omega), g_au_ne (by omega), g_au_ne (by omega), g_au_eq]
    · rw [g_au_ne (by omega), g_au_ne (by omega), g_au_eq]
    · rw [g_au_ne (by omega), g_au_eq]
    · rw [g_au_eq]
  · rw [g_au_ne (by omega), g_au_ne (by omega), g_au_ne (by omega), g_au_ne (by omega)]
    unfold g_esh
    by_cases c : g = 2 ∧ w < 4 ∧ i ≤ m ∧ m < i + j
    · rw [if_pos c, if_pos (by omega)]
    · rw [if_neg c, if_neg (by omega)]
theorem g_sub1 {n : Nat} (h : 1 ≤ n) : nI n - (1 : Int32) = nI (n - 1) := pk_sub (b := 1) h
section g_M
variable {h : q_H} {A : g_A} {i : Nat}
theorem mx0 (hi : i < 60) : q_in ((812 : Int32) + ((4 : Int32) * nI i)) 1644 = true := by rw [show (812 : Int32) = nI 812 from rfl, show (4 : Int32) = nI 4 from rfl, pk_mul, nI_add]; exact g_inN (by omega) (by decide)
theorem mxw {w : Nat} (hi : i < 60) (hw : w < 4) : q_in (((812 : Int32) + ((4 : Int32) * nI i)) + nI w) 1644 = true := by rw [show (812 : Int32) = nI 812 from rfl, show (4 : Int32) = nI 4 from rfl, pk_mul, nI_add, nI_add]; exact g_inN (by omega) (by decide)
theorem mx1 (hi : i < 60) : q_in (((812 : Int32) + ((4 : Int32) * nI i)) + (1 : Int32)) 1644 = true := mxw (w := 1) hi (by decide)
theorem mx2 (hi : i < 60) : q_in (((812 : Int32) + ((4 : Int32) * nI i)) + (2 : Int32)) 1644 = true := mxw (w := 2) hi (by decide)
theorem mx3 (hi : i < 60) : q_in (((812 : Int32) + ((4 : Int32) * nI i)) + (3 : Int32)) 1644 = true := mxw (w := 3) hi (by decide)
theorem mi0 {v : Int32} (hi : i < 60) : q_si (g_ma h 31 A) 31 0 7 ((812 : Int32) + ((4 : Int32) * nI i)).toNatClampNeg v = g_ma h 31 (g_au A 2 i 0 v) := by
  rw [show (812 : Int32) = nI 812 from rfl, show (4 : Int32) = nI 4 from rfl, pk_mul, nI_add, g_cl (by omega)]
  exact g_ma_si (g := 2) (i := i) (w := 0) (fun B => g_at2 (w := 0) hi (by omega)) rfl (by omega)
theorem miw {w : Nat} {v : Int32} (hi : i < 60) (hw : w < 4) : q_si (g_ma h 31 A) 31 0 7 (((812 : Int32) + ((4 : Int32) * nI i)) + nI w).toNatClampNeg v = g_ma h 31 (g_au A 2 i w v) := by
  rw [show (812 : Int32) = nI 812 from rfl, show (4 : Int32) = nI 4 from rfl, pk_mul, nI_add, nI_add, g_cl (by omega)]
  exact g_ma_si (g := 2) (i := i) (w := w) (fun B => g_at2 hi hw) rfl (by omega)
theorem mi1 {v : Int32} (hi : i < 60) : q_si (g_ma h 31 A) 31 0 7 (((812 : Int32) + ((4 : Int32) * nI i)) + (1 : Int32)).toNatClampNeg v = g_ma h 31 (g_au A 2 i 1 v) := miw (w := 1) hi (by decide)
theorem mi2 {v : Int32} (hi : i < 60) : q_si (g_ma h 31 A) 31 0 7 (((812 : Int32) + ((4 : Int32) * nI i)) + (2 : Int32)).toNatClampNeg v = g_ma h 31 (g_au A 2 i 2 v) := miw (w := 2) hi (by decide)
theorem mi3 {v : Int32} (hi : i < 60) : q_si (g_ma h 31 A) 31 0 7 (((812 : Int32) + ((4 : Int32) * nI i)) + (3 : Int32)).toNatClampNeg v = g_ma h 31 (g_au A 2 i 3 v) := miw (w := 3) hi (by decide)
/-- a row of the index is copied -/
theorem m_ecp {i j : Nat} (hi : i < 60) (hj : j < 60) (hij : i ≠ j) : q_lp (fun s47 : Int32 × q_H => (if (4 : Int32) ≤ s47.1 then (some (.inr (s47.2))) else ((Mo_entryOf (nI j) s47.1 s47.2).bind fun x55 => bif q_in (((812 : Int32) + ((4 : Int32) * nI i)) + s47.1) 1644 then (some (.inl ((s47.1 + (1 : Int32)), (q_si s47.2 31 0 7 (((812 : Int32) + ((4 : Int32) * nI i)) + s47.1).toNatClampNeg x55)))) else none) : Option ((Int32 × q_H) ⊕ (q_H)))) q_fu (((0 : Int32), g_ma h 31 A) : Int32 × q_H) = some (g_ma h 31 (g_au (g_au (g_au (g_au A 2 i 0 (A 2 j 0)) 2 i 1 (A 2 j 1)) 2 i 2 (A 2 j 2)) 2 i 3 (A 2 j 3))) := by
  refine (g_lpI' (fun w B => g_au B 2 i w (A 2 j w)) 0 4 A (fun w B => (nI w, g_ma h 31 (g_it (fun w B => g_au B 2 i w (A 2 j w)) 0 (min w 4) A))) (fun B => g_ma h 31 (g_it (fun w B => g_au B 2 i w (A 2 j w)) 0 4 A)) rfl (fun w B a b => ?_) (fun B => ?_) (by decide)).trans rfl
  · dsimp only
    have ew : min w 4 = w := by omega
    have ew1 : min (w + 1) 4 = w + 1 := by omega
    rw [ew, ew1, if_neg (show ¬ (4 : Int32) ≤ nI w from nI_ge (b := 4) (by omega) (by decide)), m_en_ hj (by omega)]
    have e : ∀ n, g_it (fun w B => g_au B 2 i w (A 2 j w)) 0 n A 2 j w = A 2 j w := by
      intro n
      induction n with
      | zero => rfl
      | succ n ih =>
        show g_au (g_it _ 0 n A) 2 i (0 + n) _ 2 j w = _
        rw [g_au_ne (by omega)]; exact ih
    simp only [Option.bind_some]
    rw [e, mxw hi (by omega), miw hi (by omega), nI_1]
    show some (Sum.inl (nI (w + 1), g_ma h 31 (g_au _ 2 i w (A 2 j w)))) = some (Sum.inl (nI (w + 1), g_ma h 31 (g_au (g_it _ 0 w A) 2 i (0 + w) (A 2 j (0 + w)))))
    rw [Nat.zero_add]
  · rfl
theorem m_enters {key : Int32} {s : Nat} (hs : s < 60) (hw : g_wi A) (hn : g_ne A < 60) : Mo_enters key (nI s) (g_ma h 31 A) = some (g_ma h 31 (g_ent A key s)) := by
  unfold Mo_enters
  rw [m_g (by omega), hw.1, show (10 : Int32) = nI 10 from rfl, pk_rem (by omega) (by omega) (by omega), pk_div (by omega) (by omega) (by omega)]
  refine g_bs ((g_lpB (fun j => !g_bh A key s (g_ne A - 1 - j)) (fun j => (nI (g_ne A - j), g_ma h 31 (g_esh A (g_ne A) j))) 0 (g_ne A) (fun j => g_ma h 31 (g_ef (g_esh A (g_ne A) j) (g_ne A - j) key s)) ?_ (fun j a b => ?_) ?_ (by unfold q_fu; omega)).trans rfl)
  · have : g_esh A (g_ne A) 0 = A := by
      funext g i w
      unfold g_esh
      rw [if_neg (by omega)]
    rw [this]; rfl
  · dsimp only
    have hi : g_ne A - j < 60 := by omega
    have hi1 : g_ne A - j - 1 < 60 := by omega
    have hep := g_ep_lt hw (i := g_ne A - j - 1) (by omega)
    have eb : g_ne A - 1 - j = g_ne A - j - 1 := by omega
    have r0 : ∀ w, g_esh A (g_ne A) j 2 (g_ne A - j - 1) w = A 2 (g_ne A - j - 1) w := g_esh_lo (by omega)
    rw [if_neg (nI_nle (by omega) (by omega)), g_sub1 (by omega), m_en0 hi1, r0]
    simp only [Option.bind_some]
    have lt : Mo_leadsTo (nI (g_ne A - j - 1)) (g_ma h 31 (g_esh A (g_ne A) j)) = some (nI (g_ep A (g_ne A - j - 1))) := by
      unfold Mo_leadsTo
      rw [m_en1 hi1, m_en2 hi1, r0, r0]
      simp only [Option.bind_some]
      rw [hep.2.1, hep.2.2, show (10 : Int32) = nI 10 from rfl, pk_mul, nI_add, Nat.div_add_mod]
    have cp := m_ecp (h := h) (A := g_esh A (g_ne A) j) hi hi1 (by omega)
    rw [r0, r0, r0, r0, g_esh_s (by omega)] at cp
    have en : nI (g_ne A - j) + (-1 : Int32) = nI (g_ne A - (j + 1)) := by
      have : g_ne A - j = g_ne A - (j + 1) + 1 := by omega
      rw [this, pk_m1]
    rw [eb]
    unfold g_bh
    by_cases c1 : key < A 2 (g_ne A - j - 1) 0
    · rw [if_pos c1, decide_eq_true c1]
      simp only [Option.bind_some]
      rw [cp]
      simp only [Option.bind_some]
      rw [en]; rfl
    · rw [if_neg c1, decide_eq_false c1]
      by_cases c2 : A 2 (g_ne A - j - 1) 0 = key
      · rw [if_neg (fun q => q c2), lt, decide_eq_true c2]
        simp only [Option.bind_some]
        by_cases c3 : s < g_ep A (g_ne A - j - 1)
        · rw [if_neg (nI_ge c3 (by omega)), decide_eq_true c3]
          simp only [Option.bind_some]
          rw [cp]
          simp only [Option.bind_some]
          rw [en]; rfl
        · rw [if_pos (nI_le (by omega) (by omega)), decide_eq_false c3, mx0 hi, mx1 hi, mx2 hi, mx3 hi]
          simp only [cond_true]
          rw [mi0 hi, mi1 hi]
          simp only [Option.bind_some]
          rw [mi2 hi, mi3 hi, m_g (by omega)]
          rw [g_w0 (by omega), g_au_ne (by omega), g_au_ne (by omega), g_au_ne (by omega), g_au_ne (by omega)]
          rfl
      · rw [if_pos c2, decide_eq_false c2, mx0 hi, mx1 hi, mx2 hi, mx3 hi]
        simp only [cond_true]
        rw [mi0 hi, mi1 hi]
        simp only [Option.bind_some]
        rw [mi2 hi, mi3 hi, m_g (by omega)]
        rw [g_w0 (by omega), g_au_ne (by omega), g_au_ne (by omega), g_au_ne (by omega), g_au_ne (by omega)]
        rfl
  · dsimp only
    have hi : g_ne A - (0 + g_ne A) < 60 := by omega
    have e0 : nI (g_ne A - (0 + g_ne A)) ≤ 0 := by rw [Nat.zero_add, Nat.sub_self]; decide
    rw [if_pos e0, mx0 hi, mx1 hi, mx2 hi, mx3 hi]
    simp only [cond_true]
    rw [mi0 hi, mi1 hi]
    simp only [Option.bind_some]
    rw [mi2 hi, mi3 hi, m_g (by omega)]
    rw [g_w0 (by omega), g_au_ne (by omega), g_au_ne (by omega), g_au_ne (by omega), g_au_ne (by omega)]
    rfl
end g_M
