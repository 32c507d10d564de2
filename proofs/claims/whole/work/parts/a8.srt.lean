/-! all is laid anew: which versions stay, and in which order -/
def g_la (A : g_A) (s : Nat) : Bool := (decide (A 1 s 11 = 1) || decide (A 3 (g_mk A s) 0 = 1)) && decide (g_eo A s = 0)
def g_ha (A : g_A) (key row : Int32) (s : Nat) : Bool := decide (key < A 1 s 3) || (decide (key = A 1 s 3) && decide (row < A 1 s 2))
def g_lt (A : g_A) (a b : Nat) : Bool := g_ha A (A 1 a 3) (A 1 a 2) b
theorem g_lt_i {A : g_A} {a b : Nat} : g_lt A a b = true ↔ (A 1 a 3).toInt < (A 1 b 3).toInt ∨ ((A 1 a 3).toInt = (A 1 b 3).toInt ∧ (A 1 a 2).toInt < (A 1 b 2).toInt) := by
  unfold g_lt g_ha
  simp only [Bool.or_eq_true, Bool.and_eq_true, decide_eq_true_eq, Int32.lt_iff_toInt_lt, ← Int32.toInt_inj]
theorem g_ha_i {A : g_A} {key row : Int32} {b : Nat} : g_ha A key row b = true ↔ key.toInt < (A 1 b 3).toInt ∨ (key.toInt = (A 1 b 3).toInt ∧ row.toInt < (A 1 b 2).toInt) := by
  unfold g_ha
  simp only [Bool.or_eq_true, Bool.and_eq_true, decide_eq_true_eq, Int32.lt_iff_toInt_lt, ← Int32.toInt_inj]
theorem g_lt_tr {A : g_A} {a b c : Nat} (h1 : g_lt A a b = true) (h2 : g_lt A b c = true) : g_lt A a c = true := by
  rw [g_lt_i] at *
  omega
theorem g_lt_ir {A : g_A} {a : Nat} : g_lt A a a = false := by
  cases h : g_lt A a a with
  | false => rfl
  | true => rw [g_lt_i] at h; omega
theorem g_lt_as {A : g_A} {a b : Nat} (h1 : g_lt A a b = true) : g_lt A b a = false := by
  cases h : g_lt A b a with
  | false => rfl
  | true => rw [g_lt_i] at h h1; omega
/-- one that stays in a row is the only one -/
theorem g_la_1 {A : g_A} (hW : g_W A) {a b : Nat} (ha : a < 60) (hb : b < 60) (fa : g_fu A a = true) (fb : g_fu A b = true) (la : g_la A a = true) (lb : g_la A b = true) (e : A 1 a 2 = A 1 b 2) : a = b := by
  obtain ⟨⟨wt, wq, wl, wv, wc, wL, wT, wE, wF⟩, _, _, _, _, _, _, wI⟩ := hW
  have mk : ∀ x, x < 60 → g_fu A x = true → g_la A x = true → A 3 (g_mk A x) 0 = 1 ∧ g_eo A x = 0 := fun x hx fx lx => by
    unfold g_la at lx
    simp only [Bool.or_eq_true, Bool.and_eq_true, decide_eq_true_eq] at lx
    exact ⟨lx.1.elim (fun q => wF x hx fx q) id, lx.2⟩
  obtain ⟨m1, e1⟩ := mk a ha fa la
  obtain ⟨m2, e2⟩ := mk b hb fb lb
  exact (wI a b ha hb fa fb e).2.1 (by rw [m1]; decide) (by rw [m2]; decide) e1 e2
theorem g_lt_to {A : g_A} (hW : g_W A) {a b : Nat} (ha : a < 60) (hb : b < 60) (fa : g_fu A a = true) (fb : g_fu A b = true) (la : g_la A a = true) (lb : g_la A b = true) (hn : a ≠ b) (h : g_lt A a b = false) : g_lt A b a = true := by
  have ne : (A 1 a 2).toInt ≠ (A 1 b 2).toInt := fun q => hn (g_la_1 hW ha hb fa fb la lb (Int32.toInt_inj.mp q))
  have h' : ¬ g_lt A a b = true := by rw [h]; decide
  rw [g_lt_i] at h' ⊢
  omega
/-- the list of those that stay -/
def g_sl2 (A : g_A) (n : Nat) (L : List Nat) : Prop := L.Pairwise (fun a b => g_lt A a b = true) ∧ (∀ x, x ∈ L ↔ (x < n ∧ g_fu A x = true ∧ g_la A x = true)) ∧ L.length ≤ n
def g_el (L : List Nat) (i : Nat) : Nat := L.getD i 60
theorem g_el_lt {L : List Nat} {i : Nat} (h : i < L.length) : g_el L i = L[i] := by unfold g_el; rw [List.getD_eq_getElem?_getD, List.getElem?_eq_getElem h]; rfl
theorem g_el_ge {L : List Nat} {i : Nat} (h : L.length ≤ i) : g_el L i = 60 := by unfold g_el; rw [List.getD_eq_getElem?_getD, List.getElem?_eq_none h]; rfl
theorem g_el_m {L : List Nat} {i : Nat} (h : i < L.length) : g_el L i ∈ L := by rw [g_el_lt h]; exact List.getElem_mem h
theorem g_sl2_e {A : g_A} {n : Nat} {L : List Nat} (h : g_sl2 A n L) {i : Nat} (hi : i < L.length) : g_el L i < n ∧ g_fu A (g_el L i) = true ∧ g_la A (g_el L i) = true := (h.2.1 _).mp (g_el_m hi)
theorem g_sl2_l {A : g_A} {n : Nat} {L : List Nat} (h : g_sl2 A n L) {i j : Nat} (hij : i < j) (hj : j < L.length) : g_lt A (g_el L i) (g_el L j) = true := by
  rw [g_el_lt hj, g_el_lt (by omega)]
  exact List.pairwise_iff_getElem.mp h.1 i j (by omega) hj hij
theorem g_el_x {L : List Nat} {x : Nat} (h : x ∈ L) : ∃ j, j < L.length ∧ g_el L j = x := by
  obtain ⟨j, hj, e⟩ := List.getElem_of_mem h
  exact ⟨j, hj, by rw [g_el_lt hj]; exact e⟩
/-- the next that stays -/
def g_sel (A : g_A) (key row : Int32) (n c : Nat) : Prop := (c = 60 ∧ ∀ j, j < n → ¬ (g_fu A j = true ∧ g_la A j = true ∧ g_ha A key row j = true)) ∨ (c < 60 ∧ g_fu A c = true ∧ g_la A c = true ∧ g_ha A key row c = true ∧ ∀ j, j < n → g_fu A j = true → g_la A j = true → g_ha A key row j = true → g_lt A j c = false)
theorem g_sel_s {A : g_A} {L : List Nat} {i c : Nat} (hL : g_sl2 A 60 L) (hi : i < L.length) (h : g_sel A (A 1 (g_el L i) 3) (A 1 (g_el L i) 2) 60 c) : c = g_el L (i + 1) := by
  rcases h with ⟨e, h⟩ | ⟨h60, fc, lc, ac, h⟩
  · by_cases d : i + 1 < L.length
    · obtain ⟨e1, e2, e3⟩ := g_sl2_e hL d
      exact absurd ⟨e2, e3, g_sl2_l hL (Nat.lt_succ_self i) d⟩ (h _ e1)
    · rw [g_el_ge (by omega)]; exact e
  · obtain ⟨j, hj, e⟩ := g_el_x ((hL.2.1 c).mpr ⟨h60, fc, lc⟩)
    have ac' : g_lt A (g_el L i) c = true := ac
    have hij : i < j := by
      rcases Nat.lt_trichotomy i j with q | q | q
      · exact q
      · subst q; rw [e, g_lt_ir] at ac'; cases ac'
      · have := g_lt_as (g_sl2_l hL q hi)
        rw [e, ac'] at this; cases this
    by_cases d : j = i + 1
    · rw [← d]; exact e.symm
    · obtain ⟨e1, e2, e3⟩ := g_sl2_e hL (i := i + 1) (by omega)
      have := h _ e1 e2 e3 (g_sl2_l hL (Nat.lt_succ_self i) (by omega))
      rw [← e, g_sl2_l hL (show i + 1 < j by omega) hj] at this
      cases this
theorem g_sel_0 {A : g_A} {L : List Nat} {c : Nat} (hW : g_W A) (hL : g_sl2 A 60 L) (h : g_sel A (-1) (-1) 60 c) : c = g_el L 0 := by
  have all : ∀ j, j < 60 → g_fu A j = true → g_ha A (-1) (-1) j = true := fun j hj fj => by
    obtain ⟨⟨r, r1, r2⟩, r3⟩ := hW.2.2.2.2.1.2.2 j hj fj
    have r4 := Int32.le_iff_toInt_le.mp r3
    rw [g_ha_i]
    have : (0 : Int32).toInt = 0 := by decide
    have : (-1 : Int32).toInt = -1 := by decide
    omega
  rcases h with ⟨e, h⟩ | ⟨h60, fc, lc, ac, h⟩
  · by_cases d : 0 < L.length
    · obtain ⟨e1, e2, e3⟩ := g_sl2_e hL d
      exact absurd ⟨e2, e3, all _ e1 e2⟩ (h _ e1)
    · rw [g_el_ge (by omega)]; exact e
  · obtain ⟨j, hj, e⟩ := g_el_x ((hL.2.1 c).mpr ⟨h60, fc, lc⟩)
    by_cases d : j = 0
    · rw [← d]; exact e.symm
    · obtain ⟨e1, e2, e3⟩ := g_sl2_e hL (i := 0) (by omega)
      have := h _ e1 e2 e3 (all _ e1 e2)
      rw [← e, g_sl2_l hL (show 0 < j by omega) hj] at this
      cases this
/-! the component: the next that stays -/
theorem c_isLasting {H : q_H} {k s : Nat} {A : g_A} (hR : r_t (g_st H k) A) (wt : g_wt A) (hr : r_s (g_st H k) A s) (hw : g_ws A s) (hf : g_fu A s = true) : St_isLasting k k s H = some (q_bi (g_la A s)) := by
  have r6 : H.1 3 6 k s = A 1 s 6 := (hr.1 hf).2.2.2.2.2.2.1
  have r11 : H.1 3 11 k s = A 1 s 11 := (hr.1 hf).2.2.2.2.2.2.2.2.2.2
  unfold St_isLasting g_la
  rw [c_isUnended hR wt hr hw hf, r6, r11, hw.1, c_so hR wt hw.2.1.1 hw.2.1.2]
  simp only [Option.bind_some]
  rcases hw.2.2.2.2.2 with w | w
  · rw [w, if_neg (fun y => y rfl), show decide ((0 : Int32) = 1) = false by decide, Bool.false_or]
    by_cases c : A 3 (g_mk A s) 0 = 1
    · rw [if_neg (fun y => y c), decide_eq_true c]
      cases decide (g_eo A s = 0) <;> rfl
    · rw [if_pos c, decide_eq_false c]; rfl
  · rw [w, if_pos (show ¬ (1 : Int32) = 0 by decide), show decide ((1 : Int32) = 1) = true by decide, Bool.true_or, Bool.true_and]
    simp only [Option.bind_some]
    cases decide (g_eo A s = 0) <;> rfl
theorem c_isAhead {H : q_H} {k s : Nat} {key row : Int32} {A : g_A} (hr : r_s (g_st H k) A s) (hf : g_fu A s = true) : St_isAhead k key row k s H = some (q_bi (g_ha A key row s)) := by
  have r2 : H.1 3 2 k s = A 1 s 2 := (hr.1 hf).2.2.1
  have r3 : H.1 3 3 k s = A 1 s 3 := (hr.1 hf).2.2.2.1
  unfold St_isAhead g_ha
  rw [r2, r3]
  by_cases c : key < A 1 s 3
  · rw [if_pos c, decide_eq_true c]; rfl
  · rw [if_neg c, decide_eq_false c]
    by_cases d : key = A 1 s 3
    · rw [if_neg (fun y => y d), decide_eq_true d]
      by_cases e : row < A 1 s 2
      · rw [if_neg (Int32.not_le.mpr e), decide_eq_true e]; rfl
      · rw [if_pos (Int32.not_lt.mp e), decide_eq_false e]; rfl
    · rw [if_pos d, decide_eq_false d]; rfl
theorem c_lastingBehind {H : q_H} {k : Nat} {key row : Int32} {A : g_A} (hW : g_W A) (hR : r_t (g_st H k) A) (hP : ∀ p, p < 6 → r_p (g_st H k) A p) : ∃ c, St_lastingBehind k key row H = some (g_pp c) ∧ g_sel A key row 60 c := by
  obtain ⟨wt, wq, wl, wv, wc, wL, wT, wE, wF⟩ := hW.1
  unfold St_lastingBehind
  obtain ⟨r, e, er⟩ := g_lpH (body := fun s1 : Int32 × Int32 => (if (60 : Int32) ≤ s1.2 then (some (.inr (s1.1))) else ((Pg_at k s1.2 H).bind fun x9 => Option.bind (α := Int32) (if ¬ (H.1 3 0 k x9) = (1 : Int32) then (some (s1.1)) else ((St_isLasting k k x9 H).bind fun x15 => if x15 = 0 then (some (s1.1)) else ((St_isAhead k key row k x9 H).bind fun x17 => if ¬ x17 = 0 then ((Pg_at k s1.1 H).bind fun x19 => if s1.1 = (-1 : Int32) then (some (s1.2)) else ((St_isAhead k (H.1 3 3 k x9) (H.1 3 2 k x9) k x19 H).bind fun x21 => if x21 = 0 then (some (s1.1)) else (some (s1.2)))) else (some (s1.1))))) (fun p28 => some (.inl (p28, (s1.2 + (1 : Int32)))))) : Option ((Int32 × Int32) ⊕ Int32)))
    (fun i y => ∃ c, y = (g_pp c, nI i) ∧ g_sel A key row i c) (fun r => ∃ c, r = g_pp c ∧ g_sel A key row 60 c) 60
    (fun i y hi ⟨c, e, hs⟩ => by
      subst e
      dsimp only
      rw [if_neg (show ¬ (60 : Int32) ≤ nI i from nI_ge (b := 60) hi (by decide)), c_at hi]
      simp only [Option.bind_some]
      have hr := r_ps hP hi
      have stay : ¬ (g_fu A i = true ∧ g_la A i = true ∧ g_ha A key row i = true) → g_sel A key row (i + 1) c := fun hn => by
        rcases hs with ⟨e, h⟩ | ⟨h60, fc, lc, ac, h⟩
        · refine Or.inl ⟨e, fun j hj => ?_⟩
          by_cases d : j = i
          · subst d; exact hn
          · exact h j (by omega)
        · refine Or.inr ⟨h60, fc, lc, ac, fun j hj f1 f2 f3 => ?_⟩
          by_cases d : j = i
          · subst d; exact absurd ⟨f1, f2, f3⟩ hn
          · exact h j (by omega) f1 f2 f3
      have e0 : (nI i + (1 : Int32)) = nI (i + 1) := nI_1 i
      by_cases f : g_fu A i = true
      · rw [if_neg (fun y => y (show H.1 3 0 k i = 1 from (hr.1 f).1)), c_isLasting hR wt hr (wv i hi f) f]
        simp only [Option.bind_some]
        cases l : g_la A i with
        | false =>
          rw [if_pos (by rfl), e0]
          simp only [Option.bind_some]
          exact ⟨_, rfl, c, rfl, stay (fun q => by rw [l] at q; cases q.2.1)⟩
        | true =>
          rw [if_neg (by decide), c_isAhead hr f]
          simp only [Option.bind_some]
          cases a : g_ha A key row i with
          | false =>
            rw [if_neg (by decide), e0]
            simp only [Option.bind_some]
            exact ⟨_, rfl, c, rfl, stay (fun q => by rw [a] at q; cases q.2.2)⟩
          | true =>
            rw [if_pos (by decide)]
            rcases hs with ⟨e, h⟩ | ⟨h60, fc, lc, ac, h⟩
            · subst e
              have e6 : g_pp 60 = -1 := rfl
              rw [e6, c_at1]
              simp only [Option.bind_some]
              rw [if_pos trivial, e0]
              simp only [Option.bind_some]
              refine ⟨_, rfl, i, by rw [show g_pp i = nI i from if_pos hi], Or.inr ⟨hi, f, l, a, fun j hj f1 f2 f3 => ?_⟩⟩
              by_cases d : j = i
              · subst d; exact g_lt_ir
              · exact absurd ⟨f1, f2, f3⟩ (h j (by omega))
            · have ec : g_pp c = nI c := if_pos h60
              have hrc := r_ps hP h60
              have r2 : H.1 3 2 k i = A 1 i 2 := (hr.1 f).2.2.1
              have r3 : H.1 3 3 k i = A 1 i 3 := (hr.1 f).2.2.2.1
              rw [ec, c_at h60]
              simp only [Option.bind_some]
              rw [if_neg (show ¬ nI c = -1 from fun q => absurd (q ▸ nI_pos' (n := c) (by omega)) (by decide)), r2, r3, c_isAhead hrc fc]
              simp only [Option.bind_some]
              have hl : g_ha A (A 1 i 3) (A 1 i 2) c = g_lt A i c := rfl
              rw [hl]
              cases lt : g_lt A i c with
              | false =>
                rw [if_pos (by rfl), e0]
                simp only [Option.bind_some]
                refine ⟨_, rfl, c, by rw [ec], Or.inr ⟨h60, fc, lc, ac, fun j hj f1 f2 f3 => ?_⟩⟩
                by_cases d : j = i
                · subst d; exact lt
                · exact h j (by omega) f1 f2 f3
              | true =>
                rw [if_neg (by decide), e0]
                simp only [Option.bind_some]
                refine ⟨_, rfl, i, by rw [show g_pp i = nI i from if_pos hi], Or.inr ⟨hi, f, l, a, fun j hj f1 f2 f3 => ?_⟩⟩
                by_cases d : j = i
                · subst d; exact g_lt_ir
                · cases q : g_lt A j i with
                  | false => rfl
                  | true =>
                    have := h j (by omega) f1 f2 f3
                    rw [g_lt_tr q lt] at this; cases this
      · rw [if_pos (show ¬ H.1 3 0 k i = 1 from fun q => f ((r_s_k1 hr).mp q)), e0]
        simp only [Option.bind_some]
        exact ⟨_, rfl, c, rfl, stay (fun q => f q.1)⟩)
    (fun y ⟨c, e, hs⟩ => by
      subst e
      dsimp only
      rw [if_pos (show (60 : Int32) ≤ nI 60 from Int32.le_refl _)]
      exact ⟨_, rfl, c, rfl, hs⟩) ((-1 : Int32), (0 : Int32)) q_fu (by unfold q_fu; omega) ⟨60, rfl, Or.inl ⟨rfl, fun j hj => absurd hj (Nat.not_lt_zero j)⟩⟩
  obtain ⟨c, ec, hc⟩ := er
  refine ⟨c, ?_, hc⟩
  rw [e, ec]; rfl
