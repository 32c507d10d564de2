/-! the reference: those that stay, in their order -/
theorem m_lives {h : q_H} {s : Nat} {A : g_A} (hs : s < 60) (wt : g_wt A) (hw : g_ws A s) : Mo_lives (nI s) (g_ma h 31 A) = some (q_bi (g_la A s)) := by
  have n1 := hw.2.1.1
  have n2 := hw.2.1.2
  have w3 := wt.2.2
  have e61 : g_eo A s < 61 := by
    unfold g_eo
    by_cases c : g_en A s ≠ 0 ∧ A 3 (g_en A s) 0 ≠ 2
    · rw [if_pos c]
      rcases hw.2.2.1 with ⟨_, n⟩ | ⟨_, n⟩
      · omega
      · have := n.2; omega
    · rw [if_neg c]; omega
  unfold Mo_lives g_la
  rw [m_of11 hs, m_of6 hs, m_enderOf hs wt hw, hw.1]
  simp only [Option.bind_some]
  rw [m_stateOf (by omega)]
  simp only [Option.bind_some]
  have rest : (if 0 ≤ g_pe (g_eo A s) then (some ((0 : Int32))) else (some ((1 : Int32)))) = some (q_bi (decide (g_eo A s = 0))) := by
    by_cases c : g_eo A s = 0
    · rw [decide_eq_true c, c]; rfl
    · rw [decide_eq_false c]
      unfold g_pe
      rw [if_neg c, if_pos (nI_pos' (by omega))]; rfl
  by_cases c : A 1 s 11 = 1
  · rw [if_pos c, decide_eq_true c, Bool.true_or, Bool.true_and]
    simp only [Option.bind_some]
    exact rest
  · rw [if_neg c, decide_eq_false c, Bool.false_or]
    by_cases d : A 3 (g_mk A s) 0 = 1
    · rw [if_neg (fun y => y d), decide_eq_true d, Bool.true_and]
      simp only [Option.bind_some]
      exact rest
    · rw [if_pos d, decide_eq_false d]; rfl
theorem m_oldOf {h : q_H} {s w : Nat} {A B : g_A} (hs : s < 60) (hw : w < 13) : Mo_oldOf (nI s) (nI w) (g_ma (g_ma h 32 A) 31 B) = some (A 1 s w) := by
  unfold Mo_oldOf
  rw [show (32 : Int32) = nI 32 from rfl, show (13 : Int32) = nI 13 from rfl, pk_mul, nI_add, nI_add, g_inN (by omega) (by decide), g_cl (by omega), cond_true, g_ma_ne (by decide), g_ma_rd (by omega), g_at1 hs hw]
theorem m_isAhead {h : q_H} {a b : Nat} {A B : g_A} (ha : a < 60) (hb : b < 60) : Mo_isAhead (nI a) (nI b) (g_ma (g_ma h 32 A) 31 B) = some (q_bi (g_lt A a b)) := by
  unfold Mo_isAhead g_lt g_ha
  rw [show (3 : Int32) = nI 3 from rfl, show (2 : Int32) = nI 2 from rfl, m_oldOf ha (by omega), m_oldOf hb (by omega), m_oldOf ha (by omega), m_oldOf hb (by omega)]
  simp only [Option.bind_some]
  by_cases c : A 1 a 3 = A 1 b 3
  · rw [if_pos c, decide_eq_false (show ¬ A 1 a 3 < A 1 b 3 by rw [c]; exact Int32.lt_irrefl), decide_eq_true c, Bool.false_or, Bool.true_and]
    by_cases d : A 1 a 2 < A 1 b 2
    · rw [if_neg (Int32.not_le.mpr d), decide_eq_true d]; rfl
    · rw [if_pos (Int32.not_lt.mp d), decide_eq_false d]; rfl
  · rw [if_neg c, decide_eq_false c, Bool.false_and, Bool.or_false]
    by_cases d : A 1 a 3 < A 1 b 3
    · rw [if_neg (Int32.not_le.mpr d), decide_eq_true d]; rfl
    · rw [if_pos (Int32.not_lt.mp d), decide_eq_false d]; rfl
/-- one comes in among those that stay -/
def g_inl (L : List Nat) (j s : Nat) : List Nat := L.take j ++ s :: L.drop j
theorem g_inl_e {L : List Nat} {j s x : Nat} (hj : j ≤ L.length) : g_el (g_inl L j s) x = if x < j then g_el L x else if x = j then s else g_el L (x - 1) := by
  unfold g_el g_inl
  rw [List.getD_eq_getElem?_getD, List.getElem?_append]
  have hl : (L.take j).length = j := by rw [List.length_take]; omega
  rw [hl]
  by_cases c : x < j
  · rw [if_pos c, if_pos c, List.getElem?_take, if_pos c, ← List.getD_eq_getElem?_getD]
  · rw [if_neg c, if_neg c]
    by_cases d : x = j
    · rw [if_pos d, d, Nat.sub_self]; rfl
    · rw [if_neg d, show x - j = (x - 1 - j) + 1 by omega, List.getElem?_cons_succ, List.getElem?_drop, show j + (x - 1 - j) = x - 1 by omega, ← List.getD_eq_getElem?_getD]
theorem g_inl_l {L : List Nat} {j s : Nat} (hj : j ≤ L.length) : (g_inl L j s).length = L.length + 1 := by
  unfold g_inl
  rw [List.length_append, List.length_take, List.length_cons, List.length_drop]
  omega
theorem g_inl_m {L : List Nat} {j s x : Nat} : x ∈ g_inl L j s ↔ x = s ∨ x ∈ L := by
  have e : x ∈ L ↔ x ∈ L.take j ∨ x ∈ L.drop j := by
    rw [← List.mem_append, List.take_append_drop]
  unfold g_inl
  rw [List.mem_append, List.mem_cons, e]
  constructor
  · rintro (a | a | a)
    · exact Or.inr (Or.inl a)
    · exact Or.inl a
    · exact Or.inr (Or.inr a)
  · rintro (a | a | a)
    · exact Or.inr (Or.inl a)
    · exact Or.inl a
    · exact Or.inr (Or.inr a)
theorem g_pw {A : g_A} {L : List Nat} : L.Pairwise (fun a b => g_lt A a b = true) ↔ ∀ i j, i < j → j < L.length → g_lt A (g_el L i) (g_el L j) = true := by
  rw [List.pairwise_iff_getElem]
  constructor
  · intro h i j hij hj
    rw [g_el_lt hj, g_el_lt (by omega)]
    exact h i j (by omega) hj hij
  · intro h i j hi hj hij
    have := h i j hij hj
    rw [g_el_lt hj, g_el_lt hi] at this
    exact this
theorem g_inl_s {A : g_A} {L : List Nat} {j s : Nat} (hW : g_W A) (hL : g_sl2 A s L) (hs : s < 60) (hf : g_fu A s = true) (hl : g_la A s = true) (hj : j ≤ L.length) (h1 : ∀ y, j ≤ y → y < L.length → g_lt A s (g_el L y) = true) (h2 : j = 0 ∨ g_lt A s (g_el L (j - 1)) = false) : g_sl2 A (s + 1) (g_inl L j s) := by
  have lo : ∀ x, x < j → g_lt A (g_el L x) s = true := fun x hx => by
    have last : g_lt A (g_el L (j - 1)) s = true := by
      rcases h2 with h2 | h2
      · omega
      · obtain ⟨e1, e2, e3⟩ := g_sl2_e hL (i := j - 1) (by omega)
        exact g_lt_to hW hs (by omega) hf e2 hl e3 (by omega) h2
    by_cases d : x = j - 1
    · rw [d]; exact last
    · exact g_lt_tr (g_sl2_l hL (show x < j - 1 by omega) (by omega)) last
  refine ⟨g_pw.mpr (fun a b hab hb => ?_), fun x => ?_, by rw [g_inl_l hj]; have := hL.2.2; omega⟩
  · rw [g_inl_l hj] at hb
    rw [g_inl_e hj, g_inl_e hj]
    by_cases a1 : a < j
    · rw [if_pos a1]
      by_cases b1 : b < j
      · rw [if_pos b1]; exact g_sl2_l hL hab (by omega)
      · rw [if_neg b1]
        by_cases b2 : b = j
        · rw [if_pos b2]; exact lo a a1
        · rw [if_neg b2]; exact g_sl2_l hL (by omega) (by omega)
    · rw [if_neg a1, if_neg (show ¬ b < j by omega), if_neg (show ¬ b = j by omega)]
      by_cases a2 : a = j
      · rw [if_pos a2]; exact h1 _ (by omega) (by omega)
      · rw [if_neg a2]; exact g_sl2_l hL (by omega) (by omega)
  · rw [g_inl_m, hL.2.1]
    constructor
    · rintro (a | ⟨a, b, c⟩)
      · subst a; exact ⟨Nat.lt_succ_self _, hf, hl⟩
      · exact ⟨by omega, b, c⟩
    · rintro ⟨a, b, c⟩
      by_cases d : x = s
      · exact Or.inl d
      · exact Or.inr ⟨by omega, b, c⟩
theorem g_sl2_n {A : g_A} {L : List Nat} {s : Nat} (hL : g_sl2 A s L) (h : ¬ (g_fu A s = true ∧ g_la A s = true)) : g_sl2 A (s + 1) L := by
  refine ⟨hL.1, fun x => ?_, by have := hL.2.2; omega⟩
  rw [hL.2.1]
  constructor
  · rintro ⟨a, b, c⟩; exact ⟨by omega, b, c⟩
  · rintro ⟨a, b, c⟩
    by_cases d : x = s
    · subst d; exact absurd ⟨b, c⟩ h
    · exact ⟨by omega, b, c⟩
/-- the shift -/
def g_sh (hh : q_H) (n j : Nat) : q_H := (fun t f k x => if t = 37 ∧ f = 0 ∧ k = 7 ∧ j < x ∧ x ≤ n then hh.1 37 0 7 (x - 1) else hh.1 t f k x, hh.2)
theorem g_sh_0 {hh : q_H} {n : Nat} : g_sh hh n n = hh := by
  unfold g_sh
  refine Prod.ext ?_ rfl
  funext t f k x
  dsimp only
  rw [if_neg (by omega)]
theorem g_sh_s {hh : q_H} {n j : Nat} (h1 : 1 ≤ j) (hj : j ≤ n) : q_si (g_sh hh n j) 37 0 7 j ((g_sh hh n j).1 37 0 7 (j - 1)) = g_sh hh n (j - 1) := by
  have e : (g_sh hh n j).1 37 0 7 (j - 1) = hh.1 37 0 7 (j - 1) := by
    unfold g_sh; dsimp only; rw [if_neg (by omega)]
  rw [e]
  unfold q_si g_sh
  refine Prod.ext ?_ rfl
  funext t f k x
  dsimp only
  by_cases c : t = 37 ∧ f = 0 ∧ k = 7 ∧ x = j
  · rw [if_pos c, if_pos (by omega), c.2.2.2]
  · rw [if_neg c]
    by_cases d : t = 37 ∧ f = 0 ∧ k = 7 ∧ j < x ∧ x ≤ n
    · rw [if_pos d, if_pos (by omega)]
    · rw [if_neg d, if_neg (by omega)]
/-- only the places of those that stay change -/
def g_f37 (h hh : q_H) : Prop := (∀ t f k j, ¬ (t = 37 ∧ f = 0 ∧ k = 7) → hh.1 t f k j = h.1 t f k j) ∧ hh.2 = h.2
theorem g_f37_sh {h hh : q_H} {n j : Nat} (x : g_f37 h hh) : g_f37 h (g_sh hh n j) := ⟨fun t f k i hn => by unfold g_sh; dsimp only; rw [if_neg (by omega)]; exact x.1 t f k i hn, x.2⟩
theorem g_f37_si {h hh : q_H} {j : Nat} {v : Int32} (x : g_f37 h hh) : g_f37 h (q_si hh 37 0 7 j v) := ⟨fun t f k i hn => by unfold q_si; dsimp only; rw [if_neg (by omega)]; exact x.1 t f k i hn, x.2⟩
theorem m_37r {h : q_H} {j : Nat} {A B : g_A} : (g_ma (g_ma h 32 A) 31 B).1 37 0 7 j = h.1 37 0 7 j := by rw [g_ma_ne (by decide), g_ma_ne (by decide)]
theorem m_37w {h : q_H} {j : Nat} {v : Int32} {A B : g_A} : q_si (g_ma (g_ma h 32 A) 31 B) 37 0 7 j v = g_ma (g_ma (q_si h 37 0 7 j v) 32 A) 31 B := by rw [g_ma_si_ne (by decide), g_ma_si_ne (by decide)]
theorem m_shift {hh : q_H} {A : g_A} {L : List Nat} {s : Nat} (hL : g_sl2 A s L) (hs : s < 60) (h37 : ∀ j, j < L.length → hh.1 37 0 7 j = nI (g_el L j)) : ∃ j, q_lp (fun s13 : Int32 × q_H => (if s13.1 ≤ 0 then (some (.inr ((s13.1, s13.2)))) else (bif q_in (s13.1 - (1 : Int32)) 60 then ((Mo_isAhead (nI s) (s13.2.1 37 0 7 (s13.1 - (1 : Int32)).toNatClampNeg) s13.2).bind fun x21 => if x21 = 0 then (some (.inr ((s13.1, s13.2)))) else (bif q_in (s13.1 - (1 : Int32)) 60 then (bif q_in s13.1 60 then (some (.inl ((s13.1 + (-1 : Int32)), (q_si s13.2 37 0 7 s13.1.toNatClampNeg (s13.2.1 37 0 7 (s13.1 - (1 : Int32)).toNatClampNeg))))) else none) else none)) else none) : Option ((Int32 × q_H) ⊕ (Int32 × q_H)))) q_fu ((nI L.length, g_ma (g_ma hh 32 A) 31 A) : Int32 × q_H) = some (nI j, g_ma (g_ma (g_sh hh L.length j) 32 A) 31 A) ∧ j ≤ L.length ∧ (∀ y, j ≤ y → y < L.length → g_lt A s (g_el L y) = true) ∧ (j = 0 ∨ g_lt A s (g_el L (j - 1)) = false) := by
  have hl := hL.2.2
  obtain ⟨r, e, j, er, h1, h2, h3⟩ := g_lpX (body := fun s13 : Int32 × q_H => (if s13.1 ≤ 0 then (some (.inr ((s13.1, s13.2)))) else (bif q_in (s13.1 - (1 : Int32)) 60 then ((Mo_isAhead (nI s) (s13.2.1 37 0 7 (s13.1 - (1 : Int32)).toNatClampNeg) s13.2).bind fun x21 => if x21 = 0 then (some (.inr ((s13.1, s13.2)))) else (bif q_in (s13.1 - (1 : Int32)) 60 then (bif q_in s13.1 60 then (some (.inl ((s13.1 + (-1 : Int32)), (q_si s13.2 37 0 7 s13.1.toNatClampNeg (s13.2.1 37 0 7 (s13.1 - (1 : Int32)).toNatClampNeg))))) else none) else none)) else none) : Option ((Int32 × q_H) ⊕ (Int32 × q_H))))
    (fun i y => y = (nI (L.length - i), g_ma (g_ma (g_sh hh L.length (L.length - i)) 32 A) 31 A) ∧ ∀ y, L.length - i ≤ y → y < L.length → g_lt A s (g_el L y) = true)
    (fun r => ∃ j, r = (nI j, g_ma (g_ma (g_sh hh L.length j) 32 A) 31 A) ∧ j ≤ L.length ∧ (∀ y, j ≤ y → y < L.length → g_lt A s (g_el L y) = true) ∧ (j = 0 ∨ g_lt A s (g_el L (j - 1)) = false)) L.length
    (fun i y hi ⟨e, hg⟩ => by
      subst e
      dsimp only
      have h1 : 1 ≤ L.length - i := by omega
      obtain ⟨e1, e2, e3⟩ := g_sl2_e hL (i := L.length - i - 1) (by omega)
      have rd : (g_sh hh L.length (L.length - i)).1 37 0 7 (L.length - i - 1) = nI (g_el L (L.length - i - 1)) := by
        rw [← h37 _ (by omega)]
        unfold g_sh; dsimp only; rw [if_neg (by omega)]
      rw [if_neg (show ¬ nI (L.length - i) ≤ 0 from nI_ge (a := 0) (b := L.length - i) h1 (by omega)), g_sub1 h1, g_inN (by omega) (by decide), g_inN (by omega) (by decide), g_cl (by omega), g_cl (by omega), m_37r, rd, m_isAhead hs (by omega)]
      simp only [Option.bind_some, cond_true]
      cases lt : g_lt A s (g_el L (L.length - i - 1)) with
      | false =>
        rw [if_pos (by rfl)]
        exact Or.inr ⟨_, rfl, L.length - i, rfl, by omega, hg, Or.inr lt⟩
      | true =>
        rw [if_neg (by decide), m_37w, ← rd, g_sh_s h1 (by omega)]
        refine Or.inl ⟨_, rfl, ?_, fun y a b => ?_⟩
        · rw [show (-1 : Int32) = -(1 : Int32) from rfl, ← Int32.sub_eq_add_neg, g_sub1 h1, show L.length - (i + 1) = L.length - i - 1 by omega]
        · by_cases d : y = L.length - i - 1
          · rw [d]; exact lt
          · exact hg y (by omega) b)
    (fun y ⟨e, hg⟩ => by
      subst e
      dsimp only
      rw [Nat.sub_self, if_pos (show nI 0 ≤ 0 by decide)]
      exact ⟨_, rfl, 0, rfl, Nat.zero_le _, fun y _ b => hg y (by omega) b, Or.inl rfl⟩) (nI L.length, g_ma (g_ma hh 32 A) 31 A) q_fu (by unfold q_fu; omega) ⟨by rw [Nat.sub_zero, g_sh_0], fun y a b => by omega⟩
  exact ⟨j, by rw [e, er], h1, h2, h3⟩
theorem m_staying {h : q_H} {A : g_A} (hW : g_W A) : ∃ L hh, Mo_staying (g_ma (g_ma h 32 A) 31 A) = some (nI L.length, g_ma (g_ma hh 32 A) 31 A) ∧ g_f37 h hh ∧ g_sl2 A 60 L ∧ ∀ j, j < L.length → hh.1 37 0 7 j = nI (g_el L j) := by
  obtain ⟨wt, wq, wl, wv, wc, wL, wT, wE, wF⟩ := hW.1
  unfold Mo_staying
  obtain ⟨r, e, L, hh, er, h1, h2, h3⟩ := g_lpH (body := fun s1 : Int32 × Int32 × q_H => (if (60 : Int32) ≤ s1.2.1 then (some (.inr ((s1.1, s1.2.2)))) else ((Mo_isVersion s1.2.1 s1.2.2).bind fun x9 => if x9 = 0 then (some (.inl (s1.1, (s1.2.1 + (1 : Int32)), s1.2.2))) else ((Mo_lives s1.2.1 s1.2.2).bind fun x11 => if ¬ x11 = 0 then ((q_lp (fun s13 : Int32 × q_H => (if s13.1 ≤ 0 then (some (.inr ((s13.1, s13.2)))) else (bif q_in (s13.1 - (1 : Int32)) 60 then ((Mo_isAhead s1.2.1 (s13.2.1 37 0 7 (s13.1 - (1 : Int32)).toNatClampNeg) s13.2).bind fun x21 => if x21 = 0 then (some (.inr ((s13.1, s13.2)))) else (bif q_in (s13.1 - (1 : Int32)) 60 then (bif q_in s13.1 60 then (some (.inl ((s13.1 + (-1 : Int32)), (q_si s13.2 37 0 7 s13.1.toNatClampNeg (s13.2.1 37 0 7 (s13.1 - (1 : Int32)).toNatClampNeg))))) else none) else none)) else none) : Option ((Int32 × q_H) ⊕ (Int32 × q_H)))) q_fu ((s1.1, s1.2.2) : Int32 × q_H)).bind fun p28 => bif q_in p28.1 60 then (some (.inl ((s1.1 + (1 : Int32)), (s1.2.1 + (1 : Int32)), (q_si p28.2 37 0 7 p28.1.toNatClampNeg s1.2.1)))) else none) else (some (.inl (s1.1, (s1.2.1 + (1 : Int32)), s1.2.2))))) : Option ((Int32 × Int32 × q_H) ⊕ (Int32 × q_H))))
    (fun i y => ∃ L hh, y = (nI L.length, nI i, g_ma (g_ma hh 32 A) 31 A) ∧ g_f37 h hh ∧ g_sl2 A i L ∧ ∀ j, j < L.length → hh.1 37 0 7 j = nI (g_el L j))
    (fun r => ∃ L hh, r = (nI L.length, g_ma (g_ma hh 32 A) 31 A) ∧ g_f37 h hh ∧ g_sl2 A 60 L ∧ ∀ j, j < L.length → hh.1 37 0 7 j = nI (g_el L j)) 60
    (fun i y hi ⟨L, hh, e, hf, hL, h37⟩ => by
      subst e
      dsimp only
      have e0 : (nI i + (1 : Int32)) = nI (i + 1) := nI_1 i
      have hl := hL.2.2
      rw [if_neg (show ¬ (60 : Int32) ≤ nI i from nI_ge (b := 60) hi (by decide)), m_isVersion hi wl]
      simp only [Option.bind_some]
      cases f : g_fu A i with
      | false =>
        rw [if_pos (by rfl), e0]
        exact ⟨_, rfl, L, hh, rfl, hf, g_sl2_n hL (fun q => by rw [f] at q; cases q.1), h37⟩
      | true =>
        rw [if_neg (by decide), m_lives hi wt (wv i hi f)]
        simp only [Option.bind_some]
        cases l : g_la A i with
        | false =>
          rw [if_neg (by decide), e0]
          exact ⟨_, rfl, L, hh, rfl, hf, g_sl2_n hL (fun q => by rw [l] at q; cases q.2), h37⟩
        | true =>
          rw [if_pos (by decide)]
          obtain ⟨j, e1, j1, j2, j3⟩ := m_shift hL hi h37
          rw [e1]
          simp only [Option.bind_some]
          rw [g_inN (by omega) (by decide), cond_true, e0, g_cl (by omega), m_37w, show nI L.length + (1 : Int32) = nI (L.length + 1) from nI_1 _]
          refine ⟨_, rfl, g_inl L j i, q_si (g_sh hh L.length j) 37 0 7 j (nI i), by rw [g_inl_l j1], g_f37_si (g_f37_sh hf), g_inl_s hW hL hi f l j1 j2 j3, fun x hx => ?_⟩
          rw [g_inl_l j1] at hx
          rw [g_inl_e j1]
          unfold q_si g_sh
          dsimp only
          by_cases c : x = j
          · rw [if_pos ⟨rfl, rfl, rfl, c⟩, if_neg (by omega), if_pos c]
          · rw [if_neg (fun q => c q.2.2.2)]
            by_cases d : x < j
            · rw [if_neg (by omega), if_pos d]; exact h37 x (by omega)
            · rw [if_pos ⟨rfl, rfl, rfl, by omega, by omega⟩, if_neg d, if_neg c]; exact h37 (x - 1) (by omega))
    (fun y ⟨L, hh, e, hf, hL, h37⟩ => by
      subst e
      dsimp only
      rw [if_pos (show (60 : Int32) ≤ nI 60 from Int32.le_refl _)]
      exact ⟨_, rfl, L, hh, rfl, hf, hL, h37⟩) ((0 : Int32), (0 : Int32), g_ma (g_ma h 32 A) 31 A) q_fu (by unfold q_fu; omega) ⟨[], h, rfl, ⟨fun _ _ _ _ _ => rfl, rfl⟩, ⟨List.Pairwise.nil, fun x => ⟨fun q => absurd q (List.not_mem_nil), fun q => absurd q.1 (Nat.not_lt_zero x)⟩, Nat.le_refl _⟩, fun j hj => absurd hj (Nat.not_lt_zero j)⟩
  refine ⟨L, hh, ?_, h1, h2, h3⟩
  rw [e, er]; rfl
