/-! which pages are clear -/
def g_fa (z : Nat) (A : g_A) (s : Nat) : Bool := (decide (A 1 s 11 = 1) || (decide (A 3 (g_mk A s) 0 = 1) && decide (g_mk A s < z))) && decide (g_eo A s = 0)
def g_ok (z : Nat) (A : g_A) (s : Nat) : Bool := decide (A 1 s 0 = 0) || (decide (A 1 s 0 = 1) && g_fa z A s)
def g_cL (z : Nat) (A : g_A) (p : Nat) : Bool := decide (∀ j, j < g_ln A p → g_ok z A (10 * p + j) = true)
theorem g_cL_f {z p j : Nat} {A : g_A} (hj : j < g_ln A p) (h : g_ok z A (10 * p + j) = false) : g_cL z A p = false := decide_eq_false (fun y => by rw [y j hj] at h; cases h)
theorem c_isUnended {H : q_H} {k s : Nat} {A : g_A} (hR : r_t (g_st H k) A) (wt : g_wt A) (hr : r_s (g_st H k) A s) (hw : g_ws A s) (hf : g_fu A s = true) : St_isUnended k k s H = some (q_bi (decide (g_eo A s = 0))) := by
  have r7 : H.1 3 7 k s = A 1 s 7 := (hr.1 hf).2.2.2.2.2.2.2.1
  unfold St_isUnended g_eo
  rw [r7]
  rcases hw.2.2.1 with ⟨e, n⟩ | ⟨e, n⟩
  · rw [e, if_pos rfl, n, if_neg (fun y => y.1 rfl)]; rfl
  · have n1 := n.1
    have n2 := n.2
    have w3 := wt.2.2
    rw [e, if_neg (fun y => nI_pos (n := g_en A s) (by omega) (by rw [y]; decide)), c_so hR wt n.1 n.2]
    simp only [Option.bind_some]
    by_cases d : A 3 (g_en A s) 0 = 2
    · rw [if_neg (fun y => y d), if_neg (fun y => y.2 d)]; rfl
    · rw [if_pos d, if_pos ⟨by omega, d⟩, decide_eq_false (by omega)]; rfl
theorem c_isForAll {H : q_H} {k s z : Nat} {A : g_A} (hR : r_t (g_st H k) A) (wt : g_wt A) (hr : r_s (g_st H k) A s) (hw : g_ws A s) (hf : g_fu A s = true) (hh : H.1 6 5 k 0 = nI z) (hz : z < 1000) : St_isForAll k k s H = some (q_bi (g_fa z A s)) := by
  have r6 : H.1 3 6 k s = A 1 s 6 := (hr.1 hf).2.2.2.2.2.2.1
  have r11 : H.1 3 11 k s = A 1 s 11 := (hr.1 hf).2.2.2.2.2.2.2.2.2.2
  have n1 := hw.2.1.1
  have n2 := hw.2.1.2
  have w3 := wt.2.2
  unfold St_isForAll g_fa
  rw [c_isUnended hR wt hr hw hf, r6, r11, hw.1, c_so hR wt n1 n2, hh]
  simp only [Option.bind_some]
  have e9 : (if ¬ A 3 (g_mk A s) 0 = (1 : Int32) then (some ((0 : Int32))) else (if nI z ≤ nI (g_mk A s) then (some ((0 : Int32))) else (some ((1 : Int32))))) = some (q_bi (decide (A 3 (g_mk A s) 0 = 1) && decide (g_mk A s < z))) := by
    by_cases c : A 3 (g_mk A s) 0 = 1
    · rw [if_neg (fun y => y c), decide_eq_true c]
      by_cases d : g_mk A s < z
      · rw [if_neg (nI_ge d (by omega)), decide_eq_true d]; rfl
      · rw [if_pos (nI_le (by omega) (by omega)), decide_eq_false d]; rfl
    · rw [if_pos c, decide_eq_false c]; rfl
  rw [e9]
  simp only [Option.bind_some]
  rcases hw.2.2.2.2.2 with w | w
  · rw [w, if_neg (fun y => y rfl), show decide ((0 : Int32) = 1) = false by decide, Bool.false_or]
    cases (decide (A 3 (g_mk A s) 0 = 1) && decide (g_mk A s < z)) with
    | false => rfl
    | true => cases decide (g_eo A s = 0) <;> rfl
  · rw [w, if_pos (show ¬ (1 : Int32) = 0 by decide), show decide ((1 : Int32) = 1) = true by decide, Bool.true_or, Bool.true_and]
    simp only [Option.bind_some]
    cases decide (g_eo A s = 0) <;> rfl
theorem c_isClearNow {bb : Nat} {H : q_H} {k p : Nat} {A : g_A} (hW : g_W A) (hR : g_R bb (g_st H k) A) (hp : p < 6) : St_isClearNow k (nI p) H = some (q_bi (g_cL (g_hz A) A p)) := by
  obtain ⟨wt, wq, wl, wv, wc, wL, wT, wE, wF⟩ := hW.1
  have h10 := (wl p hp).2
  have hz : g_hz A < 1000 := by have := g_hb_le (A := A) (b := 0); have := wt.2.2; unfold g_hz; omega
  unfold St_isClearNow
  obtain ⟨r, e, er⟩ := g_lpX (body := fun s1 : Int32 => (if (10 : Int32) ≤ s1 then (some (.inr ((1 : Int32)))) else ((Pg_at k ((nI p * (10 : Int32)) + s1) H).bind fun x9 => Option.bind (α := (Unit) ⊕ ((Int32) ⊕ Int32)) (if (H.1 3 0 k x9) = 0 then (some (.inl ())) else (if ¬ (H.1 3 0 k x9) = (1 : Int32) then (some (.inr (.inr ((0 : Int32))))) else ((St_isForAll k k x9 H).bind fun x15 => if ¬ x15 = 0 then (some (.inl ())) else (some (.inr (.inr ((0 : Int32)))))))) (fun z11 => match z11 with | .inl p20 => some (.inl (s1 + (1 : Int32))) | .inr z11 => some z11)) : Option ((Int32) ⊕ Int32))) (fun i z => z = nI i ∧ ∀ j, j < i → j < g_ln A p → g_ok (g_hz A) A (10 * p + j) = true) (fun r => r = q_bi (g_cL (g_hz A) A p)) 10 (fun i z hi ⟨e, h⟩ => by
      subst e
      have hs : 10 * p + i < 60 := by omega
      have hr := (hR.2.2.2.1 p hp).2.2 i hi
      have hiv := g_iv_pj (A := A) (p := p) hi
      rw [if_neg (show ¬ (10 : Int32) ≤ nI i from nI_ge (b := 10) hi (by decide)), show (10 : Int32) = nI 10 from rfl, pk_mul, nI_add, show p * 10 + i = 10 * p + i by omega, c_at hs]
      simp only [Option.bind_some]
      have go : (i < g_ln A p → g_ok (g_hz A) A (10 * p + i) = true) → nI (i + 1) = nI (i + 1) ∧ ∀ j, j < i + 1 → j < g_ln A p → g_ok (g_hz A) A (10 * p + j) = true := fun hk => ⟨rfl, fun j hj hl => by
        by_cases d : j = i
        · subst d; exact hk hl
        · exact h j (by omega) hl⟩
      cases f : g_fu A (10 * p + i) with
      | true =>
        obtain ⟨fi, fk⟩ := g_fu_iv f
        have hil : i < g_ln A p := by rw [fi] at hiv; exact of_decide_eq_true hiv.symm
        have k1 : H.1 3 0 k (10 * p + i) = 1 := (hr.1 f).1
        have eok : g_ok (g_hz A) A (10 * p + i) = g_fa (g_hz A) A (10 * p + i) := by
          unfold g_ok
          rw [fk, show decide ((1 : Int32) = 0) = false by decide, show decide ((1 : Int32) = 1) = true by decide, Bool.false_or, Bool.true_and]
        rw [k1, if_neg (show ¬ (1 : Int32) = 0 by decide), if_neg (show ¬ ¬ (1 : Int32) = 1 by decide), c_isForAll hR.2.1 wt hr (wv _ hs f) f hR.2.2.1 hz]
        simp only [Option.bind_some]
        cases g : g_fa (g_hz A) A (10 * p + i) with
        | true =>
          rw [if_pos (show ¬ q_bi true = 0 by decide)]
          refine Or.inl ⟨_, rfl, ?_⟩
          rw [nI_1]
          exact go (fun _ => eok.trans g)
        | false =>
          rw [if_neg (show ¬ ¬ q_bi false = 0 by decide)]
          refine Or.inr ⟨_, rfl, ?_⟩
          rw [g_cL_f hil (eok.trans g)]; rfl
      | false =>
        have k1 : H.1 3 0 k (10 * p + i) = (if g_iv A (10 * p + i) = true then A 1 (10 * p + i) 0 else 0) := (hr.2 f).1
        rw [k1]
        by_cases c : i < g_ln A p
        · rw [decide_eq_true c] at hiv
          rw [if_pos hiv]
          by_cases d : A 1 (10 * p + i) 0 = 0
          · rw [if_pos d]
            refine Or.inl ⟨_, rfl, ?_⟩
            rw [nI_1]
            exact go (fun _ => by unfold g_ok; rw [decide_eq_true d]; rfl)
          · have d1 : A 1 (10 * p + i) 0 ≠ 1 := fun y => by unfold g_fu at f; rw [hiv, decide_eq_true y] at f; cases f
            rw [if_neg d, if_pos d1]
            refine Or.inr ⟨_, rfl, ?_⟩
            rw [g_cL_f c (by unfold g_ok; rw [decide_eq_false d, decide_eq_false d1]; rfl)]; rfl
        · rw [decide_eq_false c] at hiv
          rw [if_neg (show ¬ g_iv A (10 * p + i) = true by rw [hiv]; decide), if_pos rfl]
          refine Or.inl ⟨_, rfl, ?_⟩
          rw [nI_1]
          exact go (fun y => absurd y c))
    (fun z ⟨e, h⟩ => by
      subst e
      rw [if_pos (show (10 : Int32) ≤ nI 10 from Int32.le_refl _)]
      refine ⟨_, rfl, ?_⟩
      unfold g_cL
      rw [decide_eq_true (fun j hj => h j (by omega) hj)]; rfl) (0 : Int32) q_fu (by unfold q_fu; omega) ⟨rfl, fun j hj => by omega⟩
  rw [← er]
  exact g_bs e
theorem m_isClear {h : q_H} {p z : Nat} {A : g_A} (hW : g_W A) (hp : p < 6) (hz : z < 1000) : Mo_isClear (nI p) (nI z) (g_ma h 31 A) = some (q_bi (g_cL z A p)) := by
  obtain ⟨wt, wq, wl, wv, wc, wL, wT, wE, wF⟩ := hW.1
  have h10 := (wl p hp).2
  have w3 := wt.2.2
  unfold Mo_isClear
  rw [m_b1 hp, m_b2 wl hp, m_b3 wl hp, m_b4]
  simp only [cond_true]
  obtain ⟨r, e, er⟩ := g_lpX (body := fun s1 : Int32 => (if nI (10 * p + g_ln A p) ≤ s1 then (some (.inr ((1 : Int32)))) else ((Mo_of s1 (0 : Int32) (g_ma h 31 A)).bind fun x9 => Option.bind (α := (Unit) ⊕ ((Int32) ⊕ Int32)) (if ¬ x9 = 0 then ((Mo_isFull s1 (g_ma h 31 A)).bind fun x15 => Option.bind (α := Int32) (if x15 = 0 then (some ((0 : Int32))) else ((Mo_of s1 (11 : Int32) (g_ma h 31 A)).bind fun x21 => if x21 = (1 : Int32) then (some ((1 : Int32))) else ((Mo_of s1 (6 : Int32) (g_ma h 31 A)).bind fun x23 => (Mo_stateOf x23 (g_ma h 31 A)).bind fun x25 => if ¬ x25 = (1 : Int32) then (some ((0 : Int32))) else ((Mo_of s1 (6 : Int32) (g_ma h 31 A)).bind fun x27 => if nI z ≤ x27 then (some ((0 : Int32))) else (some ((1 : Int32))))))) (fun p33 => if p33 = 0 then (some (.inr (.inr ((0 : Int32))))) else ((Mo_enderOf s1 (g_ma h 31 A)).bind fun x34 => if x34 ≤ 0 then (some (.inl ())) else (some (.inr (.inr ((0 : Int32)))))))) else (some (.inl ()))) (fun z11 => match z11 with | .inl p40 => some (.inl (s1 + (1 : Int32))) | .inr z11 => some z11)) : Option ((Int32) ⊕ Int32))) (fun i s => s = nI (10 * p + i) ∧ ∀ j, j < i → g_ok z A (10 * p + j) = true) (fun r => r = q_bi (g_cL z A p)) (g_ln A p) (fun i s hi ⟨e, hk⟩ => by
      subst e
      have hs : 10 * p + i < 60 := by omega
      have hiv : g_iv A (10 * p + i) = true := by rw [g_iv_pj (by omega)]; exact decide_eq_true hi
      rw [if_neg (nI_ge (by omega) (by omega)), m_of0 hs]
      simp only [Option.bind_some]
      have go : g_ok z A (10 * p + i) = true → nI (10 * p + i) + 1 = nI (10 * p + (i + 1)) ∧ ∀ j, j < i + 1 → g_ok z A (10 * p + j) = true := fun ok => ⟨nI_1 _, fun j hj => by
        by_cases d : j = i
        · subst d; exact ok
        · exact hk j (by omega)⟩
      by_cases c : A 1 (10 * p + i) 0 = 0
      · rw [if_neg (fun y => y c)]
        exact Or.inl ⟨_, rfl, go (by unfold g_ok; rw [decide_eq_true c]; rfl)⟩
      · rw [if_pos c, m_isFull hs]
        simp only [Option.bind_some]
        by_cases d : A 1 (10 * p + i) 0 = 1
        · have f := g_fu_i hiv d
          have hw := wv _ hs f
          have n2 := hw.2.1.2
          rw [decide_eq_true d, if_neg (show ¬ q_bi true = 0 by decide), m_of11 hs, m_of6 hs]
          simp only [Option.bind_some]
          rw [hw.1, m_stateOf (by omega)]
          simp only [Option.bind_some]
          have e33 : (if A 1 (10 * p + i) 11 = (1 : Int32) then (some ((1 : Int32))) else (if ¬ A 3 (g_mk A (10 * p + i)) 0 = (1 : Int32) then (some ((0 : Int32))) else (if nI z ≤ nI (g_mk A (10 * p + i)) then (some ((0 : Int32))) else (some ((1 : Int32)))))) = some (q_bi (decide (A 1 (10 * p + i) 11 = 1) || (decide (A 3 (g_mk A (10 * p + i)) 0 = 1) && decide (g_mk A (10 * p + i) < z)))) := by
            by_cases c1 : A 1 (10 * p + i) 11 = 1
            · rw [if_pos c1, decide_eq_true c1]; rfl
            · rw [if_neg c1, decide_eq_false c1]
              by_cases c2 : A 3 (g_mk A (10 * p + i)) 0 = 1
              · rw [if_neg (fun y => y c2), decide_eq_true c2]
                by_cases c3 : g_mk A (10 * p + i) < z
                · rw [if_neg (nI_ge c3 (by omega)), decide_eq_true c3]; rfl
                · rw [if_pos (nI_le (by omega) (by omega)), decide_eq_false c3]; rfl
              · rw [if_pos c2, decide_eq_false c2]; rfl
          rw [e33, m_enderOf hs wt hw]
          simp only [Option.bind_some]
          have eok : g_ok z A (10 * p + i) = g_fa z A (10 * p + i) := by
            unfold g_ok
            rw [d, show decide ((1 : Int32) = 0) = false by decide, show decide ((1 : Int32) = 1) = true by decide, Bool.false_or, Bool.true_and]
          have eo60 : g_eo A (10 * p + i) < 61 := by
            unfold g_eo
            split
            · rcases hw.2.2.1 with y | y
              · rw [y.2]; omega
              · have := y.2.2; omega
            · omega
          cases hq : (decide (A 1 (10 * p + i) 11 = 1) || (decide (A 3 (g_mk A (10 * p + i)) 0 = 1) && decide (g_mk A (10 * p + i) < z))) with
          | false =>
            rw [if_pos (show q_bi false = 0 by decide)]
            refine Or.inr ⟨_, rfl, ?_⟩
            rw [g_cL_f hi (by rw [eok]; unfold g_fa; rw [hq]; rfl)]; rfl
          | true =>
            rw [if_neg (show ¬ q_bi true = 0 by decide)]
            by_cases g : g_eo A (10 * p + i) = 0
            · rw [g, if_pos (show g_pe 0 ≤ 0 by decide)]
              refine Or.inl ⟨_, rfl, go ?_⟩
              rw [eok]; unfold g_fa; rw [hq, decide_eq_true g]; rfl
            · have : g_pe (g_eo A (10 * p + i)) = nI (g_eo A (10 * p + i)) := if_neg g
              rw [this, if_neg (nI_nle (by omega) (by omega))]
              refine Or.inr ⟨_, rfl, ?_⟩
              rw [g_cL_f hi (by rw [eok]; unfold g_fa; rw [hq, decide_eq_false g]; rfl)]; rfl
        · rw [decide_eq_false d, if_pos (show q_bi false = 0 by decide)]
          simp only [Option.bind_some]
          rw [if_pos True.intro]
          refine Or.inr ⟨_, rfl, ?_⟩
          rw [g_cL_f hi (by unfold g_ok; rw [decide_eq_false c, decide_eq_false d]; rfl)]; rfl)
    (fun s ⟨e, hk⟩ => by
      subst e
      rw [if_pos (Int32.le_refl _)]
      refine ⟨_, rfl, ?_⟩
      unfold g_cL
      rw [decide_eq_true (fun j hj => hk j hj)]; rfl) (nI (10 * p)) q_fu (by unfold q_fu; omega) ⟨rfl, fun j hj => by omega⟩
  rw [← er]
  exact g_bs e
