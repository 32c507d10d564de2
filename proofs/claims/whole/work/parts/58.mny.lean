/-! how many there are of a kind; who was made when -/
def g_om (A : g_A) : Int32 := g_sm (fun t => q_bi (g_op A t)) 1 (g_nx A - 1)
def g_wm (A : g_A) : Int32 := g_sm (fun t => q_bi (decide (0 < A 6 t 0))) 1 (g_nx A - 1)
def g_ho (A : g_A) : Nat := g_fst (fun t => g_op A t && decide (g_lo A t = g_hz A)) 1 (g_nx A - 1)
def g_ah (A : g_A) (row : Int32) (s : Nat) : Int32 := g_sm (fun k => q_bi ((g_fu A k && decide (A 1 k 2 = row)) && decide (A 1 k 12 < A 1 s 12))) 0 60
def g_pm (A : g_A) (row i : Int32) : Nat := g_fst (fun s => (g_fu A s && decide (A 1 s 2 = row)) && decide (g_ah A row s = i)) 0 60
def g_mp (A : g_A) (w : Int32) (s : Nat) : Bool := if w = 7 then g_fu A s else if w = 8 then g_fu A s && g_de A (g_hz A) s else if w = 9 then g_fu A s && g_dy A (g_hz A) s else if w = 10 then g_fu A s && decide (A 1 s 11 = 1) else if w = 11 then g_fu A s && decide (A 1 s 10 = 1) else if w = 12 then g_iv A s && decide (A 1 s 0 = 3) else g_iv A s && decide (A 1 s 0 = 2)
def g_mo (A : g_A) (w : Int32) : Int32 := g_sm (fun s => q_bi (g_mp A w s)) 0 60
/-- order in which versions were made -/
def r_m (b : Nat) (S : g_S) (A : g_A) : Prop := (∃ x y, S.1 0 8 0 = nI x ∧ A 0 8 0 = nI y ∧ x ≤ b ∧ y ≤ b ∧ ∀ s, s < 60 → g_fu A s = true → S.1 3 9 s = nI (g_cm S s) ∧ A 1 s 12 = nI (g_mm A s) ∧ g_cm S s < x ∧ g_mm A s < y) ∧ ∀ s s', s < 60 → s' < 60 → g_fu A s = true → g_fu A s' = true → (g_cm S s < g_cm S s' ↔ g_mm A s < g_mm A s')
theorem g_hz_lt {A : g_A} (ht : g_wt A) : g_hz A < 1000 := by
  have := @g_hb_le A 0
  have := ht.2.2
  unfold g_hz; omega
theorem g_add0 {x : Int32} {f : Bool} (h : f = false) : x = x + q_bi f := by rw [h, show q_bi false = 0 from rfl, Int32.add_zero]
theorem g_bd {α β : Type} {x : Option α} {f : α → Option β} {r : α} {y : Option β} (h : x = some r) (h2 : f r = y) : x.bind f = y := by rw [h]; exact h2
section g_M
variable {h : q_H} {A : g_A}
theorem m_openMany (ht : g_wt A) : Mo_openMany (g_ma h 31 A) = some (g_om A) := by
  obtain ⟨e, h1, h2⟩ := ht
  unfold Mo_openMany
  rw [m_g (by omega), e]
  refine g_bs (g_lpC0 (fun t => q_bi (g_op A t)) 1 (g_nx A - 1) rfl (fun i x a b => ?_) (fun x => ?_) (by unfold q_fu; omega))
  · dsimp only
    rw [if_neg (nI_ge (by omega) (by omega)), m_isOpen (by omega), nI_1]
    cases g_op A i <;> rfl
  · dsimp only
    have : 1 + (g_nx A - 1) = g_nx A := by omega
    rw [this, if_pos (Int32.le_refl _)]
theorem m_waitMany (ht : g_wt A) : Mo_waitMany (g_ma h 31 A) = some (g_wm A) := by
  obtain ⟨e, h1, h2⟩ := ht
  unfold Mo_waitMany
  rw [m_g (by omega), e]
  refine g_bs (g_lpC0 (fun t => q_bi (decide (0 < A 6 t 0))) 1 (g_nx A - 1) rfl (fun i x a b => ?_) (fun x => ?_) (by unfold q_fu; omega))
  · dsimp only
    rw [if_neg (nI_ge (by omega) (by omega)), m_isWaiting (by omega), nI_1]
    cases decide (0 < A 6 i 0) <;> rfl
  · dsimp only
    have : 1 + (g_nx A - 1) = g_nx A := by omega
    rw [this, if_pos (Int32.le_refl _)]
theorem m_isDying {s : Nat} (hs : s < 60) (ht : g_wt A) (hw : g_ws A s) : Mo_isDying (nI s) (g_ma h 31 A) = some (q_bi (g_dy A (g_hz A) s)) := by
  unfold Mo_isDying g_dy
  have t3 := ht.2.2
  rw [m_enderOf hs ht hw]
  simp only [Option.bind_some]
  by_cases c : g_en A s = 0
  · have : g_eo A s = 0 := if_neg (fun q => q.1 c)
    rw [this, if_pos (by decide), decide_eq_false (fun q => q c)]; rfl
  · obtain ⟨e, t1, t2⟩ := g_ws_en hw c
    rw [decide_eq_true c]
    by_cases d : A 3 (g_en A s) 0 = 2
    · have : g_eo A s = 0 := if_neg (fun q => q.2 d)
      rw [this, if_pos (by decide), d]; rfl
    · have : g_eo A s = g_en A s := if_pos ⟨c, d⟩
      rw [this, if_neg (fun q => c ((g_pe0 (by omega)).mp q))]
      have e2 : g_pe (g_en A s) = nI (g_en A s) := if_neg c
      rw [e2, m_stateOf (by omega)]
      simp only [Option.bind_some]
      by_cases f : A 3 (g_en A s) 0 = 1
      · rw [if_neg (fun q => q f), decide_eq_true f, m_horizon ht]
        simp only [Option.bind_some]
        rw [m_isDead hs ht hw (g_hz_lt ht)]
        simp only [Option.bind_some]
        cases g_de A (g_hz A) s <;> rfl
      · rw [if_pos f, decide_eq_false f]; rfl
theorem m_madeAs {row i : Int32} (hl : g_wl A) : Mo_madeAs row i (g_ma h 31 A) = some (g_pp (g_pm A row i)) := by
  unfold Mo_madeAs
  refine g_bs ?_
  refine g_lpB (fun s => (g_fu A s && decide (A 1 s 2 = row)) && decide (g_ah A row s = i)) (fun i => nI i) 0 60 (fun i => g_pp i) rfl (fun s a b => ?_) rfl (by unfold q_fu; omega)
  rw [if_neg (show ¬ (60 : Int32) ≤ nI s from nI_ge (b := 60) (by omega) (by decide)), m_isVersion (by omega) hl]
  simp only [Option.bind_some]
  have e : g_pp s = nI s := if_pos (by omega)
  rw [e]
  cases f : g_fu A s with
  | false => rw [if_pos (by rfl), nI_1]; rfl
  | true =>
    rw [if_neg (by decide), m_of2 (by omega)]
    simp only [Option.bind_some]
    by_cases c : A 1 s 2 = row
    · rw [if_pos c, decide_eq_true c]
      refine g_bd (g_lpC0 (fun k => q_bi ((g_fu A k && decide (A 1 k 2 = row)) && decide (A 1 k 12 < A 1 s 12))) 0 60 rfl (fun j x a b => ?_) (fun x => rfl) (by decide)) ?_
      · dsimp only
        rw [if_neg (show ¬ (60 : Int32) ≤ nI j from nI_ge (b := 60) (by omega) (by decide)), m_isVersion (by omega) hl, nI_1, m_of2 (by omega), m_of12 (by omega), m_of12 (by omega)]
        simp only [Option.bind_some]
        cases g_fu A j with
        | false => rfl
        | true =>
          rw [if_neg (by decide)]
          by_cases d : A 1 j 2 = row
          · rw [if_neg (fun q => q d), decide_eq_true d]
            by_cases g : A 1 j 12 < A 1 s 12
            · rw [if_neg (Int32.not_le.mpr g), decide_eq_true g]; rfl
            · rw [if_pos (Int32.not_lt.mp g), decide_eq_false g]; rfl
          · rw [if_pos d, decide_eq_false d]; rfl
      show (if ¬ g_ah A row s = i then some (Sum.inl (nI s + 1)) else some (Sum.inr (nI s))) = _
      by_cases d : g_ah A row s = i
      · rw [if_neg (fun q => q d), decide_eq_true d]; rfl
      · rw [if_pos d, decide_eq_false d, nI_1]; rfl
    · rw [if_neg c, decide_eq_false c, nI_1]; rfl
theorem m_manyOf {w : Int32} (hl : g_wl A) (ht : g_wt A) (hv : g_wv A) : Mo_manyOf w (g_ma h 31 A) = some (g_mo A w) := by
  unfold Mo_manyOf
  rw [m_horizon ht]
  simp only [Option.bind_some]
  refine g_bs (g_lpC0 (fun s => q_bi (g_mp A w s)) 0 60 rfl (fun s x a b => ?_) (fun x => rfl) (by decide))
  dsimp only
  have hs : s < 60 := by omega
  rw [if_neg (show ¬ (60 : Int32) ≤ nI s from nI_ge (b := 60) (by omega) (by decide)), m_isSlot hs hl, nI_1]
  simp only [Option.bind_some]
  cases hi : g_iv A s with
  | false =>
    have hf : g_fu A s = false := by unfold g_fu; rw [hi]; rfl
    have e : g_mp A w s = false := by unfold g_mp; rw [hf, hi]; simp
    rw [if_neg (fun q => q (by rfl))]
    simp only [Option.bind_some]
    exact congrArg (fun z => some (Sum.inl (z, nI (s + 1)))) (g_add0 e)
  | true =>
    rw [if_pos (by decide), m_of0 hs]
    simp only [Option.bind_some]
    by_cases hk : A 1 s 0 = 1
    · have hf : g_fu A s = true := g_fu_i hi hk
      have hw := hv s hs hf
      rw [if_neg (fun q => q hk)]
      simp only [Option.bind_some]
      rw [m_of10 hs, m_of11 hs, m_isDying hs ht hw, m_isDead hs ht hw (g_hz_lt ht), hk]
      unfold g_mp
      rw [hf, hi, hk]
      by_cases w7 : w = 7
      · subst w7; rfl
      · rw [if_pos w7, if_neg w7]
        by_cases w8 : w = 8
        · subst w8; cases g_de A (g_hz A) s <;> rfl
        · rw [if_pos w8, if_neg w8]
          by_cases w9 : w = 9
          · subst w9; cases g_dy A (g_hz A) s <;> rfl
          · rw [if_pos w9, if_neg w9]
            by_cases w10 : w = 10
            · subst w10
              by_cases d : A 1 s 11 = 1
              · rw [decide_eq_true d, d]; rfl
              · rw [decide_eq_false d]
                simp only [Option.bind_some]
                rw [if_neg (by decide), if_neg (by decide), if_pos d]; rfl
            · rw [if_pos w10, if_neg w10]
              by_cases w11 : w = 11
              · subst w11
                by_cases d : A 1 s 10 = 1
                · rw [decide_eq_true d, d]; rfl
                · rw [decide_eq_false d]
                  simp only [Option.bind_some]
                  rw [if_neg (by decide), if_neg (by decide), if_pos d]; rfl
              · rw [if_pos w11, if_neg w11]
                by_cases w12 : w = 12
                · subst w12; rfl
                · rw [if_pos w12, if_neg w12]; rfl
    · have hf : g_fu A s = false := by unfold g_fu; rw [decide_eq_false hk]; simp
      rw [if_pos hk]
      simp only [Option.bind_some]
      unfold g_mp
      rw [hf, hi]
      by_cases w7 : w = 7
      · subst w7; rfl
      · rw [if_pos w7, if_neg w7]
        by_cases w8 : w = 8
        · subst w8; rfl
        · rw [if_pos w8, if_neg w8]
          by_cases w9 : w = 9
          · subst w9; rfl
          · rw [if_pos w9, if_neg w9]
            by_cases w10 : w = 10
            · subst w10; rfl
            · rw [if_pos w10, if_neg w10]
              by_cases w11 : w = 11
              · subst w11; rfl
              · rw [if_pos w11, if_neg w11]
                by_cases w12 : w = 12
                · subst w12
                  by_cases d : A 1 s 0 = 3
                  · rw [d]; rfl
                  · rw [decide_eq_false d, if_neg (fun q => q rfl), if_pos d]; rfl
                · rw [if_pos w12, if_neg w12]
                  by_cases d : A 1 s 0 = 2
                  · rw [d]; rfl
                  · rw [decide_eq_false d, if_pos d]; rfl
end g_M
