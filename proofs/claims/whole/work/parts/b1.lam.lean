/-! counting; all laid anew in the reference -/
theorem g_cnt_ {P : Nat → Bool} {i0 : Nat} : ∀ n, n < 2 ^ 30 → ∃ c, c ≤ n ∧ g_sm (fun t => q_bi (P t)) i0 n = nI c ∧ (c = 0 ↔ ∀ j, i0 ≤ j → j < i0 + n → P j = false) := by
  intro n
  induction n with
  | zero => intro _; exact ⟨0, Nat.le_refl _, rfl, fun _ j a b => by omega, fun _ => rfl⟩
  | succ n ih =>
    intro hn
    obtain ⟨c, c1, c2, c3⟩ := ih (by omega)
    have e : g_sm (fun t => q_bi (P t)) i0 (n + 1) = g_sm (fun t => q_bi (P t)) i0 n + q_bi (P (i0 + n)) := rfl
    rw [e, c2]
    cases p : P (i0 + n) with
    | false =>
      refine ⟨c, by omega, by rw [show q_bi false = 0 from rfl, Int32.add_zero], ?_⟩
      rw [c3]
      constructor
      · intro h j a b
        by_cases d : j = i0 + n
        · rw [d]; exact p
        · exact h j a (by omega)
      · intro h j a b; exact h j a (by omega)
    | true =>
      refine ⟨c + 1, by omega, nI_1 c, fun q => absurd q (Nat.succ_ne_zero c), fun h => ?_⟩
      have := h (i0 + n) (by omega) (by omega)
      rw [p] at this; cases this
theorem g_cnt {P : Nat → Bool} {i0 n : Nat} (hn : n < 2 ^ 30) : ∃ c, c ≤ n ∧ g_sm (fun t => q_bi (P t)) i0 n = nI c ∧ (c = 0 ↔ ∀ j, i0 ≤ j → j < i0 + n → P j = false) := g_cnt_ n hn
def g_ao (A : g_A) : Bool := decide (g_fst (g_op A) 1 (g_nx A - 1) < g_nx A)
theorem g_ao_om {A : g_A} (hw : g_wt A) : g_om A ≤ 0 ↔ g_ao A = false := by
  obtain ⟨e, h1, h2⟩ := hw
  obtain ⟨c, c1, c2, c3⟩ := g_cnt (P := g_op A) (i0 := 1) (n := g_nx A - 1) (by omega)
  unfold g_om g_ao
  rw [c2, decide_eq_false_iff_not]
  have l := g_fst_le (g_op A) (g_nx A - 1) 1
  constructor
  · intro h q
    have c0 : c = 0 := by
      by_cases d : c = 0
      · exact d
      · exact absurd h (nI_ge (a := 0) (b := c) (by omega) (by omega))
    have := c3.mp c0 _ l.1 (by omega)
    rw [g_fst_at (g_op A) (g_nx A - 1) 1 (by omega)] at this; cases this
  · intro h
    have : c = 0 := c3.mpr (fun j a b => g_fst_ne (g_op A) (g_nx A - 1) 1 j a (by omega))
    rw [this]; exact Int32.le_refl _
theorem m_isAnyOpen {h : q_H} {A : g_A} (hw : g_wt A) : Mo_isAnyOpen (g_ma h 31 A) = some (q_bi (g_ao A)) := by
  obtain ⟨e, h1, h2⟩ := hw
  unfold Mo_isAnyOpen
  rw [m_g (by omega), e]
  have := g_lpB (body := fun s1 : Int32 => (if nI (g_nx A) ≤ s1 then (some (.inr ((0 : Int32)))) else ((Mo_isOpen s1 (g_ma h 31 A)).bind fun x9 => if x9 = 0 then (some (.inl (s1 + (1 : Int32)))) else (some (.inr ((1 : Int32))))) : Option ((Int32) ⊕ Int32))) (s0 := (1 : Int32)) (g_op A) (fun i => nI i) 1 (g_nx A - 1) (fun i => q_bi (decide (i < g_nx A))) rfl (fun i a b => by
      rw [if_neg (nI_ge (by omega) (by omega)), m_isOpen (by omega)]
      simp only [Option.bind_some]
      cases o : g_op A i with
      | false => rw [if_pos (by rfl), show nI i + (1 : Int32) = nI (i + 1) from nI_1 i]; rfl
      | true => rw [if_neg (by decide), decide_eq_true (show i < g_nx A by omega)]; rfl) (by
      rw [show 1 + (g_nx A - 1) = g_nx A by omega, if_pos (Int32.le_refl _), decide_eq_false (Nat.lt_irrefl _)]; rfl) (by unfold q_fu; omega)
  rw [this]; rfl
def g_phs (A : g_A) : Int32 := g_sm (fun p => q_bi (decide (0 < g_ln A p))) 0 6
theorem g_ln_le {A : g_A} {p : Nat} (h10 : g_ln A p ≤ 10) : nI (g_ln A p) ≤ 0 ↔ ¬ 0 < g_ln A p := by
  constructor
  · intro h q; exact absurd h (nI_ge (a := 0) (b := g_ln A p) q (by omega))
  · intro h
    have : g_ln A p = 0 := by omega
    rw [this]; exact Int32.le_refl _
theorem c_howManyHaveSlots {H : q_H} {k : Nat} {A : g_A} (hP : ∀ p, p < 6 → r_p (g_st H k) A p) (hl : g_wl A) : Pg_howManyHaveSlots k H = some (g_phs A) := by
  unfold Pg_howManyHaveSlots
  refine g_bs (g_lpC0 (fun p => q_bi (decide (0 < g_ln A p))) 0 6 rfl (fun i x a b => ?_) (fun x => ?_) (by unfold q_fu; omega))
  · dsimp only
    rw [if_neg (show ¬ (6 : Int32) ≤ nI i from nI_ge (b := 6) (by omega) (by decide)), c_lengthOf (by omega) (hP i (by omega)) hl]
    simp only [Option.bind_some]
    by_cases c : 0 < g_ln A i
    · rw [if_neg (fun q => (g_ln_le (hl i (by omega)).2).mp q c), decide_eq_true c, show nI i + (1 : Int32) = nI (i + 1) from nI_1 i]; rfl
    · rw [if_pos ((g_ln_le (hl i (by omega)).2).mpr c), decide_eq_false c, show q_bi false = 0 from rfl, Int32.add_zero, show nI i + (1 : Int32) = nI (i + 1) from nI_1 i]; rfl
  · dsimp only
    rw [if_pos (show (6 : Int32) ≤ nI (0 + 6) by decide)]
theorem m_haveSlots {h : q_H} {A : g_A} (hl : g_wl A) : ((q_lp (fun s63 : Int32 × Int32 => (if (6 : Int32) ≤ s63.2 then (some (.inr ((s63.1, g_ma h 31 A)))) else (bif q_in ((17 : Int32) + s63.2) 1644 then (Option.bind (α := Int32) (if ((g_ma h 31 A).1 31 0 7 ((17 : Int32) + s63.2).toNatClampNeg) ≤ 0 then (some ((0 : Int32))) else (some ((1 : Int32)))) (fun p76 => some (.inl ((s63.1 + p76), (s63.2 + (1 : Int32)))))) else none) : Option ((Int32 × Int32) ⊕ (Int32 × q_H)))) q_fu (((0 : Int32), (0 : Int32)) : Int32 × Int32)).bind fun z70 => some z70) = some (g_phs A, g_ma h 31 A) := by
  refine g_bs (g_lpC (fun p => q_bi (decide (0 < g_ln A p))) 0 6 (fun x => (x, g_ma h 31 A)) rfl (fun i x a b => ?_) (fun x => ?_) (by unfold q_fu; omega))
  · dsimp only
    rw [if_neg (show ¬ (6 : Int32) ≤ nI i from nI_ge (b := 6) (by omega) (by decide)), m_b1 (by omega), m_b2 hl (by omega), cond_true]
    by_cases c : 0 < g_ln A i
    · rw [if_neg (fun q => (g_ln_le (hl i (by omega)).2).mp q c), decide_eq_true c, show nI i + (1 : Int32) = nI (i + 1) from nI_1 i]; rfl
    · rw [if_pos ((g_ln_le (hl i (by omega)).2).mpr c), decide_eq_false c, show nI i + (1 : Int32) = nI (i + 1) from nI_1 i]; rfl
  · dsimp only
    rw [if_pos (show (6 : Int32) ≤ nI (0 + 6) by decide)]
/-- all slots go -/
def g_stp (A : g_A) (n : Nat) : g_A := fun g i w => if g = 0 ∧ w = 0 ∧ ((17 ≤ i ∧ i < 17 + n) ∨ (23 ≤ i ∧ i < 23 + n)) then 0 else A g i w
theorem g_stp_0 {A : g_A} : g_stp A 0 = A := by
  unfold g_stp; funext g i w; rw [if_neg (by omega)]
theorem g_stp_s {A : g_A} {n : Nat} (hn : n < 6) : g_au (g_au (g_stp A n) 0 (17 + n) 0 0) 0 (23 + n) 0 0 = g_stp A (n + 1) := by
  unfold g_stp g_au
  funext g i w
  by_cases a : g = 0 ∧ i = 23 + n ∧ w = 0
  · rw [if_pos a, if_pos (by omega)]
  · rw [if_neg a]
    by_cases b : g = 0 ∧ i = 17 + n ∧ w = 0
    · rw [if_pos b, if_pos (by omega)]
    · rw [if_neg b]
      dsimp only
      by_cases c : g = 0 ∧ w = 0 ∧ ((17 ≤ i ∧ i < 17 + n) ∨ (23 ≤ i ∧ i < 23 + n))
      · rw [if_pos c, if_pos (by omega)]
      · rw [if_neg c, if_neg (by omega)]
theorem g_stp_e {A : g_A} : g_au (g_stp A 6) 0 5 0 0 = g_str A := by
  unfold g_stp g_str g_au
  funext g i w
  by_cases a : g = 0 ∧ i = 5 ∧ w = 0
  · rw [if_pos a, if_pos (by omega)]
  · rw [if_neg a]
    dsimp only
    by_cases c : g = 0 ∧ w = 0 ∧ ((17 ≤ i ∧ i < 17 + 6) ∨ (23 ≤ i ∧ i < 23 + 6))
    · rw [if_pos c, if_pos (by omega)]
    · rw [if_neg c, if_neg (by omega)]
theorem m_strip {h : q_H} {A : g_A} : q_lp (fun s7 : Int32 × q_H => (if (6 : Int32) ≤ s7.1 then (some (.inr (s7.2))) else (bif q_in ((17 : Int32) + s7.1) 1644 then (bif q_in ((23 : Int32) + s7.1) 1644 then (some (.inl ((s7.1 + (1 : Int32)), (q_si (q_si s7.2 31 0 7 ((17 : Int32) + s7.1).toNatClampNeg (0 : Int32)) 31 0 7 ((23 : Int32) + s7.1).toNatClampNeg (0 : Int32))))) else none) else none) : Option ((Int32 × q_H) ⊕ (q_H)))) q_fu (((0 : Int32), g_ma h 31 A) : Int32 × q_H) = some (g_ma h 31 (g_stp A 6)) := by
  have e0 : (((0 : Int32), g_ma h 31 A) : Int32 × q_H) = (nI 0, g_ma h 31 (g_stp A 0)) := by rw [g_stp_0]; rfl
  rw [e0]
  refine g_lp (fun i => (nI i, g_ma h 31 (g_stp A i))) _ 6 (fun i hi => ?_) ?_ q_fu (by decide)
  · dsimp only
    rw [if_neg (show ¬ (6 : Int32) ≤ nI i from nI_ge (b := 6) (by omega) (by decide)), m_b1 (by omega), show (23 : Int32) = nI 23 from rfl, show (17 : Int32) = nI 17 from rfl, nI_add, nI_add, g_inN (by omega) (by decide), cond_true, cond_true, g_cl (by omega), g_cl (by omega), g_w0 (by omega), g_w0 (by omega), g_stp_s hi, show nI i + (1 : Int32) = nI (i + 1) from nI_1 i]
  · dsimp only
    rw [if_pos (show (6 : Int32) ≤ nI 6 by decide)]
/-- does what stays have a place -/
def g_kP (A : g_A) (L : List Nat) (i : Nat) : Prop := g_fp (g_lB A L i).1 (A 1 (g_el L i) 5) < 60
theorem m_lay1 {β : Type} {K : q_H → Option β} {hh : q_H} {A B : g_A} {s x : Nat} (hs : s < 60) (hx : x < 60) (hl : g_wl B) (hw : g_wi B) (hn : g_ne B < 60) : ((Mo_oldOf (nI s) (2 : Int32) (g_ma (g_ma hh 32 A) 31 B)).bind fun x31 => (Mo_oldOf (nI s) (3 : Int32) (g_ma (g_ma hh 32 A) 31 B)).bind fun x33 => (Mo_oldOf (nI s) (4 : Int32) (g_ma (g_ma hh 32 A) 31 B)).bind fun x35 => (Mo_oldOf (nI s) (6 : Int32) (g_ma (g_ma hh 32 A) 31 B)).bind fun x39 => (Mo_fills (nI x) x31 x33 x35 (A 1 s 5) x39 (0 : Int32) (g_ma (g_ma hh 32 A) 31 B)).bind fun x41 => (Mo_oldOf (nI s) (11 : Int32) x41).bind fun x43 => (Mo_sets (nI x) (11 : Int32) x43 x41).bind fun x45 => (Mo_oldOf (nI s) (12 : Int32) x45).bind fun x47 => (Mo_sets (nI x) (12 : Int32) x47 x45).bind fun x49 => (Mo_oldOf (nI s) (3 : Int32) x49).bind fun x51 => (Mo_enters x51 (nI x) x49).bind K) = K (g_ma (g_ma hh 32 A) 31 (g_l2 A s x B)) := by
  obtain ⟨w1, w2, _⟩ := g_l1_wi (A := A) (s := s) hx hw
  rw [show (2 : Int32) = nI 2 from rfl, show (3 : Int32) = nI 3 from rfl, show (4 : Int32) = nI 4 from rfl, show (6 : Int32) = nI 6 from rfl, show (11 : Int32) = nI 11 from rfl, show (12 : Int32) = nI 12 from rfl, m_oldOf hs (by omega), m_oldOf hs (by omega), m_oldOf hs (by omega), m_oldOf hs (by omega)]
  simp only [Option.bind_some]
  rw [m_fills hx hl (Or.inl rfl)]
  simp only [Option.bind_some]
  rw [m_oldOf hs (by omega)]
  simp only [Option.bind_some]
  rw [m_sets_ hx (by omega)]
  simp only [Option.bind_some]
  rw [m_oldOf hs (by omega)]
  simp only [Option.bind_some]
  rw [m_sets_ hx (by omega)]
  simp only [Option.bind_some]
  rw [m_oldOf hs (by omega)]
  simp only [Option.bind_some]
  have e : g_au (g_au (g_fil B x (A 1 s 2) (A 1 s 3) (A 1 s 4) (A 1 s 5) (A 1 s 6) 0) 1 x 11 (A 1 s 11)) 1 x 12 (A 1 s 12) = g_l1 A s x B := rfl
  rw [e, m_enters hx w1 (by rw [w2]; exact hn)]
  rfl
theorem m_repackNow {h : q_H} {A : g_A} (hW : g_W A) (ho : g_ao A = false) : ∃ L hh, g_f37 h hh ∧ g_sl2 A 60 L ∧ (((∀ j, j < L.length → g_kP A L j) ∧ Mo_repackNow (g_ma h 31 A) = some (g_phs (g_lB A L L.length).1, g_ma (g_ma hh 32 A) 31 (g_lB A L L.length).1)) ∨ (¬ (∀ j, j < L.length → g_kP A L j) ∧ Mo_repackNow (g_ma h 31 A) = some (-1, q_si (g_ma (g_ma hh 32 A) 31 A) 30 6 7 0 5))) := by
  obtain ⟨L, hh, e, hf, hL, h37⟩ := m_staying (h := h) hW
  refine ⟨L, hh, hf, hL, ?_⟩
  have h60 := hL.2.2
  unfold Mo_repackNow
  rw [m_isAnyOpen hW.1.1, ho]
  simp only [Option.bind_some]
  rw [if_pos (by rfl), m_copy1 (Or.inl rfl)]
  simp only [Option.bind_some]
  rw [e]
  simp only [Option.bind_some]
  rw [m_strip]
  simp only [Option.bind_some]
  rw [g_w0 (by omega), g_stp_e]
  obtain ⟨r, er, hr⟩ := g_lpX (body := fun s19 : Int32 × q_H => (if nI L.length ≤ s19.1 then (some (.inr (.inl s19.2))) else (bif q_in s19.1 60 then ((Mo_oldOf (s19.2.1 37 0 7 s19.1.toNatClampNeg) (5 : Int32) s19.2).bind fun x27 => (Mo_firstPlace x27 s19.2).bind fun x29 => if 0 ≤ x29 then ((Mo_oldOf (s19.2.1 37 0 7 s19.1.toNatClampNeg) (2 : Int32) s19.2).bind fun x31 => (Mo_oldOf (s19.2.1 37 0 7 s19.1.toNatClampNeg) (3 : Int32) s19.2).bind fun x33 => (Mo_oldOf (s19.2.1 37 0 7 s19.1.toNatClampNeg) (4 : Int32) s19.2).bind fun x35 => (Mo_oldOf (s19.2.1 37 0 7 s19.1.toNatClampNeg) (5 : Int32) s19.2).bind fun x37 => (Mo_oldOf (s19.2.1 37 0 7 s19.1.toNatClampNeg) (6 : Int32) s19.2).bind fun x39 => (Mo_fills x29 x31 x33 x35 x37 x39 (0 : Int32) s19.2).bind fun x41 => (Mo_oldOf (s19.2.1 37 0 7 s19.1.toNatClampNeg) (11 : Int32) x41).bind fun x43 => (Mo_sets x29 (11 : Int32) x43 x41).bind fun x45 => (Mo_oldOf (s19.2.1 37 0 7 s19.1.toNatClampNeg) (12 : Int32) x45).bind fun x47 => (Mo_sets x29 (12 : Int32) x47 x45).bind fun x49 => (Mo_oldOf (s19.2.1 37 0 7 s19.1.toNatClampNeg) (3 : Int32) x49).bind fun x51 => (Mo_enters x51 x29 x49).bind fun x53 => some (.inl ((s19.1 + (1 : Int32)), x53))) else ((Mo_copy 32 7 31 7 s19.2).bind fun x55 => (Mo_refuse (5 : Int32) x55).bind fun x57 => some (.inr (.inr ((x57.1, x57.2)))))) else none) : Option ((Int32 × q_H) ⊕ ((q_H) ⊕ (Int32 × q_H)))))
    (fun i y => y = (nI i, g_ma (g_ma hh 32 A) 31 (g_lB A L i).1) ∧ g_JB A L i (g_lB A L i) ∧ ∀ j, j < i → g_kP A L j)
    (fun r => (g_JB A L L.length (g_lB A L L.length) ∧ (∀ j, j < L.length → g_kP A L j) ∧ r = .inl (g_ma (g_ma hh 32 A) 31 (g_lB A L L.length).1)) ∨ (¬ (∀ j, j < L.length → g_kP A L j) ∧ r = .inr (-1, q_si (g_ma (g_ma hh 32 A) 31 A) 30 6 7 0 5))) L.length
    (fun i y hi ⟨ey, hJ, hk⟩ => by
      subst ey
      dsimp only
      obtain ⟨s60, sf, sl⟩ := g_sl2_e hL hi
      have hn := hJ.2.2.2.2.2.1.2.1
      rw [if_neg (nI_ge hi (by omega)), g_inN (by omega) (by decide), cond_true, g_cl (by omega), m_37r, h37 i hi, show (5 : Int32) = nI 5 from rfl, m_oldOf s60 (by omega)]
      simp only [Option.bind_some]
      rw [m_firstPlace hJ.2.1]
      simp only [Option.bind_some]
      by_cases c : g_kP A L i
      · have c' : g_fp (g_lB A L i).1 (A 1 (g_el L i) 5) < 60 := c
        have ep : g_pp (g_fp (g_lB A L i).1 (A 1 (g_el L i) 5)) = nI (g_fp (g_lB A L i).1 (A 1 (g_el L i) 5)) := if_pos c'
        rw [if_pos (g_ppP.mpr c'), ep]
        refine Or.inl ⟨(nI i + 1, g_ma (g_ma hh 32 A) 31 (g_lB A L (i + 1)).1), ?_, by rw [show nI i + (1 : Int32) = nI (i + 1) from nI_1 i], g_JB_s hL hi hJ c', fun j hj => ?_⟩
        · exact m_lay1 (K := fun x53 => some (Sum.inl (nI i + (1 : Int32), x53))) (hh := hh) (A := A) s60 c' hJ.2.1 hJ.2.2.2.2.2.1.1 (by omega)
        · by_cases d : j = i
          · rw [d]; exact c
          · exact hk j (by omega)
      · rw [if_neg (fun q => c (g_ppP.mp q)), m_copy2 (Or.inl rfl)]
        simp only [Option.bind_some]
        rw [e_Mrefuse]
        exact Or.inr ⟨_, rfl, Or.inr ⟨fun q => c (q i hi), rfl⟩⟩)
    (fun y ⟨ey, hJ, hk⟩ => by
      subst ey
      dsimp only
      rw [if_pos (Int32.le_refl _)]
      exact ⟨_, rfl, Or.inl ⟨hJ, hk, rfl⟩⟩) ((0 : Int32), g_ma (g_ma hh 32 A) 31 (g_str A)) q_fu (by unfold q_fu; omega) ⟨rfl, g_JB_0, fun j hj => absurd hj (Nat.not_lt_zero j)⟩
  rw [er]
  simp only [Option.bind_some]
  rcases hr with ⟨hJ, hk, e2⟩ | ⟨hk, e2⟩
  · refine Or.inl ⟨hk, ?_⟩
    rw [e2]
    dsimp only
    exact m_haveSlots hJ.2.1
  · refine Or.inr ⟨hk, ?_⟩
    rw [e2]
