/-! sums and searches over slots -/
def g_sm (f : Nat → Int32) (i0 n : Nat) : Int32 := g_it (fun i x => x + f i) i0 n 0
theorem g_it_ext {β : Type} {f : Nat → β → β} {i0 n : Nat} {b : β} : ∀ m, (∀ i x, i0 + n ≤ i → i < i0 + (n + m) → f i x = x) → g_it f i0 (n + m) b = g_it f i0 n b := by
  intro m
  induction m with
  | zero => intro _; rfl
  | succ m ih =>
    intro h
    show f (i0 + (n + m)) (g_it f i0 (n + m) b) = _
    rw [h _ _ (by omega) (by omega), ih (fun i x a c => h i x a (by omega))]
theorem g_sm_congr {f g : Nat → Int32} {i0 n : Nat} (h : ∀ i, i0 ≤ i → i < i0 + n → f i = g i) : g_sm f i0 n = g_sm g i0 n := g_it_congr i0 0 n (fun j a b x => by rw [h j a b])
/-- a sum told in parts -/
theorem g_it_app {β : Type} {f : Nat → β → β} {i0 n : Nat} {b : β} : ∀ m, g_it f i0 (n + m) b = g_it f (i0 + n) m (g_it f i0 n b) := by
  intro m
  induction m with
  | zero => rfl
  | succ m ih =>
    show f (i0 + (n + m)) (g_it f i0 (n + m) b) = f (i0 + n + m) _
    rw [ih, Nat.add_assoc]
theorem g_it_add {f : Nat → Int32} {i0 : Nat} {b : Int32} : ∀ n, g_it (fun i x => x + f i) i0 n b = b + g_sm f i0 n := by
  intro n
  induction n with
  | zero => exact (Int32.add_zero b).symm
  | succ n ih =>
    show g_it _ i0 n b + f (i0 + n) = b + (g_it _ i0 n 0 + f (i0 + n))
    rw [ih, Int32.add_assoc]; rfl
theorem g_sm_app {f : Nat → Int32} {i0 n m : Nat} : g_sm f i0 (n + m) = g_sm f i0 n + g_sm f (i0 + n) m := by
  unfold g_sm
  rw [g_it_app, g_it_add]; rfl
theorem g_it_sh {β : Type} {f : Nat → β → β} {d : Nat} {b : β} : ∀ n, g_it f d n b = g_it (fun i => f (d + i)) 0 n b := by
  intro n
  induction n with
  | zero => rfl
  | succ n ih =>
    show f (d + n) (g_it f d n b) = f (d + (0 + n)) _
    rw [ih, Nat.zero_add]
theorem g_lpC {ρ : Type} {body : Int32 × Int32 → Option ((Int32 × Int32) ⊕ ρ)} {s0 : Int32 × Int32} {b : Int32} (f : Nat → Int32) (i0 n : Nat) (rr : Int32 → ρ) (h0 : s0 = (b, nI i0)) (hstep : ∀ i x, i0 ≤ i → i < i0 + n → body (x, nI i) = some (.inl (x + f i, nI (i + 1)))) (hend : ∀ x, body (x, nI (i0 + n)) = some (.inr (rr x))) (hf : n < q_fu) : q_lp body q_fu s0 = some (rr (g_it (fun i x => x + f i) i0 n b)) :=
  g_lpI' (fun i x => x + f i) i0 n b (fun i x => (x, nI i)) rr h0 hstep hend hf
theorem g_lpC0 {body : Int32 × Int32 → Option ((Int32 × Int32) ⊕ Int32)} {s0 : Int32 × Int32} (f : Nat → Int32) (i0 n : Nat) (h0 : s0 = (0, nI i0)) (hstep : ∀ i x, i0 ≤ i → i < i0 + n → body (x, nI i) = some (.inl (x + f i, nI (i + 1)))) (hend : ∀ x, body (x, nI (i0 + n)) = some (.inr x)) (hf : n < q_fu) : q_lp body q_fu s0 = some (g_sm f i0 n) := g_lpC f i0 n (fun x => x) h0 hstep hend hf
theorem g_lpB {σ ρ : Type} {body : σ → Option (σ ⊕ ρ)} {s0 : σ} (P : Nat → Bool) (st : Nat → σ) (i0 n : Nat) (rr : Nat → ρ) (h0 : s0 = st i0) (hstep : ∀ i, i0 ≤ i → i < i0 + n → body (st i) = some (bif P i then .inr (rr i) else .inl (st (i + 1)))) (hend : body (st (i0 + n)) = some (.inr (rr (i0 + n)))) (hf : n < q_fu) : q_lp body q_fu s0 = some (rr (g_fst P i0 n)) :=
  g_lpS' P st i0 n rr h0 (fun i a b c => by rw [hstep i a b, c]; rfl) (fun i a b c => by rw [hstep i a b, c]; rfl) hend hf
theorem g_iv_pj {A : g_A} {p j : Nat} (hj : j < 10) : g_iv A (10 * p + j) = decide (j < g_ln A p) := by
  unfold g_iv
  have e1 : (10 * p + j) % 10 = j := by omega
  have e2 : (10 * p + j) / 10 = p := by omega
  rw [e1, e2]
theorem g_fu_no {A : g_A} {p j : Nat} (hj : j < 10) (h : g_ln A p ≤ j) : g_fu A (10 * p + j) = false := by
  unfold g_fu
  rw [g_iv_pj hj, decide_eq_false (by omega)]; rfl
theorem g_fu_in {A : g_A} {p j : Nat} (hj : j < 10) (h : j < g_ln A p) : g_fu A (10 * p + j) = decide (A 1 (10 * p + j) 0 = 1) := by
  unfold g_fu
  rw [g_iv_pj hj, decide_eq_true (by omega)]; rfl
def g_sz (A : g_A) (s : Nat) : Int32 := if g_fu A s = true then A 1 s 5 else 0
def g_fr (A : g_A) (p : Nat) : Int32 := g_it (fun s x => x - g_sz A s) (10 * p) 10 (A 0 0 0)
def g_un (A : g_A) (s : Nat) : Bool := decide (A 1 s 0 = 0)
def g_pi (A : g_A) (p : Nat) (z : Int32) : Nat := if g_fr A p < z then 60 else if g_fst (g_un A) (10 * p) (g_ln A p) < 10 * p + 10 then g_fst (g_un A) (10 * p) (g_ln A p) else 60
def g_fp (A : g_A) (z : Int32) : Nat := if g_fst (fun p => decide (g_pi A p z < 60)) 0 6 < 6 then g_pi A (g_fst (fun p => decide (g_pi A p z < 60)) 0 6) z else 60
def g_so (A : g_A) (t : Nat) (row : Int32) : Nat := g_fst (fun s => g_fu A s && (decide (A 1 s 2 = row) && g_se A t s)) 0 60
def g_vo (A : g_A) (row : Int32) : Int32 := g_sm (fun s => q_bi (g_fu A s && decide (A 1 s 2 = row))) 0 60
def g_du (A : g_A) (z from_ n : Nat) : Int32 := g_sm (fun s => if (g_fu A s && g_de A z s) = true then A 1 s 5 else 0) (10 * from_) (10 * n)
def g_uu (A : g_A) (p : Nat) : Int32 := g_sm (fun s => q_bi (g_un A s)) (10 * p) (g_ln A p)
theorem g_pi_le {A : g_A} {p : Nat} {z : Int32} (hp : p < 6) (h : g_pi A p z < 60) : 10 * p ≤ g_pi A p z ∧ g_pi A p z < 10 * p + 10 ∧ g_pi A p z ≤ 10 * p + g_ln A p := by
  have hle := g_fst_le (g_un A) (g_ln A p) (10 * p)
  unfold g_pi at h ⊢
  by_cases c : g_fr A p < z
  · rw [if_pos c] at h; omega
  · rw [if_neg c] at h ⊢
    by_cases d : g_fst (g_un A) (10 * p) (g_ln A p) < 10 * p + 10
    · rw [if_pos d]; omega
    · rw [if_neg d] at h; omega
theorem g_bi0 {b : Bool} : q_bi b = 0 ↔ b = false := by cases b <;> decide
theorem g_bi1 {b : Bool} : q_bi b = 1 ↔ b = true := by cases b <;> decide
section g_M
variable {h : q_H} {A : g_A}
theorem m_b1 {p : Nat} (hp : p < 6) : q_in ((17 : Int32) + nI p) 1644 = true := by
  rw [show (17 : Int32) = nI 17 from rfl, nI_add]; exact g_inN (by omega) (by decide)
theorem m_b2 {p : Nat} (hl : g_wl A) (hp : p < 6) : (g_ma h 31 A).1 31 0 7 ((17 : Int32) + nI p).toNatClampNeg = nI (g_ln A p) := by
  rw [show (17 : Int32) = nI 17 from rfl, nI_add, g_cl (by omega), m_g (by omega)]; exact (hl p hp).1
theorem m_b3 {p : Nat} (hl : g_wl A) (hp : p < 6) : (10 : Int32) * nI p + nI (g_ln A p) = nI (10 * p + g_ln A p) := by
  rw [show (10 : Int32) = nI 10 from rfl, pk_mul, nI_add]
theorem m_b4 {p : Nat} : (10 : Int32) * nI p = nI (10 * p) := by
  rw [show (10 : Int32) = nI 10 from rfl, pk_mul]
theorem m_freeIn {p : Nat} (hl : g_wl A) (hp : p < 6) : Mo_freeIn (nI p) (g_ma h 31 A) = some (g_fr A p) := by
  have h10 := (hl p hp).2
  unfold Mo_freeIn
  refine g_bs ?_
  simp only [m_b1 hp, m_b2 hl hp, m_b4, nI_add, cond_true]
  refine (g_lpI' (fun s x => x - g_sz A s) (10 * p) (g_ln A p) (A 0 0 0) (fun i x => (x, nI i)) (fun x => x) ?_ (fun i x a b => ?_) (fun x => ?_) (by unfold q_fu; omega)).trans ?_
  · rw [m_g (by omega)]
  · dsimp only
    rw [if_neg (nI_ge (by omega) (by omega)), m_isFull (by omega)]
    have hi : i = 10 * p + (i - 10 * p) := by omega
    have hf : g_fu A i = decide (A 1 i 0 = 1) := by rw [hi]; exact g_fu_in (by omega) (by omega)
    unfold g_sz
    rw [hf, m_of5 (by omega), nI_1]
    cases decide (A 1 i 0 = 1) <;> rfl
  · dsimp only
    rw [if_pos (Int32.le_refl _)]
  · unfold g_fr
    have := g_it_ext (f := fun s x => x - g_sz A s) (i0 := 10 * p) (n := g_ln A p) (b := A 0 0 0) (10 - g_ln A p) (fun i x a b => by
      have hi : i = 10 * p + (i - 10 * p) := by omega
      have hf : g_fu A i = false := by rw [hi]; exact g_fu_no (by omega) (by omega)
      unfold g_sz
      rw [hf, if_neg (by decide)]
      exact Int32.sub_zero x)
    have e : g_ln A p + (10 - g_ln A p) = 10 := by omega
    rw [e] at this
    rw [this]
theorem m_placeIn {p : Nat} {z : Int32} (hl : g_wl A) (hp : p < 6) : Mo_placeIn (nI p) z (g_ma h 31 A) = some (g_pp (g_pi A p z)) := by
  have h10 := (hl p hp).2
  unfold Mo_placeIn
  rw [m_freeIn hl hp]
  simp only [Option.bind_some, m_b1 hp, m_b2 hl hp, m_b4, nI_add, cond_true]
  by_cases c : g_fr A p < z
  · have e : g_pi A p z = 60 := if_pos c
    rw [if_neg (Int32.not_le.mpr c), e]; rfl
  · rw [if_pos (Int32.not_lt.mp c)]
    have hle := g_fst_le (g_un A) (g_ln A p) (10 * p)
    have key := g_lpS' (body := fun s3 : Int32 => if nI (10 * p + g_ln A p) ≤ s3 then (some (Sum.inr (Sum.inl ())) : Option (Int32 ⊕ (Unit ⊕ Int32))) else ((Mo_of s3 (0 : Int32) (g_ma h 31 A)).bind fun x11 => if ¬ x11 = 0 then (some (.inl (s3 + (1 : Int32)))) else (some (.inr (.inr (s3)))))) (s0 := nI (10 * p)) (g_un A) (fun i => nI i) (10 * p) (g_ln A p) (fun i => if i < 10 * p + g_ln A p then Sum.inr (nI i) else Sum.inl ()) rfl (fun i a b c => by
        rw [if_neg (nI_ge (by omega) (by omega)), m_of0 (by omega)]
        simp only [Option.bind_some]
        rw [if_pos (of_decide_eq_false c), nI_1]) (fun i a b c => by
        rw [if_neg (nI_ge (by omega) (by omega)), m_of0 (by omega)]
        simp only [Option.bind_some]
        rw [if_neg (fun q => q (of_decide_eq_true c)), if_pos (by omega)]) (by
        rw [if_pos (Int32.le_refl _), if_neg (by omega)]) (by unfold q_fu; omega)
    rw [key]
    simp only [Option.bind_some]
    by_cases d : g_fst (g_un A) (10 * p) (g_ln A p) < 10 * p + g_ln A p
    · have e : g_pi A p z = g_fst (g_un A) (10 * p) (g_ln A p) := by unfold g_pi; rw [if_neg c]; exact if_pos (by omega)
      rw [if_pos d, e]
      unfold g_pp
      rw [if_pos (show g_fst (g_un A) (10 * p) (g_ln A p) < 60 by omega)]
    · have e : g_fst (g_un A) (10 * p) (g_ln A p) = 10 * p + g_ln A p := by omega
      rw [if_neg d]
      by_cases f : g_ln A p < 10
      · have e2 : g_pi A p z = 10 * p + g_ln A p := by unfold g_pi; rw [if_neg c, e]; exact if_pos (by omega)
        rw [e2]
        dsimp only
        rw [if_neg (show ¬ (10 : Int32) ≤ nI (g_ln A p) from nI_ge (b := 10) f (by decide))]
        unfold g_pp
        rw [if_pos (show 10 * p + g_ln A p < 60 by omega)]
      · have e2 : g_pi A p z = 60 := by unfold g_pi; rw [if_neg c, e]; exact if_neg (by omega)
        rw [e2]
        dsimp only
        rw [if_pos (show (10 : Int32) ≤ nI (g_ln A p) from nI_le (a := 10) (by omega) (by omega))]
        rfl
theorem g_ppN {n : Nat} : g_pp n < 0 ↔ ¬ n < 60 := by
  unfold g_pp
  by_cases c : n < 60
  · rw [if_pos c]; exact ⟨fun q => absurd q (nI_pos (by omega)), fun q => absurd c q⟩
  · rw [if_neg c]; exact ⟨fun _ => c, fun _ => by decide⟩
theorem g_pp1 {n : Nat} : g_pp n = -1 ↔ ¬ n < 60 := by
  unfold g_pp
  by_cases c : n < 60
  · rw [if_pos c]; exact ⟨fun q => absurd (q ▸ nI_pos' (n := n) (by omega)) (by decide), fun q => absurd c q⟩
  · rw [if_neg c]; exact ⟨fun _ => c, fun _ => rfl⟩
theorem g_ppP {n : Nat} : 0 ≤ g_pp n ↔ n < 60 := by
  unfold g_pp
  by_cases c : n < 60
  · rw [if_pos c]; exact ⟨fun _ => c, fun q => nI_pos' (by omega)⟩
  · rw [if_neg c]; exact ⟨fun q => absurd q (by decide), fun q => absurd q c⟩
theorem m_firstPlace {z : Int32} (hl : g_wl A) : Mo_firstPlace z (g_ma h 31 A) = some (g_pp (g_fp A z)) := by
  unfold Mo_firstPlace
  refine g_bs ?_
  have hle := g_fst_le (fun p => decide (g_pi A p z < 60)) 6 0
  refine (g_lpS' (fun p => decide (g_pi A p z < 60)) (fun i => nI i) 0 6 (fun i => g_pp (if i < 6 then g_pi A i z else 60)) rfl (fun i a b c => ?_) (fun i a b c => ?_) ?_ (by unfold q_fu; omega)).trans rfl
  · rw [if_neg (show ¬ (6 : Int32) ≤ nI i from nI_ge (b := 6) (by omega) (by decide)), m_placeIn hl (by omega)]
    simp only [Option.bind_some]
    rw [if_pos (g_ppN.mpr (of_decide_eq_false c)), nI_1]
  · rw [if_neg (show ¬ (6 : Int32) ≤ nI i from nI_ge (b := 6) (by omega) (by decide)), m_placeIn hl (by omega)]
    simp only [Option.bind_some]
    rw [if_neg (fun q => g_ppN.mp q (of_decide_eq_true c)), if_pos (by omega)]
  · rfl
theorem m_seenOf {t : Nat} {row : Int32} (hl : g_wl A) (ht : g_wt A) (hv : g_wv A) (h1 : g_tn A t) : Mo_seenOf (nI t) row (g_ma h 31 A) = some (g_pp (g_so A t row)) := by
  unfold Mo_seenOf
  refine g_bs ?_
  have hle := g_fst_le (fun s => g_fu A s && (decide (A 1 s 2 = row) && g_se A t s)) 60 0
  refine g_lpB (fun s => g_fu A s && (decide (A 1 s 2 = row) && g_se A t s)) (fun i => nI i) 0 60 (fun i => g_pp i) rfl (fun i a b => ?_) rfl (by unfold q_fu; omega)
  rw [if_neg (show ¬ (60 : Int32) ≤ nI i from nI_ge (b := 60) (by omega) (by decide)), m_isVersion (by omega) hl]
  simp only [Option.bind_some]
  have e : g_pp i = nI i := if_pos (by omega)
  rw [e]
  cases f : g_fu A i with
  | false => rw [if_pos (by rfl), nI_1]; rfl
  | true =>
    rw [if_neg (by decide), m_of2 (by omega)]
    simp only [Option.bind_some]
    by_cases c : A 1 i 2 = row
    · rw [if_neg (fun q => q c), m_isSeen (by omega) ht (hv i (by omega) f) h1, decide_eq_true c]
      simp only [Option.bind_some]
      cases g_se A t i with
      | false => rw [if_pos (by rfl), nI_1]; rfl
      | true => rw [if_neg (by decide)]; rfl
    · rw [if_pos c, decide_eq_false c, nI_1]; rfl
theorem m_versionsOf {row : Int32} (hl : g_wl A) : Mo_versionsOf row (g_ma h 31 A) = some (g_vo A row) := by
  unfold Mo_versionsOf
  refine g_bs (g_lpC0 (fun s => q_bi (g_fu A s && decide (A 1 s 2 = row))) 0 60 rfl (fun i x a b => ?_) (fun x => rfl) (by decide))
  dsimp only
  rw [if_neg (show ¬ (60 : Int32) ≤ nI i from nI_ge (b := 60) (by omega) (by decide)), m_isVersion (by omega) hl, m_of2 (by omega), nI_1]
  cases g_fu A i with
  | false => rfl
  | true =>
    simp only [Option.bind_some]
    rw [if_neg (by decide)]
    by_cases c : A 1 i 2 = row
    · rw [if_neg (fun q => q c), decide_eq_true c]; rfl
    · rw [if_pos c, decide_eq_false c]; rfl
theorem m_deadUnits {p n z : Nat} (hl : g_wl A) (ht : g_wt A) (hv : g_wv A) (hz : z < 1000) (hp : p + n ≤ 6) : Mo_deadUnits (nI p) (nI (p + n)) (nI z) (g_ma h 31 A) = some (g_du A z p n) := by
  unfold Mo_deadUnits
  simp only [m_b4]
  refine g_bs (g_lpC0 (fun s => if (g_fu A s && g_de A z s) = true then A 1 s 5 else 0) (10 * p) (10 * n) rfl (fun i x a b => ?_) (fun x => ?_) (by unfold q_fu; omega))
  · dsimp only
    rw [if_neg (nI_ge (by omega) (by omega)), m_isVersion (by omega) hl, nI_1]
    simp only [Option.bind_some]
    cases f : g_fu A i with
    | false => rfl
    | true =>
      rw [if_neg (by decide), m_isDead (by omega) ht (hv i (by omega) f) hz, m_of5 (by omega)]
      simp only [Option.bind_some]
      cases g_de A z i <;> rfl
  · dsimp only
    rw [← Nat.mul_add, if_pos (Int32.le_refl _)]
theorem m_unusedIn {p : Nat} (hl : g_wl A) (hp : p < 6) : Mo_unusedIn (nI p) (g_ma h 31 A) = some (g_uu A p) := by
  have h10 := (hl p hp).2
  unfold Mo_unusedIn
  simp only [m_b1 hp, m_b2 hl hp, m_b4, nI_add, cond_true]
  refine g_bs (g_lpC0 (fun s => q_bi (g_un A s)) (10 * p) (g_ln A p) rfl (fun i x a b => ?_) (fun x => ?_) (by unfold q_fu; omega))
  · dsimp only
    rw [if_neg (nI_ge (by omega) (by omega)), m_of0 (by omega), nI_1]
    simp only [Option.bind_some]
    unfold g_un
    by_cases c : A 1 i 0 = 0
    · rw [if_neg (fun q => q c), decide_eq_true c]; rfl
    · rw [if_pos c, decide_eq_false c]; rfl
  · dsimp only
    rw [if_pos (Int32.le_refl _)]
end g_M
