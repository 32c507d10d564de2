/-! pure layer: loops, views of the two heaps -/
theorem g_lp {σ ρ : Type} {body : σ → Option (σ ⊕ ρ)} (st : Nat → σ) (r : ρ) (n : Nat) (hstep : ∀ i, i < n → body (st i) = some (.inl (st (i + 1)))) (hend : body (st n) = some (.inr r)) : ∀ (f : Nat), n < f → q_lp body f (st 0) = some r := by
  have key : ∀ (j : Nat), j ≤ n → ∀ f, j < f → q_lp body f (st (n - j)) = some r := by
    intro j
    induction j with
    | zero =>
      intro _ f hf
      obtain ⟨f, rfl⟩ : ∃ f', f = f' + 1 := ⟨f - 1, by omega⟩
      unfold q_lp
      rw [Nat.sub_zero, hend]
    | succ j ih =>
      intro hj f hf
      obtain ⟨f, rfl⟩ : ∃ f', f = f' + 1 := ⟨f - 1, by omega⟩
      unfold q_lp
      rw [hstep (n - (j + 1)) (by omega)]
      have e : n - (j + 1) + 1 = n - j := by omega
      rw [e]
      exact ih (by omega) f (by omega)
  intro f hf
  have := key n (Nat.le_refl _) f hf
  rwa [Nat.sub_self] at this
/-- loops with a stop: at the first place where P holds -/
def g_fst (P : Nat → Bool) (i n : Nat) : Nat :=
  match n with
  | 0 => i
  | n + 1 => bif P i then i else g_fst P (i + 1) n
theorem g_fst_le (P : Nat → Bool) : ∀ (n i : Nat), i ≤ g_fst P i n ∧ g_fst P i n ≤ i + n := by
  intro n
  induction n with
  | zero => intro i; exact ⟨Nat.le_refl _, Nat.le_refl _⟩
  | succ n ih =>
    intro i
    unfold g_fst
    cases P i with
    | true => exact ⟨Nat.le_refl _, by simp⟩
    | false =>
      have := ih (i + 1)
      simp only [cond_false]
      omega
theorem g_fst_ne (P : Nat → Bool) : ∀ (n i j : Nat), i ≤ j → j < g_fst P i n → P j = false := by
  intro n
  induction n with
  | zero => intro i j h1 h2; unfold g_fst at h2; omega
  | succ n ih =>
    intro i j h1 h2
    unfold g_fst at h2
    cases hp : P i with
    | true => rw [hp] at h2; simp only [cond_true] at h2; omega
    | false =>
      rw [hp] at h2
      simp only [cond_false] at h2
      rcases Nat.lt_or_ge i j with q | q
      · exact ih (i + 1) j q h2
      · have : i = j := by omega
        rw [← this]; exact hp
theorem g_fst_at (P : Nat → Bool) : ∀ (n i : Nat), g_fst P i n < i + n → P (g_fst P i n) = true := by
  intro n
  induction n with
  | zero => intro i h; unfold g_fst at h; omega
  | succ n ih =>
    intro i h
    unfold g_fst at h ⊢
    cases hp : P i with
    | true => simp only [cond_true]; exact hp
    | false =>
      rw [hp] at h
      simp only [cond_false] at h ⊢
      exact ih (i + 1) (by omega)
theorem g_lpS {σ ρ : Type} {body : σ → Option (σ ⊕ ρ)} (P : Nat → Bool) (st : Nat → σ) (i0 n : Nat) (rr : Nat → ρ) (hstep : ∀ i, i0 ≤ i → i < i0 + n → P i = false → body (st i) = some (.inl (st (i + 1)))) (hhit : ∀ i, i0 ≤ i → i < i0 + n → P i = true → body (st i) = some (.inr (rr i))) (hend : body (st (i0 + n)) = some (.inr (rr (i0 + n)))) (f : Nat) (hf : n < f) : q_lp body f (st i0) = some (rr (g_fst P i0 n)) := by
  have hle := g_fst_le P n i0
  have := g_lp (body := body) (fun i => st (i0 + i)) (rr (g_fst P i0 n)) (g_fst P i0 n - i0) (fun i hi => hstep (i0 + i) (by omega) (by omega) (g_fst_ne P n i0 _ (by omega) (by omega))) (by
    have e : i0 + (g_fst P i0 n - i0) = g_fst P i0 n := by omega
    simp only [e]
    rcases Nat.lt_or_ge (g_fst P i0 n) (i0 + n) with q | q
    · exact hhit _ hle.1 q (g_fst_at P n i0 q)
    · have e2 : g_fst P i0 n = i0 + n := by omega
      rw [e2]; exact hend) f (by omega)
  exact this
theorem g_fst_congr {P Q : Nat → Bool} : ∀ (n i : Nat), (∀ j, i ≤ j → j < i + n → P j = Q j) → g_fst P i n = g_fst Q i n := by
  intro n
  induction n with
  | zero => intro i h; rfl
  | succ n ih =>
    intro i h
    unfold g_fst
    rw [h i (Nat.le_refl _) (by omega), ih (i + 1) (fun j a b => h j (by omega) (by omega))]
/-- counted loops: f at i0, i0+1, .. -/
def g_it {β : Type} (f : Nat → β → β) (i0 n : Nat) (b : β) : β :=
  match n with
  | 0 => b
  | n + 1 => f (i0 + n) (g_it f i0 n b)
theorem g_it_congr {β : Type} {f g : Nat → β → β} (i0 : Nat) (b : β) : ∀ n, (∀ j, i0 ≤ j → j < i0 + n → ∀ x, f j x = g j x) → g_it f i0 n b = g_it g i0 n b := by
  intro n
  induction n with
  | zero => intro h; rfl
  | succ n ih => intro h; unfold g_it; rw [ih (fun j a c => h j a (by omega)), h (i0 + n) (by omega) (by omega)]
theorem g_lpI {β σ ρ : Type} {body : σ → Option (σ ⊕ ρ)} (f : Nat → β → β) (i0 n : Nat) (b : β) (st : Nat → β → σ) (rr : β → ρ) (hstep : ∀ i x, i0 ≤ i → i < i0 + n → body (st i x) = some (.inl (st (i + 1) (f i x)))) (hend : ∀ x, body (st (i0 + n) x) = some (.inr (rr x))) (fu : Nat) (hf : n < fu) : q_lp body fu (st i0 b) = some (rr (g_it f i0 n b)) :=
  g_lp (body := body) (fun i => st (i0 + i) (g_it f i0 i b)) (rr (g_it f i0 n b)) n (fun i hi => hstep (i0 + i) _ (by omega) (by omega)) (hend _) fu hf
/-- loops over what may change: an invariant -/
theorem g_lpH {σ ρ : Type} {body : σ → Option (σ ⊕ ρ)} (I : Nat → σ → Prop) (Q : ρ → Prop) (n : Nat) (hstep : ∀ i s, i < n → I i s → ∃ s', body s = some (.inl s') ∧ I (i + 1) s') (hend : ∀ s, I n s → ∃ r, body s = some (.inr r) ∧ Q r) : ∀ (s : σ) (f : Nat), n < f → I 0 s → ∃ r, q_lp body f s = some r ∧ Q r := by
  have key : ∀ (j : Nat), j ≤ n → ∀ f s, j < f → I (n - j) s → ∃ r, q_lp body f s = some r ∧ Q r := by
    intro j
    induction j with
    | zero =>
      intro _ f s hf hI
      obtain ⟨f, rfl⟩ : ∃ f', f = f' + 1 := ⟨f - 1, by omega⟩
      obtain ⟨r, hr, hq⟩ := hend s (by rwa [Nat.sub_zero] at hI)
      exact ⟨r, by unfold q_lp; rw [hr], hq⟩
    | succ j ih =>
      intro hj f s hf hI
      obtain ⟨f, rfl⟩ : ∃ f', f = f' + 1 := ⟨f - 1, by omega⟩
      obtain ⟨s', hs, hI'⟩ := hstep (n - (j + 1)) s (by omega) hI
      have e : n - (j + 1) + 1 = n - j := by omega
      rw [e] at hI'
      obtain ⟨r, hr, hq⟩ := ih (by omega) f s' (by omega) hI'
      exact ⟨r, by unfold q_lp; rw [hs]; exact hr, hq⟩
  intro s f hf hI
  exact key n (Nat.le_refl _) f s hf (by rwa [Nat.sub_self])
/-- the same, with a way out -/
theorem g_lpX {σ ρ : Type} {body : σ → Option (σ ⊕ ρ)} (I : Nat → σ → Prop) (Q : ρ → Prop) (n : Nat) (hstep : ∀ i s, i < n → I i s → (∃ s', body s = some (.inl s') ∧ I (i + 1) s') ∨ (∃ r, body s = some (.inr r) ∧ Q r)) (hend : ∀ s, I n s → ∃ r, body s = some (.inr r) ∧ Q r) : ∀ (s : σ) (f : Nat), n < f → I 0 s → ∃ r, q_lp body f s = some r ∧ Q r := by
  have key : ∀ (j : Nat), j ≤ n → ∀ f s, j < f → I (n - j) s → ∃ r, q_lp body f s = some r ∧ Q r := by
    intro j
    induction j with
    | zero =>
      intro _ f s hf hI
      obtain ⟨f, rfl⟩ : ∃ f', f = f' + 1 := ⟨f - 1, by omega⟩
      obtain ⟨r, hr, hq⟩ := hend s (by rwa [Nat.sub_zero] at hI)
      exact ⟨r, by unfold q_lp; rw [hr], hq⟩
    | succ j ih =>
      intro hj f s hf hI
      obtain ⟨f, rfl⟩ : ∃ f', f = f' + 1 := ⟨f - 1, by omega⟩
      rcases hstep (n - (j + 1)) s (by omega) hI with ⟨s', hs, hI'⟩ | ⟨r, hr, hq⟩
      · have e : n - (j + 1) + 1 = n - j := by omega
        rw [e] at hI'
        obtain ⟨r, hr, hq⟩ := ih (by omega) f s' (by omega) hI'
        exact ⟨r, by unfold q_lp; rw [hs]; exact hr, hq⟩
      · exact ⟨r, by unfold q_lp; rw [hr], hq⟩
  intro s f hf hI
  exact key n (Nat.le_refl _) f s hf (by rwa [Nat.sub_self])
/-- numbers -/
theorem g_inN {n N : Nat} (h : n < N) (hN : N ≤ 2 ^ 31) : q_in (nI n) N = true := by
  unfold q_in
  have h1 : (nI n).toNatClampNeg = n := nI_clamp (by omega)
  have h2 : (0 : Int32) ≤ nI n := nI_pos' (by omega)
  rw [h1, decide_eq_true h2]
  exact Nat.ble_eq_true_of_le h
theorem g_cl {n : Nat} (h : n < 2 ^ 31) : (nI n).toNatClampNeg = n := nI_clamp h
/-- the state of a store, as the reference has it: kind of row, place, column -/
abbrev g_A : Type := Nat → Nat → Nat → Int32
def g_au (A : g_A) (g i w : Nat) (v : Int32) : g_A := fun a b c => if a = g ∧ b = i ∧ c = w then v else A a b c
def g_ix (g i w : Nat) : Nat := if g = 0 then i else if g = 1 then 32 + 13 * i + w else if g = 2 then 812 + 4 * i + w else if g = 3 then 1052 + 3 * i + w else if g = 4 then 1235 + 2 * i + w else if g = 5 then 1283 + 5 * i + w else 1583 + i
def g_at (A : g_A) (j : Nat) : Int32 := if j < 32 then A 0 j 0 else if j < 812 then A 1 ((j - 32) / 13) ((j - 32) % 13) else if j < 1052 then A 2 ((j - 812) / 4) ((j - 812) % 4) else if j < 1235 then A 3 ((j - 1052) / 3) ((j - 1052) % 3) else if j < 1283 then A 4 ((j - 1235) / 2) ((j - 1235) % 2) else if j < 1583 then A 5 ((j - 1283) / 5) ((j - 1283) % 5) else A 6 (j - 1583) 0
def g_ma (h : q_H) (t : Nat) (A : g_A) : q_H := (fun a f k j => if a = t ∧ f = 0 ∧ k = 7 ∧ j < 1644 then g_at A j else h.1 a f k j, h.2)
def g_of (h : q_H) (t : Nat) : g_A := fun g i w => h.1 t 0 7 (g_ix g i w)
theorem g_at0 {A : g_A} {i : Nat} (h : i < 32) : g_at A i = A 0 i 0 := by unfold g_at; rw [if_pos h]
theorem g_at1 {A : g_A} {s w : Nat} (h : s < 60) (hw : w < 13) : g_at A (32 + 13 * s + w) = A 1 s w := by
  unfold g_at
  rw [if_neg (by omega), if_pos (by omega)]
  have e1 : (32 + 13 * s + w - 32) / 13 = s := by omega
  have e2 : (32 + 13 * s + w - 32) % 13 = w := by omega
  rw [e1, e2]
theorem g_at2 {A : g_A} {s w : Nat} (h : s < 60) (hw : w < 4) : g_at A (812 + 4 * s + w) = A 2 s w := by
  unfold g_at
  rw [if_neg (by omega), if_neg (by omega), if_pos (by omega)]
  have e1 : (812 + 4 * s + w - 812) / 4 = s := by omega
  have e2 : (812 + 4 * s + w - 812) % 4 = w := by omega
  rw [e1, e2]
theorem g_at3 {A : g_A} {s w : Nat} (h : s < 61) (hw : w < 3) : g_at A (1052 + 3 * s + w) = A 3 s w := by
  unfold g_at
  rw [if_neg (by omega), if_neg (by omega), if_neg (by omega), if_pos (by omega)]
  have e1 : (1052 + 3 * s + w - 1052) / 3 = s := by omega
  have e2 : (1052 + 3 * s + w - 1052) % 3 = w := by omega
  rw [e1, e2]
theorem g_at4 {A : g_A} {s w : Nat} (h : s < 24) (hw : w < 2) : g_at A (1235 + 2 * s + w) = A 4 s w := by
  unfold g_at
  rw [if_neg (by omega), if_neg (by omega), if_neg (by omega), if_neg (by omega), if_pos (by omega)]
  have e1 : (1235 + 2 * s + w - 1235) / 2 = s := by omega
  have e2 : (1235 + 2 * s + w - 1235) % 2 = w := by omega
  rw [e1, e2]
theorem g_at5 {A : g_A} {s w : Nat} (h : s < 60) (hw : w < 5) : g_at A (1283 + 5 * s + w) = A 5 s w := by
  unfold g_at
  rw [if_neg (by omega), if_neg (by omega), if_neg (by omega), if_neg (by omega), if_neg (by omega), if_pos (by omega)]
  have e1 : (1283 + 5 * s + w - 1283) / 5 = s := by omega
  have e2 : (1283 + 5 * s + w - 1283) % 5 = w := by omega
  rw [e1, e2]
theorem g_at6 {A : g_A} {s : Nat} : g_at A (1583 + s) = A 6 s 0 := by
  unfold g_at
  rw [if_neg (by omega), if_neg (by omega), if_neg (by omega), if_neg (by omega), if_neg (by omega), if_neg (by omega)]
  have e1 : 1583 + s - 1583 = s := by omega
  rw [e1]
theorem g_at_au {A : g_A} {g i w j : Nat} {v : Int32} (hr : ∀ B : g_A, g_at B j = B g i w) (hi : ∀ j' , j' ≠ j → (∀ B : g_A, g_at (g_au B g i w v) j' = g_at B j')) (j' : Nat) : g_at (g_au A g i w v) j' = if j' = j then v else g_at A j' := by
  by_cases e : j' = j
  · rw [if_pos e, e, hr]; unfold g_au; rw [if_pos ⟨rfl, rfl, rfl⟩]
  · rw [if_neg e]; exact hi j' e A
/-- where a cell lies -/
theorem g_at_ix (j : Nat) : ∃ g i w, (∀ B : g_A, g_at B j = B g i w) ∧ g_ix g i w = j := by
  unfold g_at g_ix
  by_cases h1 : j < 32
  · exact ⟨0, j, 0, fun B => by rw [if_pos h1], by simp⟩
  · by_cases h2 : j < 812
    · exact ⟨1, (j - 32) / 13, (j - 32) % 13, fun B => by rw [if_neg h1, if_pos h2], by simp; omega⟩
    · by_cases h3 : j < 1052
      · exact ⟨2, (j - 812) / 4, (j - 812) % 4, fun B => by rw [if_neg h1, if_neg h2, if_pos h3], by simp; omega⟩
      · by_cases h4 : j < 1235
        · exact ⟨3, (j - 1052) / 3, (j - 1052) % 3, fun B => by rw [if_neg h1, if_neg h2, if_neg h3, if_pos h4], by simp; omega⟩
        · by_cases h5 : j < 1283
          · exact ⟨4, (j - 1235) / 2, (j - 1235) % 2, fun B => by rw [if_neg h1, if_neg h2, if_neg h3, if_neg h4, if_pos h5], by simp; omega⟩
          · by_cases h6 : j < 1583
            · exact ⟨5, (j - 1283) / 5, (j - 1283) % 5, fun B => by rw [if_neg h1, if_neg h2, if_neg h3, if_neg h4, if_neg h5, if_pos h6], by simp; omega⟩
            · exact ⟨6, j - 1583, 0, fun B => by rw [if_neg h1, if_neg h2, if_neg h3, if_neg h4, if_neg h5, if_neg h6], by simp; omega⟩
theorem g_at_au' {A : g_A} {g i w j : Nat} {v : Int32} (hr : ∀ B : g_A, g_at B j = B g i w) (hx : g_ix g i w = j) (j' : Nat) : g_at (g_au A g i w v) j' = if j' = j then v else g_at A j' := by
  refine g_at_au hr (fun j' hj B => ?_) j'
  obtain ⟨g', i', w', hr', hx'⟩ := g_at_ix j'
  rw [hr', hr']
  unfold g_au
  rw [if_neg]
  rintro ⟨rfl, rfl, rfl⟩
  exact hj (by rw [← hx', ← hx])
theorem g_ma_si {h : q_H} {t : Nat} {A : g_A} {g i w j : Nat} {v : Int32} (hr : ∀ B : g_A, g_at B j = B g i w) (hx : g_ix g i w = j) (hj : j < 1644) : q_si (g_ma h t A) t 0 7 j v = g_ma h t (g_au A g i w v) := by
  unfold q_si g_ma
  refine Prod.ext ?_ rfl
  funext a f k j'
  dsimp only
  rw [g_at_au' hr hx]
  by_cases e : a = t ∧ f = 0 ∧ k = 7 ∧ j' = j
  · obtain ⟨rfl, rfl, rfl, rfl⟩ := e
    simp [hj]
  · rw [if_neg e]
    by_cases e2 : a = t ∧ f = 0 ∧ k = 7 ∧ j' < 1644
    · rw [if_pos e2, if_pos e2, if_neg (fun q => e ⟨e2.1, e2.2.1, e2.2.2.1, q⟩)]
    · rw [if_neg e2, if_neg e2]
theorem g_ma_rd {h : q_H} {t : Nat} {A : g_A} {j : Nat} (hj : j < 1644) : (g_ma h t A).1 t 0 7 j = g_at A j := by
  unfold g_ma
  dsimp only
  rw [if_pos ⟨rfl, rfl, rfl, hj⟩]
theorem g_ma_ne {h : q_H} {t a f k j : Nat} {A : g_A} (ht : a ≠ t) : (g_ma h t A).1 a f k j = h.1 a f k j := by
  unfold g_ma
  dsimp only
  rw [if_neg (fun q => ht q.1)]
theorem g_ma_2 {h : q_H} {t : Nat} {A : g_A} : (g_ma h t A).2 = h.2 := rfl
theorem g_ma_of (h : q_H) (t : Nat) : g_ma h t (g_of h t) = h := by
  unfold g_ma
  refine Prod.ext ?_ rfl
  funext a f k j
  dsimp only
  by_cases e : a = t ∧ f = 0 ∧ k = 7 ∧ j < 1644
  · rw [if_pos e]
    obtain ⟨rfl, rfl, rfl, hj⟩ := e
    obtain ⟨g, i, w, hr, hx⟩ := g_at_ix j
    rw [hr]
    unfold g_of
    rw [hx]
  · rw [if_neg e]
theorem g_ma_ma {h : q_H} {t : Nat} {A B : g_A} : g_ma (g_ma h t A) t B = g_ma h t B := by
  unfold g_ma
  refine Prod.ext ?_ rfl
  funext a f k j
  dsimp only
  by_cases e : a = t ∧ f = 0 ∧ k = 7 ∧ j < 1644
  · rw [if_pos e, if_pos e]
  · rw [if_neg e, if_neg e, if_neg e]
theorem g_ma_si_ne {h : q_H} {t a f k i : Nat} {A : g_A} {v : Int32} (ht : a ≠ t) : q_si (g_ma h t A) a f k i v = g_ma (q_si h a f k i v) t A := by
  unfold q_si g_ma
  refine Prod.ext ?_ rfl
  funext a' f' k' j'
  dsimp only
  by_cases e : a' = a ∧ f' = f ∧ k' = k ∧ j' = i
  · rw [if_pos e, if_neg (fun q => ht (by rw [← e.1, q.1])), if_pos e]
  · rw [if_neg e, if_neg e]
theorem g_ma_cm {h : q_H} {t u : Nat} {A B : g_A} (ht : u ≠ t) : g_ma (g_ma h t A) u B = g_ma (g_ma h u B) t A := by
  unfold g_ma
  refine Prod.ext ?_ rfl
  funext a f k j
  dsimp only
  by_cases e : a = t ∧ f = 0 ∧ k = 7 ∧ j < 1644
  · rw [if_neg (fun q => ht (by rw [← q.1, e.1])), if_pos e, if_pos e]
  · simp only [if_neg e]
/-- a store of the component -/
abbrev g_S : Type := (Nat → Nat → Nat → Int32) × (Nat → Nat → Nat → Int64)
def g_su (S : g_S) (t f i : Nat) (v : Int32) : g_S := (fun a b c => if a = t ∧ b = f ∧ c = i then v else S.1 a b c, S.2)
def g_sl (S : g_S) (t f i : Nat) (v : Int64) : g_S := (S.1, fun a b c => if a = t ∧ b = f ∧ c = i then v else S.2 a b c)
def g_st (h : q_H) (k : Nat) : g_S := (fun t f i => h.1 t f k i, fun t f i => h.2 t f k i)
def g_cw (h : q_H) (k : Nat) (S : g_S) : q_H := (fun t f k' i => if k' = k then S.1 t f i else h.1 t f k' i, fun t f k' i => if k' = k then S.2 t f i else h.2 t f k' i)
theorem g_cw_rd {h : q_H} {k t f i : Nat} {S : g_S} : (g_cw h k S).1 t f k i = S.1 t f i := by unfold g_cw; dsimp only; rw [if_pos rfl]
theorem g_cw_rn {h : q_H} {k t f k' i : Nat} {S : g_S} (hk : k' ≠ k) : (g_cw h k S).1 t f k' i = h.1 t f k' i := by unfold g_cw; dsimp only; rw [if_neg hk]
theorem g_cw_rl {h : q_H} {k t f i : Nat} {S : g_S} : (g_cw h k S).2 t f k i = S.2 t f i := by unfold g_cw; dsimp only; rw [if_pos rfl]
theorem g_cw_rm {h : q_H} {k t f k' i : Nat} {S : g_S} (hk : k' ≠ k) : (g_cw h k S).2 t f k' i = h.2 t f k' i := by unfold g_cw; dsimp only; rw [if_neg hk]
theorem g_cw_si {h : q_H} {k t f i : Nat} {S : g_S} {v : Int32} : q_si (g_cw h k S) t f k i v = g_cw h k (g_su S t f i v) := by
  unfold q_si g_cw g_su
  refine Prod.ext ?_ rfl
  funext a b c d
  dsimp only
  by_cases e : a = t ∧ b = f ∧ c = k ∧ d = i
  · obtain ⟨rfl, rfl, rfl, rfl⟩ := e
    simp
  · rw [if_neg e]
    by_cases e2 : c = k
    · rw [if_pos e2, if_pos e2, if_neg (fun q => e ⟨q.1, q.2.1, e2, q.2.2⟩)]
    · rw [if_neg e2, if_neg e2]
theorem g_cw_sl {h : q_H} {k t f i : Nat} {S : g_S} {v : Int64} : q_sl (g_cw h k S) t f k i v = g_cw h k (g_sl S t f i v) := by
  unfold q_sl g_cw g_sl
  refine Prod.ext rfl ?_
  funext a b c d
  dsimp only
  by_cases e : a = t ∧ b = f ∧ c = k ∧ d = i
  · obtain ⟨rfl, rfl, rfl, rfl⟩ := e
    simp
  · rw [if_neg e]
    by_cases e2 : c = k
    · rw [if_pos e2, if_pos e2, if_neg (fun q => e ⟨q.1, q.2.1, e2, q.2.2⟩)]
    · rw [if_neg e2, if_neg e2]
theorem g_cw_st (h : q_H) (k : Nat) : g_cw h k (g_st h k) = h := by
  unfold g_cw g_st
  refine Prod.ext ?_ ?_
  · funext a b c d
    dsimp only
    by_cases e : c = k
    · rw [if_pos e, e]
    · rw [if_neg e]
  · funext a b c d
    dsimp only
    by_cases e : c = k
    · rw [if_pos e, e]
    · rw [if_neg e]
theorem g_st_cw {h : q_H} {k : Nat} {S : g_S} : g_st (g_cw h k S) k = S := by
  unfold g_cw g_st
  refine Prod.ext ?_ ?_
  · funext a b c; dsimp only; rw [if_pos rfl]
  · funext a b c; dsimp only; rw [if_pos rfl]
theorem g_st_cn {h : q_H} {k k' : Nat} {S : g_S} (hk : k' ≠ k) : g_st (g_cw h k S) k' = g_st h k' := by
  unfold g_cw g_st
  refine Prod.ext ?_ ?_
  · funext a b c; dsimp only; rw [if_neg hk]
  · funext a b c; dsimp only; rw [if_neg hk]
theorem g_cw_cw {h : q_H} {k : Nat} {S S' : g_S} : g_cw (g_cw h k S) k S' = g_cw h k S' := by
  unfold g_cw
  refine Prod.ext ?_ ?_
  · funext a b c d
    dsimp only
    by_cases e : c = k
    · rw [if_pos e, if_pos e]
    · rw [if_neg e, if_neg e, if_neg e]
  · funext a b c d
    dsimp only
    by_cases e : c = k
    · rw [if_pos e, if_pos e]
    · rw [if_neg e, if_neg e, if_neg e]
theorem g_cw_cm {h : q_H} {k k' : Nat} {S S' : g_S} (hk : k ≠ k') : g_cw (g_cw h k S) k' S' = g_cw (g_cw h k' S') k S := by
  unfold g_cw
  refine Prod.ext ?_ ?_
  · funext a b c d
    dsimp only
    by_cases e : c = k
    · rw [if_neg (fun q => hk (by rw [← e, ← q])), if_pos e, if_pos e]
    · simp only [if_neg e]
  · funext a b c d
    dsimp only
    by_cases e : c = k
    · rw [if_neg (fun q => hk (by rw [← e, ← q])), if_pos e, if_pos e]
    · simp only [if_neg e]
theorem g_cw_sn {h : q_H} {k t f k' i : Nat} {S : g_S} {v : Int32} (hk : k' ≠ k) : q_si (g_cw h k S) t f k' i v = g_cw (q_si h t f k' i v) k S := by
  unfold q_si g_cw
  refine Prod.ext ?_ rfl
  funext a b c d
  dsimp only
  by_cases e : a = t ∧ b = f ∧ c = k' ∧ d = i
  · rw [if_pos e, if_neg (fun q => hk (by rw [← e.2.2.1, q])), if_pos e]
  · rw [if_neg e, if_neg e]
theorem g_ma_cw {h : q_H} {k t : Nat} {S : g_S} {A : g_A} (hk : k ≠ 7) : g_ma (g_cw h k S) t A = g_cw (g_ma h t A) k S := by
  unfold g_ma g_cw
  refine Prod.ext ?_ rfl
  funext a b c d
  dsimp only
  by_cases e : a = t ∧ b = 0 ∧ c = 7 ∧ d < 1644
  · rw [if_pos e, if_neg (fun q => hk (by rw [← e.2.2.1, q])), if_pos e]
  · rw [if_neg e, if_neg e]
theorem g_st_ma {h : q_H} {k t : Nat} {A : g_A} (hk : k ≠ 7) : g_st (g_ma h t A) k = g_st h k := by
  unfold g_ma g_st
  refine Prod.ext ?_ rfl
  funext a b c
  dsimp only
  rw [if_neg (fun q => hk q.2.2.1)]
theorem g_st_si {h : q_H} {k t f i : Nat} {v : Int32} : g_st (q_si h t f k i v) k = g_su (g_st h k) t f i v := by
  unfold g_st q_si g_su
  refine Prod.ext ?_ rfl
  funext a b c
  simp
theorem g_st_sn {h : q_H} {k t f k' i : Nat} {v : Int32} (hk : k ≠ k') : g_st (q_si h t f k' i v) k = g_st h k := by
  unfold g_st q_si
  refine Prod.ext ?_ rfl
  funext a b c
  dsimp only
  rw [if_neg (fun q => hk q.2.2.1)]
theorem g_si_cw {h : q_H} {k t f i : Nat} {v : Int32} : q_si h t f k i v = g_cw h k (g_su (g_st h k) t f i v) := by
  rw [← g_cw_si, g_cw_st]
theorem g_sl_cw {h : q_H} {k t f i : Nat} {v : Int64} : q_sl h t f k i v = g_cw h k (g_sl (g_st h k) t f i v) := by
  rw [← g_cw_sl, g_cw_st]
