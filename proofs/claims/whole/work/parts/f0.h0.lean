/-! the first heap: as the constructors leave it -/
def z_t0 (t f i : Nat) : Int32 := if t = 0 then (if f = 5 then 3 else if f = 6 then 5 else 0) else if t = 1 then (if f = 4 then 64 else 0) else if t = 3 then (if f = 0 ∨ f = 5 ∨ f = 10 ∨ f = 11 then 0 else if f ≤ 9 then -1 else 0) else if t = 6 then (if f = 4 ∨ f = 5 then 2 else 0) else if t = 7 then (if f = 0 then 1 else 0) else if t = 8 then (if f = 0 then nI i else 0) else if t = 9 then (if f = 0 then -1 else 0) else 0
def z_t7 (t f i : Nat) : Int32 := if t = 30 then (if f = 13 ∨ f = 14 then -1 else 0) else if t = 31 then (if f = 0 ∧ i < 1644 then g_at g_A0 i else 0) else if t = 40 then (if f = 0 ∧ i < 14 then nI (x_nb i) else 0) else 0
def z_h0 : q_H := (fun t f k i => if k ≤ 5 then z_t0 t f i else if k = 6 then (if t = 25 ∧ f = 16 then -1 else 0) else if k = 7 then z_t7 t f i else 0, fun t f k i => if t = 39 ∧ f = 0 ∧ k = 7 ∧ i < 14 then Int64.ofNat (x_W.getD i 0) else 0)
theorem z_h0_k {t f k i : Nat} (hk : k ≤ 5) : z_h0.1 t f k i = z_t0 t f i := if_pos hk
theorem z_h0_6 {t f i : Nat} : z_h0.1 t f 6 i = if t = 25 ∧ f = 16 then -1 else 0 := rfl
theorem z_h0_7 {t f i : Nat} : z_h0.1 t f 7 i = z_t7 t f i := rfl
theorem z_h0_fr {k : Nat} (hk : k ≤ 5) : z_fr (g_st z_h0 k) := by
  have e : ∀ t f i, (g_st z_h0 k).1 t f i = z_t0 t f i := fun t f i => z_h0_k hk
  unfold z_fr
  simp only [e]
  refine ⟨⟨rfl, rfl, rfl, rfl, rfl⟩, ⟨rfl, rfl, rfl, rfl, rfl, ?_⟩, fun p _ => ⟨rfl, rfl⟩, fun s _ => ⟨rfl, rfl, rfl, rfl, rfl, rfl, rfl, rfl, rfl, rfl, rfl⟩, rfl, rfl, fun j _ => rfl, rfl⟩
  show (if 10 = 39 ∧ 0 = 0 ∧ k = 7 ∧ 1 < 14 then Int64.ofNat (x_W.getD 1 0) else 0) = 0
  exact if_neg (fun q => absurd q.1 (by decide))
theorem z_Rel0 : z_Rel 0 z_h0 := by
  have fr := fun k hk => z_fr_R (z_h0_fr (k := k) hk)
  refine ⟨g_A0, ?_, g_A0_W, g_A0_c1, fr 0 (by decide), rfl, rfl, ⟨0, by decide, rfl, fun j hj => absurd hj (Nat.not_lt_zero j)⟩, fun k hk => (fr k hk).2.2.2.2.1, ⟨0, by decide, rfl, rfl⟩, fun i hi => ?_, fun k hk => ?_, fun k hk => ?_, Or.inl ⟨rfl, rfl, rfl⟩⟩
  · refine (g_ma_id (fun j hj => ?_)).symm
    show (if 0 = 0 ∧ j < 1644 then g_at g_A0 j else 0) = g_at g_A0 j
    exact if_pos ⟨rfl, hj⟩
  · exact Or.inl ⟨0, by decide, rfl, rfl⟩
  · exact if_pos ⟨rfl, rfl, rfl, hk⟩
  · show (if 0 = 0 ∧ k < 14 then nI (x_nb k) else 0) = nI (x_nb k)
    exact if_pos ⟨rfl, hk⟩
