/-! what holds between two calls -/
def z_bd (n : Nat) : Nat := 42120 * n
def z_mk (n : Nat) (h : q_H) : Prop := ∃ m, m ≤ 3 ∧ h.1 30 5 7 0 = nI m ∧ ∀ j, j < m → ∃ A, (∀ c, c < 1644 → h.1 35 0 7 (1644 * j + c) = g_at A c) ∧ g_W A ∧ g_c1 A ∧ g_R (z_bd n) (g_st h (3 + j)) A
def z_tx (h : q_H) : Prop := (∃ t, t ≤ 700 ∧ h.1 25 1 6 0 = nI t ∧ h.1 30 12 7 0 = nI t) ∧ (∀ i, i < 700 → g_by (h.1 26 0 6 i) (h.1 38 0 7 i)) ∧ (∀ k, k < 14 → h.2 39 0 7 k = Int64.ofNat (x_W.getD k 0)) ∧ (∀ k, k < 14 → h.1 40 0 7 k = nI (x_nb k)) ∧ ((h.1 25 14 6 0 = 0 ∧ h.1 30 13 7 0 = -1 ∧ h.1 30 14 7 0 = -1) ∨ (h.1 25 14 6 0 = 1 ∧ h.1 25 15 6 0 = h.1 30 13 7 0 ∧ h.1 25 16 6 0 = h.1 30 14 7 0))
def z_Rel (n : Nat) (h : q_H) : Prop := ∃ A, g_is h A ∧ g_W A ∧ g_c1 A ∧ g_R (z_bd n) (g_st h 0) A ∧ h.1 24 6 6 0 = h.1 30 6 7 0 ∧ h.1 24 5 6 0 = h.1 30 5 7 0 ∧ z_mk n h ∧ (∀ k, k ≤ 5 → r_n (g_st h k)) ∧ z_tx h
theorem z_mono {n : Nat} {h : q_H} (r : z_Rel n h) : z_Rel (n + 1) h := by
  obtain ⟨A, h1, h2, h3, h4, h5, h6, ⟨m, m1, m2, m3⟩, h8, h9⟩ := r
  have hb : z_bd n ≤ z_bd (n + 1) := by unfold z_bd; omega
  refine ⟨A, h1, h2, h3, g_R_mono h4 hb, h5, h6, ⟨m, m1, m2, fun j hj => ?_⟩, h8, h9⟩
  obtain ⟨B, b1, b2, b3, b4⟩ := m3 j hj
  exact ⟨B, b1, b2, b3, g_R_mono b4 hb⟩
theorem z_st {h h' : q_H} {k : Nat} (e1 : ∀ t f i, h'.1 t f k i = h.1 t f k i) (e2 : ∀ t f i, h'.2 t f k i = h.2 t f k i) : g_st h' k = g_st h k := by
  unfold g_st
  congr 1
  · funext t f i; exact e1 t f i
  · funext t f i; exact e2 t f i
/-- the cells that a law's call may touch -/
def z_F (h h' : q_H) : Prop := (∀ t f k i, k ≠ 0 → k ≠ 1 → ¬ (t = 24 ∧ f = 6 ∧ k = 6 ∧ i = 0) → ¬ (k = 7 ∧ ((f = 0 ∧ (t = 31 ∨ t = 32 ∨ t = 33 ∨ t = 36 ∨ t = 37)) ∨ (t = 30 ∧ (f = 6 ∨ f = 7 ∨ f = 9)))) → h'.1 t f k i = h.1 t f k i) ∧ ∀ t f k i, k ≠ 0 → k ≠ 1 → h'.2 t f k i = h.2 t f k i
theorem z_F_mk {n : Nat} {h h' : q_H} (a : z_F h h') (m : z_mk n h) : z_mk n h' := by
  obtain ⟨m, m1, m2, m3⟩ := m
  refine ⟨m, m1, by rw [a.1 30 5 7 0 (by decide) (by decide) (by omega) (by omega)]; exact m2, fun j hj => ?_⟩
  obtain ⟨B, b1, b2, b3, b4⟩ := m3 j hj
  refine ⟨B, fun c hc => by rw [a.1 35 0 7 _ (by decide) (by decide) (by omega) (by omega)]; exact b1 c hc, b2, b3, ?_⟩
  rw [z_st (fun t f i => a.1 t f (3 + j) i (by omega) (by omega) (by omega) (by omega)) (fun t f i => a.2 t f (3 + j) i (by omega) (by omega))]
  exact b4
theorem z_F_tx {h h' : q_H} (a : z_F h h') (m : z_tx h) : z_tx h' := by
  obtain ⟨⟨t, t1, t2, t3⟩, m2, m3, m4, m5⟩ := m
  have o : ∀ t f k i, (t = 25 ∨ t = 26) ∧ k = 6 ∨ ((t = 38 ∨ t = 40) ∧ k = 7) ∨ (t = 30 ∧ k = 7 ∧ (f = 12 ∨ f = 13 ∨ f = 14)) → h'.1 t f k i = h.1 t f k i := fun t f k i q => a.1 t f k i (by omega) (by omega) (by omega) (by omega)
  refine ⟨⟨t, t1, by rw [o 25 1 6 0 (by omega)]; exact t2, by rw [o 30 12 7 0 (by omega)]; exact t3⟩, fun i hi => by rw [o 26 0 6 i (by omega), o 38 0 7 i (by omega)]; exact m2 i hi, fun k hk => by rw [a.2 39 0 7 k (by decide) (by decide)]; exact m3 k hk, fun k hk => by rw [o 40 0 7 k (by omega)]; exact m4 k hk, ?_⟩
  rw [o 25 14 6 0 (by omega), o 25 15 6 0 (by omega), o 25 16 6 0 (by omega), o 30 13 7 0 (by omega), o 30 14 7 0 (by omega)]
  exact m5
theorem z_F_HM {h h1 h2 : q_H} {st : Int32} (a : g_fH h h1 st) (b : g_fM h1 h2) : z_F h h2 := ⟨fun t f k i n0 n1 n2 n3 => (b.1 t f k i n3).trans (a.1 t f k i n0 n1 n2), fun t f k i n0 n1 => by rw [b.2]; exact a.2.1 t f k i n0 n1⟩
theorem z_law {n : Nat} {h : q_H} {C : Option (Int32 × q_H)} {M : q_H → Option (Int32 × q_H)} (hn : n < 512) (rel : z_Rel n h) (law : ∀ A, g_W A → g_c1 A → g_R (z_bd n) (g_st h 0) A → z_bd n < 2 ^ 30 → r_n (g_st h 1) → g_law (z_bd n + 60) A h C M) : ∃ (r : Int32) (h1 : q_H) (h2 : q_H), C = some (r, h1) ∧ M h1 = some (r, h2) ∧ z_Rel (n + 1) h2 := by
  obtain ⟨A, e1, e2, e3, e4, e5, e6, e7, e8, e9⟩ := rel
  obtain ⟨r, st, h1, k1, k2, k3⟩ := law A e2 e3 e4 (by unfold z_bd; omega) (e8 1 (by decide))
  have i1 : g_is h1 A := g_is_cg (fun j => k2.1 31 0 7 j (by decide) (by decide) (by omega)) e1
  obtain ⟨A', h2, j1, j2, j3, j4, j5, j6, j7⟩ := k3 h1 i1 (by rw [k2.1 30 5 7 0 (by decide) (by decide) (by omega)]; exact e6.symm)
  have F := z_F_HM k2 j5
  have hb : z_bd n + 60 ≤ z_bd (n + 1) := by unfold z_bd; omega
  have s0 : ∀ k, k ≠ 7 → g_st h2 k = g_st h1 k := fun k hk => z_st (fun t f i => j5.1 t f k i (by omega)) (fun t f i => by rw [j5.2])
  refine ⟨r, h1, h2, k1, j3, A', j4, j2, j7 e3, ?_, ?_, ?_, ?_, fun k hk => ?_, z_F_tx F e9⟩
  · rw [s0 0 (by decide)]; exact g_R_mono j1 hb
  · rw [j5.1 24 6 6 0 (by omega), k2.2.2.1, j6]
  · rw [F.1 24 5 6 0 (by decide) (by decide) (by omega) (by omega), F.1 30 5 7 0 (by decide) (by decide) (by omega) (by omega)]; exact e6
  · obtain ⟨m, m1, m2, m3⟩ := z_F_mk F e7
    refine ⟨m, m1, m2, fun j hj => ?_⟩
    obtain ⟨B, b1, b2, b3, b4⟩ := m3 j hj
    exact ⟨B, b1, b2, b3, g_R_mono b4 (by omega)⟩
  · rw [s0 k (by omega)]
    by_cases k0 : k = 0
    · subst k0
      exact j1.2.2.2.2.1
    · by_cases k1' : k = 1
      · subst k1'
        exact k2.2.2.2 (e8 1 (by decide))
      · rw [z_st (fun t f i => k2.1 t f k i k0 k1' (by omega)) (fun t f i => k2.2.1 t f k i k0 k1')]
        exact e8 k hk
theorem z_up {n : Nat} {A : g_A} {h : q_H} {C : Option (Int32 × q_H)} {M : q_H → Option (Int32 × q_H)} (l : g_law (z_bd n) A h C M) : g_law (z_bd n + 60) A h C M := law_mo l (by omega)
theorem z_up1 {n : Nat} {A : g_A} {h : q_H} {C : Option (Int32 × q_H)} {M : q_H → Option (Int32 × q_H)} (l : g_law (z_bd n + 1) A h C M) : g_law (z_bd n + 60) A h C M := law_mo l (by omega)
theorem z_S4 : lw_S4 z_Rel := fun n h a1 hn rel => z_law hn rel (fun A w c r b s => z_up (law_many w r))
theorem z_S5 : lw_S5 z_Rel := fun n h a1 hn rel => z_law hn rel (fun A w c r b s => z_up (law_counts w r))
theorem z_S6 : lw_S6 z_Rel := fun n h a1 a2 hn rel => z_law hn rel (fun A w c r b s => z_up (law_page w c r))
theorem z_S7 : lw_S7 z_Rel := fun n h a1 a2 a3 hn rel => z_law hn rel (fun A w c r b s => z_up (law_slot w r))
theorem z_S8 : lw_S8 z_Rel := fun n h a1 a2 a3 hn rel => z_law hn rel (fun A w c r b s => z_up (law_version w r))
theorem z_S9 : lw_S9 z_Rel := fun n h a1 a2 hn rel => z_law hn rel (fun A w c r b s => z_up (law_entry w r))
theorem z_S10 : lw_S10 z_Rel := fun n h a1 a2 hn rel => z_law hn rel (fun A w c r b s => z_up (law_txn w r))
theorem z_S11 : lw_S11 z_Rel := fun n h a1 a2 hn rel => z_law hn rel (fun A w c r b s => z_up (law_knows w r))
theorem z_S12 : lw_S12 z_Rel := fun n h a1 a2 a3 hn rel => z_law hn rel (fun A w c r b s => z_up (law_sees w r))
theorem z_S13 : lw_S13 z_Rel := fun n h a1 hn rel => z_law hn rel (fun A w c r b s => z_up (law_versions w r))
theorem z_S14 : lw_S14 z_Rel := fun n h a1 a2 a3 hn rel => z_law hn rel (fun A w c r b s => z_up (law_trail w r b))
theorem z_S15 : lw_S15 z_Rel := fun n h a1 a2 hn rel => z_law hn rel (fun A w c r b s => z_up (law_event w r))
theorem z_S16 : lw_S16 z_Rel := fun n h hn rel => z_law hn rel (fun A w c r b s => z_up (law_eq (law_act (act_begin w r)) rfl))
theorem z_S17 : lw_S17 z_Rel := fun n h a1 hn rel => z_law hn rel (fun A w c r b s => z_up (law_eq (law_act (act_commit w r)) rfl))
theorem z_S18 : lw_S18 z_Rel := fun n h a1 hn rel => z_law hn rel (fun A w c r b s => z_up (law_eq (law_act (act_abort w r)) rfl))
theorem z_S19 : lw_S19 z_Rel := fun n h a1 a2 a3 a4 hn rel => z_law hn rel (fun A w c r b s => z_up1 (law_eq (law_act (act_insert w r b)) rfl))
theorem z_S20 : lw_S20 z_Rel := fun n h a1 a2 a3 a4 a5 hn rel => z_law hn rel (fun A w c r b s => z_up1 (law_eq (law_act (act_update w r b s)) rfl))
theorem z_S21 : lw_S21 z_Rel := fun n h a1 a2 hn rel => z_law hn rel (fun A w c r b s => z_up (law_eq (law_act (act_delete w r)) rfl))
theorem z_S22 : lw_S22 z_Rel := fun n h a1 a2 hn rel => z_law hn rel (fun A w c r b s => z_up (law_await w r))
theorem z_S23 : lw_S23 z_Rel := fun n h a1 hn rel => z_law hn rel (fun A w c r b s => z_up (law_eq (law_act (act_prune w r)) rfl))
theorem z_S24 : lw_S24 z_Rel := fun n h hn rel => z_law hn rel (fun A w c r b s => z_up (law_eq (law_act (act_vacuum w r)) rfl))
theorem z_S25 : lw_S25 z_Rel := fun n h a1 a2 hn rel => z_law hn rel (fun A w c r b s => z_up (law_eq (law_act (act_look w r)) rfl))
theorem z_S26 : lw_S26 z_Rel := fun n h a1 a2 hn rel => z_law hn rel (fun A w c r b s => z_up (law_found w r))
theorem z_S27 : lw_S27 z_Rel := fun n h hn rel => z_law hn rel (fun A w c r b s => law_eq (law_act (act_repack w r s)) rfl)
theorem z_S28 : lw_S28 z_Rel := fun n h a1 a2 hn rel => z_law hn rel (fun A w c r b s => z_up (law_set w r))
theorem z_S31 : lw_S31 z_Rel := fun n h a1 hn rel => z_law hn rel (fun A w c r b s => z_up (law_without w r))
theorem z_S32 : lw_S32 z_Rel := fun n h a1 a2 hn rel => z_law hn rel (fun A w c r b s => z_up (law_ring w r))
theorem z_S33 : lw_S33 z_Rel := fun n h a1 hn rel => z_law hn rel (fun A w c r b s => z_up (law_blocks w r))
theorem z_S34 : lw_S34 z_Rel := fun n h hn rel => z_law hn rel (fun A w c r b s => z_up (law_holder w r))
theorem z_S35 : lw_S35 z_Rel := fun n h a1 hn rel => z_law hn rel (fun A w c r b s => z_up (law_holds w r s))
theorem z_S36 : lw_S36 z_Rel := fun n h a1 hn rel => z_law hn rel (fun A w c r b s => z_up (law_gains w r s))
theorem z_S37 : lw_S37 z_Rel := fun n h hn rel => z_law hn rel (fun A w c r b s => z_up (law_best w r s))
theorem z_S38 : lw_S38 z_Rel := fun n h a1 a2 hn rel => z_law hn rel (fun A w c r b s => z_up (law_reads w r))
theorem z_S39 : lw_S39 z_Rel := fun n h a1 hn rel => z_law hn rel (fun A w c r b s => z_up (law_most w r s))
