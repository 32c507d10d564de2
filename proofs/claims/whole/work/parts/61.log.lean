/-! what changes a store: events and counts -/
def g_tell (A : g_A) (kd nm : Int32) : g_A := fun g i w => if g = 4 ∧ i < 24 ∧ w < 2 then (if i = 0 then (if w = 0 then kd else nm) else A 4 (i - 1) w) else if g = 0 ∧ i = 6 ∧ w = 0 then (if A 0 6 0 < 24 then A 0 6 0 + 1 else 24) else A g i w
def g_tj (A : g_A) (j : Nat) : g_A := fun g i w => if g = 4 ∧ i < 24 ∧ w < 2 ∧ 48 ≤ 2 * i + w + j then A 4 (i - 1) w else A g i w
theorem g_tj_s {A : g_A} {j : Nat} (hj : j < 46) : g_au (g_tj A j) 4 ((47 - j) / 2) ((47 - j) % 2) (g_tj A j 4 ((47 - j) / 2 - 1) ((47 - j) % 2)) = g_tj A (j + 1) := by
  funext g i w
  unfold g_au g_tj
  by_cases e : g = 4 ∧ i = (47 - j) / 2 ∧ w = (47 - j) % 2
  · obtain ⟨rfl, rfl, rfl⟩ := e
    rw [if_pos ⟨rfl, rfl, rfl⟩, if_neg (by omega), if_pos (by omega)]
  · rw [if_neg e]
    by_cases c : g = 4 ∧ i < 24 ∧ w < 2 ∧ 48 ≤ 2 * i + w + j
    · rw [if_pos c, if_pos (by omega)]
    · rw [if_neg c, if_neg (by omega)]
theorem g_tj_e {A : g_A} {kd nm : Int32} : g_au (g_au (g_au (g_tj A 46) 4 0 0 kd) 4 0 1 nm) 0 6 0 (if A 0 6 0 < 24 then A 0 6 0 + 1 else 24) = g_tell A kd nm := by
  funext g i w
  unfold g_tell
  by_cases e1 : g = 0 ∧ i = 6 ∧ w = 0
  · obtain ⟨rfl, rfl, rfl⟩ := e1
    unfold g_au
    simp
  · unfold g_au
    rw [if_neg e1]
    by_cases c : g = 4 ∧ i < 24 ∧ w < 2
    · rw [if_pos c]
      obtain ⟨rfl, hi, hw⟩ := c
      by_cases i0 : i = 0
      · subst i0
        rw [if_pos rfl]
        by_cases w0 : w = 0
        · subst w0; rw [if_neg (by omega), if_pos ⟨rfl, rfl, rfl⟩, if_pos rfl]
        · have : w = 1 := by omega
          subst this
          rw [if_pos ⟨rfl, rfl, rfl⟩, if_neg (by omega)]
      · rw [if_neg (by omega), if_neg (by omega), if_neg i0]
        unfold g_tj
        rw [if_pos (by omega)]
    · rw [if_neg c, if_neg (fun q => c ⟨q.1, by omega, by omega⟩), if_neg (fun q => c ⟨q.1, by omega, by omega⟩), if_neg e1]
      unfold g_tj
      rw [if_neg (fun q => c ⟨q.1, q.2.1, q.2.2.1⟩)]
theorem g_w0 {h : q_H} {A : g_A} {i : Nat} {v : Int32} (hi : i < 32) : q_si (g_ma h 31 A) 31 0 7 i v = g_ma h 31 (g_au A 0 i 0 v) := g_ma_si (g := 0) (i := i) (w := 0) (fun B => g_at0 hi) rfl (by omega)
theorem m_tells {h : q_H} {A : g_A} {kd nm : Int32} : Mo_tellsOf kd nm (g_ma h 31 A) = some (g_ma h 31 (g_tell A kd nm)) := by
  unfold Mo_tellsOf
  refine g_bd (g_lp (fun j => (nI (47 - j), g_ma h 31 (g_tj A j))) (g_ma h 31 (g_tj A 46)) 46 (fun j hj => ?_) ?_ q_fu (by decide)) ?_ |> fun q => (by
    have e : (((47 : Int32), g_ma h 31 A) : Int32 × q_H) = (nI (47 - 0), g_ma h 31 (g_tj A 0)) := by
      have : g_tj A 0 = A := by
        funext g i w
        unfold g_tj
        rw [if_neg (by omega)]
      rw [this]; rfl
    rw [e]; exact q)
  · have hr : ∀ B : g_A, g_at B (1235 + (47 - j)) = B 4 ((47 - j) / 2) ((47 - j) % 2) := fun B => by
      have := g_at4 (A := B) (s := (47 - j) / 2) (w := (47 - j) % 2) (by omega) (by omega)
      rw [← this]
      congr 1
      omega
    have hr2 : g_at (g_tj A j) (1235 + (47 - j) - 2) = g_tj A j 4 ((47 - j) / 2 - 1) ((47 - j) % 2) := by
      have := g_at4 (A := g_tj A j) (s := (47 - j) / 2 - 1) (w := (47 - j) % 2) (by omega) (by omega)
      rw [← this]
      congr 1
      omega
    rw [if_neg (show ¬ nI (47 - j) ≤ (1 : Int32) from fun q => absurd ((nI_leI (b := 1) (by omega) (by decide)).mp q) (by omega)), show (1235 : Int32) = nI 1235 from rfl, nI_add, show (2 : Int32) = nI 2 from rfl, pk_sub (by omega), g_inN (by omega) (by decide), g_inN (by omega) (by decide), g_cl (by omega), g_cl (by omega), g_ma_rd (by omega), hr2, g_ma_si hr (by unfold g_ix; simp; omega) (by omega), g_tj_s hj]
    have e : 47 - j = 47 - (j + 1) + 1 := by omega
    rw [e, pk_m1]
    rfl
  · rfl
  · rw [g_ma_si (g := 4) (i := 0) (w := 0) (j := 1235) (fun B => rfl) rfl (by decide), g_ma_si (g := 4) (i := 0) (w := 1) (j := 1236) (fun B => rfl) rfl (by decide), m_g (by omega)]
    have e6 : g_au (g_au (g_tj A 46) 4 0 0 kd) 4 0 1 nm 0 6 0 = A 0 6 0 := rfl
    rw [e6, g_w0 (by decide), g_w0 (by decide), ← g_tj_e]
    by_cases c : A 0 6 0 < 24
    · rw [if_neg (Int32.not_le.mpr c), if_pos c]
    · rw [if_pos (Int32.not_lt.mp c), if_neg c]
/-- the same in a store -/
def g_tellS (S : g_S) (kd nm : Int32) : g_S := (fun t f i => if t = 16 ∧ f = 0 ∧ i < 24 then (if i = 0 then kd else S.1 16 0 (i - 1)) else if t = 17 ∧ f = 0 ∧ i < 24 then (if i = 0 then nm else S.1 17 0 (i - 1)) else if t = 15 ∧ f = 3 ∧ i = 0 then (if 24 < S.1 15 3 0 + 1 then 24 else S.1 15 3 0 + 1) else S.1 t f i, S.2)
def g_tjS (S : g_S) (j : Nat) : g_S := (fun t f i => if t = 16 ∧ f = 0 ∧ i < 24 ∧ 24 ≤ i + j then S.1 16 0 (i - 1) else if t = 17 ∧ f = 0 ∧ i < 24 ∧ 24 ≤ i + j then S.1 17 0 (i - 1) else S.1 t f i, S.2)
theorem g_tjS_s {S : g_S} {j : Nat} (hj : j < 23) : g_su (g_su (g_tjS S j) 16 0 (23 - j) ((g_tjS S j).1 16 0 (23 - j - 1))) 17 0 (23 - j) ((g_su (g_tjS S j) 16 0 (23 - j) ((g_tjS S j).1 16 0 (23 - j - 1))).1 17 0 (23 - j - 1)) = g_tjS S (j + 1) := by
  refine Prod.ext ?_ rfl
  funext t f i
  unfold g_su g_tjS
  dsimp only
  by_cases e : t = 17 ∧ f = 0 ∧ i = 23 - j
  · obtain ⟨rfl, rfl, rfl⟩ := e
    repeat' split
    all_goals first | rfl | omega
  · rw [if_neg e]
    by_cases d : t = 16 ∧ f = 0 ∧ i = 23 - j
    · obtain ⟨rfl, rfl, rfl⟩ := d
      repeat' split
      all_goals first | rfl | omega
    · rw [if_neg d]
      repeat' split
      all_goals first | rfl | omega
theorem g_tjS_e {S : g_S} {kd nm : Int32} : g_su (g_su (g_su (g_tjS S 23) 16 0 0 kd) 17 0 0 nm) 15 3 0 (if 24 < S.1 15 3 0 + 1 then 24 else S.1 15 3 0 + 1) = g_tellS S kd nm := by
  refine Prod.ext ?_ rfl
  funext t f i
  unfold g_tellS g_su
  dsimp only
  unfold g_tjS
  dsimp only
  repeat' split
  all_goals first | rfl | omega
theorem c_tell {H : q_H} {k : Nat} {kd nm : Int32} : Lg_tell k kd nm H = some (g_cw H k (g_tellS (g_st H k) kd nm)) := by
  unfold Lg_tell
  refine g_bs ?_
  have e0 : (((23 : Int32), H) : Int32 × q_H) = (nI (23 - 0), g_cw H k (g_tjS (g_st H k) 0)) := by
    have : g_tjS (g_st H k) 0 = g_st H k := by
      refine Prod.ext ?_ rfl
      funext t f i
      unfold g_tjS
      dsimp only
      rw [if_neg (by omega), if_neg (by omega)]
    rw [this, g_cw_st]; rfl
  rw [e0]
  refine g_lp (fun j => (nI (23 - j), g_cw H k (g_tjS (g_st H k) j))) _ 23 (fun j hj => ?_) ?_ q_fu (by decide)
  · dsimp only
    rw [if_neg (nI_nle (by omega) (by omega)), show (1 : Int32) = nI 1 from rfl, pk_sub (by omega), c_pick (n := 24) rfl rfl (by omega) (by decide)]
    simp only [Option.bind_some]
    rw [c_put (n := 24) rfl rfl (by omega) (by decide), g_cw_rd, g_cw_si]
    simp only [Option.bind_some]
    rw [c_pick (n := 24) rfl rfl (by omega) (by decide)]
    simp only [Option.bind_some]
    rw [c_put (n := 24) rfl rfl (by omega) (by decide), g_cw_rd, g_cw_si]
    simp only [Option.bind_some]
    rw [g_tjS_s hj]
    have e : 23 - j = 23 - (j + 1) + 1 := by omega
    rw [e, show (-nI 1 : Int32) = -1 from rfl, pk_m1]
  · dsimp only
    rw [show nI (23 - 23) = (0 : Int32) from rfl, if_pos (by decide), show (0 : Int32) = nI 0 from rfl, c_put (n := 24) rfl rfl (by omega) (by decide), g_cw_si]
    simp only [Option.bind_some]
    rw [c_put (n := 24) rfl rfl (by omega) (by decide), g_cw_si]
    simp only [Option.bind_some]
    rw [g_cw_rd, g_cw_si]
    have e1 : (g_su (g_su (g_tjS (g_st H k) 23) 16 0 0 kd) 17 0 0 nm).1 15 3 0 = (g_st H k).1 15 3 0 := rfl
    rw [e1, g_tjS_e]
theorem c_count {H : q_H} {k j : Nat} {v : Int32} (hj : j < 8) : Lg_count k (nI j) v H = some (g_cw H k (g_su (g_st H k) 18 0 j (H.1 18 0 k j + v))) := by
  unfold Lg_count
  rw [c_pick (n := 8) rfl rfl hj (by decide)]
  simp only [Option.bind_some]
  rw [c_put (n := 8) rfl rfl hj (by decide)]
  simp only [Option.bind_some]
  rw [g_si_cw]
/-- the log of a store -/
def g_nv (A : g_A) : Nat := (A 0 6 0).toNatClampNeg
def g_wg (A : g_A) : Prop := A 0 6 0 = nI (g_nv A) ∧ g_nv A ≤ 24
def r_l (S : g_S) (A : g_A) : Prop := S.1 15 3 0 = A 0 6 0 ∧ (∀ i, i < g_nv A → S.1 16 0 i = A 4 i 0 ∧ S.1 17 0 i = A 4 i 1) ∧ ∀ j, j < 8 → S.1 18 0 j = A 0 (9 + j) 0
theorem g_tell_nv {A : g_A} {kd nm : Int32} (hw : g_wg A) : g_wg (g_tell A kd nm) ∧ g_nv (g_tell A kd nm) = min (g_nv A + 1) 24 := by
  have e : g_tell A kd nm 0 6 0 = nI (min (g_nv A + 1) 24) := by
    show (if A 0 6 0 < 24 then A 0 6 0 + 1 else 24) = _
    rw [hw.1]
    by_cases c : g_nv A < 24
    · rw [if_pos (show nI (g_nv A) < (24 : Int32) from nI_lt (b := 24) c (by decide)), nI_1, Nat.min_eq_left (by omega)]
    · rw [if_neg (show ¬ nI (g_nv A) < (24 : Int32) from nI_nlt (b := 24) (by omega) (by have := hw.2; omega)), Nat.min_eq_right (by omega)]; rfl
  have e2 : g_nv (g_tell A kd nm) = min (g_nv A + 1) 24 := by
    show (g_tell A kd nm 0 6 0).toNatClampNeg = _
    rw [e, g_cl (by omega)]
  exact ⟨⟨by rw [e2, e], by omega⟩, e2⟩
theorem r_l_tell {S : g_S} {A : g_A} {kd nm : Int32} (hr : r_l S A) (hw : g_wg A) : r_l (g_tellS S kd nm) (g_tell A kd nm) := by
  obtain ⟨_, e2⟩ := g_tell_nv (kd := kd) (nm := nm) hw
  refine ⟨?_, fun i hi => ?_, fun j hj => ?_⟩
  case refine_3 =>
    have a : (g_tellS S kd nm).1 18 0 j = S.1 18 0 j := by unfold g_tellS; dsimp only; rw [if_neg (by omega), if_neg (by omega), if_neg (by omega)]
    have b : g_tell A kd nm 0 (9 + j) 0 = A 0 (9 + j) 0 := by unfold g_tell; rw [if_neg (by omega), if_neg (by omega)]
    rw [a, b]; exact hr.2.2 j hj
  · show (if 24 < S.1 15 3 0 + 1 then 24 else S.1 15 3 0 + 1) = (if A 0 6 0 < 24 then A 0 6 0 + 1 else 24)
    rw [hr.1, hw.1]
    by_cases c : g_nv A < 24
    · rw [nI_1, if_neg (show ¬ (24 : Int32) < nI (g_nv A + 1) from nI_nlt (a := 24) (by omega) (by omega)), if_pos (show nI (g_nv A) < (24 : Int32) from nI_lt (b := 24) c (by decide))]
    · have : g_nv A = 24 := by have := hw.2; omega
      rw [this]; rfl
  · rw [e2] at hi
    by_cases i0 : i = 0
    · subst i0; exact ⟨rfl, rfl⟩
    · have h1 : i - 1 < g_nv A := by omega
      have := hr.2.1 (i - 1) h1
      refine ⟨?_, ?_⟩
      · have a : (g_tellS S kd nm).1 16 0 i = S.1 16 0 (i - 1) := by unfold g_tellS; dsimp only; rw [if_pos ⟨rfl, rfl, by omega⟩, if_neg i0]
        have b : g_tell A kd nm 4 i 0 = A 4 (i - 1) 0 := by unfold g_tell; rw [if_pos ⟨rfl, by omega, by omega⟩, if_neg i0]
        rw [a, b]; exact this.1
      · have a : (g_tellS S kd nm).1 17 0 i = S.1 17 0 (i - 1) := by unfold g_tellS; dsimp only; rw [if_neg (by omega), if_pos ⟨rfl, rfl, by omega⟩, if_neg i0]
        have b : g_tell A kd nm 4 i 1 = A 4 (i - 1) 1 := by unfold g_tell; rw [if_pos ⟨rfl, by omega, by omega⟩, if_neg i0]
        rw [a, b]; exact this.2
theorem r_l_count {S : g_S} {A : g_A} {j : Nat} {v : Int32} (hr : r_l S A) (hj : j < 8) : r_l (g_su S 18 0 j (S.1 18 0 j + v)) (g_au A 0 (9 + j) 0 (A 0 (9 + j) 0 + v)) := by
  have e6 : g_au A 0 (9 + j) 0 (A 0 (9 + j) 0 + v) 0 6 0 = A 0 6 0 := by unfold g_au; rw [if_neg (by omega)]
  refine ⟨?_, fun i hi => ?_, fun i hi => ?_⟩
  · rw [e6]; exact hr.1
  · have : g_nv (g_au A 0 (9 + j) 0 (A 0 (9 + j) 0 + v)) = g_nv A := by unfold g_nv; rw [e6]
    rw [this] at hi
    exact hr.2.1 i hi
  · unfold g_su g_au
    dsimp only
    by_cases c : i = j
    · subst c; rw [if_pos ⟨rfl, rfl, rfl⟩, if_pos ⟨rfl, rfl, rfl⟩, hr.2.2 i hi]
    · rw [if_neg (by omega), if_neg (by omega)]; exact hr.2.2 i hi
