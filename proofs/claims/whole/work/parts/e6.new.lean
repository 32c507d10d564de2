/-! a new store -/
def g_A0 : g_A := g_au (g_au (g_au (g_au (g_au (fun _ _ _ => 0) 0 0 0 64) 0 1 0 3) 0 2 0 5) 0 4 0 2) 3 1 0 1
theorem g_A0_1 {s w : Nat} : g_A0 1 s w = 0 := by
  unfold g_A0
  rw [g_au_ne (by omega), g_au_ne (by omega), g_au_ne (by omega), g_au_ne (by omega), g_au_ne (by omega)]
theorem g_A0_0 {i : Nat} (h0 : i ≠ 0) (h1 : i ≠ 1) (h2 : i ≠ 2) (h4 : i ≠ 4) : g_A0 0 i 0 = 0 := by
  unfold g_A0
  rw [g_au_ne (by omega), g_au_ne (by omega), g_au_ne (by omega), g_au_ne (by omega), g_au_ne (by omega)]
theorem g_A0_6 {i : Nat} : g_A0 6 i 0 = 0 := by
  unfold g_A0
  rw [g_au_ne (by omega), g_au_ne (by omega), g_au_ne (by omega), g_au_ne (by omega), g_au_ne (by omega)]
theorem g_A0_ln {p : Nat} : g_ln g_A0 p = 0 := by
  unfold g_ln
  rw [g_A0_0 (by omega) (by omega) (by omega) (by omega)]; rfl
theorem g_A0_iv {s : Nat} : g_iv g_A0 s = false := by
  unfold g_iv
  rw [g_A0_ln]; exact decide_eq_false (by omega)
theorem g_A0_fu {s : Nat} : g_fu g_A0 s = false := by
  unfold g_fu
  rw [g_A0_iv]; rfl
theorem g_A0_nx : g_nx g_A0 = 2 := rfl
theorem g_A0_W : g_W g_A0 := by
  have nf : ∀ {s : Nat} {P : Prop}, g_fu g_A0 s = true → P := fun h => by rw [g_A0_fu] at h; cases h
  have ni : ∀ {s : Nat} {P : Prop}, g_iv g_A0 s = true → P := fun h => by rw [g_A0_iv] at h; cases h
  refine ⟨⟨⟨rfl, by decide, by decide⟩, fun t a b => ?_, fun p hp => ?_, fun s _ f => nf f, fun s _ f => nf f, fun a b x _ _ _ l => ?_, fun a _ i => ni i, fun s _ f => nf f, fun s _ f => nf f⟩, ⟨⟨rfl, by decide, fun i hi => ?_⟩, fun i hi => ?_, fun s _ f => nf f⟩, ⟨rfl, by decide⟩, ⟨fun t a b => ?_, fun t a b => ?_⟩, ⟨rfl, by decide, fun s _ f => nf f⟩, ⟨3, by decide, by decide, rfl⟩, ⟨rfl, by decide, fun i hi => ?_⟩, fun a b _ _ f => nf f⟩
  · rw [g_A0_nx] at b
    have : t = 1 := by omega
    subst this
    exact Or.inr (Or.inl rfl)
  · rw [g_A0_ln, g_A0_0 (by omega) (by omega) (by omega) (by omega)]
    exact ⟨rfl, by decide⟩
  · rcases l with l | l
    · exact ni l.1
    · exact nf l.1
  · exact absurd hi (Nat.not_lt_zero i)
  · exact absurd hi (Nat.not_lt_zero i)
  · rw [g_A0_nx] at b ⊢
    have : g_wn g_A0 t = 0 := by unfold g_wn; rw [g_A0_6]; rfl
    rw [this, g_A0_6]
    exact ⟨rfl, by decide⟩
  · refine ⟨1, ?_⟩
    rw [g_wp_s]
    have : g_wn g_A0 t = 0 := by unfold g_wn; rw [g_A0_6]; rfl
    show (if t = 0 then 0 else g_wn g_A0 t) = 0
    rw [this]
    split <;> rfl
  · exact absurd hi (Nat.not_lt_zero i)
theorem g_A0_c1 : g_c1 g_A0 := fun p hp => Or.inl (g_A0_0 (by omega) (by omega) (by omega) (by omega))
/-- a store as it is at first -/
def z_fr (S : g_S) : Prop := (S.1 1 4 0 = 64 ∧ S.1 0 5 0 = 3 ∧ S.1 0 6 0 = 5 ∧ S.1 0 7 0 = 0 ∧ S.1 0 8 0 = 0) ∧ (S.1 6 4 0 = 2 ∧ S.1 6 5 0 = 2 ∧ S.1 7 0 1 = 1 ∧ S.1 8 0 1 = 1 ∧ S.1 9 0 1 = -1 ∧ S.2 10 0 1 = 0) ∧ (∀ p, p < 6 → S.1 4 0 p = 0 ∧ S.1 5 0 p = 0) ∧ (∀ s, s ≤ 60 → S.1 3 0 s = 0 ∧ S.1 3 1 s = -1 ∧ S.1 3 2 s = -1 ∧ S.1 3 3 s = -1 ∧ S.1 3 4 s = -1 ∧ S.1 3 5 s = 0 ∧ S.1 3 6 s = -1 ∧ S.1 3 7 s = -1 ∧ S.1 3 8 s = -1 ∧ S.1 3 10 s = 0 ∧ S.1 3 11 s = 0) ∧ S.1 11 3 0 = 0 ∧ S.1 15 3 0 = 0 ∧ (∀ j, j < 8 → S.1 18 0 j = 0) ∧ S.1 19 4 0 = 0
theorem z_fr_R {S : g_S} (h : z_fr S) : g_R 0 S g_A0 := by
  obtain ⟨⟨g1, g2, g3, g4, g5⟩, ⟨t1, t2, t3, t4, t5, t6⟩, p1, s1, i1, l1, l2, f1⟩ := h
  have nf : ∀ {s : Nat} {P : Prop}, g_fu g_A0 s = true → P := fun h => by rw [g_A0_fu] at h; cases h
  refine ⟨⟨g1, g2, g3, g4⟩, ⟨t1, fun t a b => ?_⟩, t2, fun p hp => ⟨?_, ?_, fun j hj => ⟨fun f => nf f, fun _ => ?_⟩⟩, s1 60 (Nat.le_refl 60), ⟨i1, fun i hi => absurd hi (Nat.not_lt_zero i)⟩, ⟨l1, fun i hi => absurd hi (Nat.not_lt_zero i), fun j hj => ?_⟩, ⟨f1, fun i hi => absurd hi (Nat.not_lt_zero i)⟩, ⟨0, 0, g5, rfl, Nat.le_refl 0, Nat.le_refl 0, fun s _ f => nf f⟩, fun s s' _ _ f => nf f⟩
  · rw [g_A0_nx] at b
    have : t = 1 := by omega
    subst this
    refine ⟨t3, t4, ?_, fun o a b => by omega, fun o ho _ => ?_⟩
    · rw [g_A0_6, if_neg (by decide)]; exact t5
    · rw [t6]
      unfold g_bt
      show (0#64).getLsbD o = false
      exact BitVec.getLsbD_zero
  · rw [g_A0_0 (by omega) (by omega) (by omega) (by omega)]; exact (p1 p hp).1
  · rw [g_A0_0 (by omega) (by omega) (by omega) (by omega)]; exact (p1 p hp).2
  · obtain ⟨a0, a1, a2, a3, a4, a5, a6, a7, a8, a10, a11⟩ := s1 (10 * p + j) (by omega)
    rw [g_A0_iv, if_neg (by decide), if_neg (fun q => by cases q.1)]
    exact ⟨a0, a1, a2, a3, a4, a5, a6, a7, a8, a10, a11⟩
  · rw [g_A0_0 (by omega) (by omega) (by omega) (by omega)]; exact l2 j hj
def z_tS (S : g_S) (n : Nat) : g_S := (fun t f j => if (t = 7 ∨ t = 8 ∨ t = 9) ∧ f = 0 ∧ j < n then (if t = 7 then 1 else if t = 8 then nI j else -1) else S.1 t f j, fun t f j => if t = 10 ∧ f = 0 ∧ j < n then 0 else S.2 t f j)
def z_lS (S : g_S) (n : Nat) : g_S := (fun t f j => if t = 18 ∧ f = 0 ∧ j < n then 0 else S.1 t f j, S.2)
theorem z_tS_s {S : g_S} {i : Nat} : g_sl (g_su (g_su (g_su (z_tS S i) 7 0 i 1) 8 0 i (nI i)) 9 0 i (-1)) 10 0 i 0 = z_tS S (i + 1) := by
  refine Prod.ext ?_ ?_
  · funext t f j
    show (if t = 9 ∧ f = 0 ∧ j = i then (-1 : Int32) else if t = 8 ∧ f = 0 ∧ j = i then nI i else if t = 7 ∧ f = 0 ∧ j = i then 1 else (if (t = 7 ∨ t = 8 ∨ t = 9) ∧ f = 0 ∧ j < i then (if t = 7 then 1 else if t = 8 then nI j else -1) else S.1 t f j)) = (if (t = 7 ∨ t = 8 ∨ t = 9) ∧ f = 0 ∧ j < i + 1 then (if t = 7 then 1 else if t = 8 then nI j else -1) else S.1 t f j)
    by_cases c : f = 0 ∧ j = i
    · obtain ⟨rfl, rfl⟩ := c
      by_cases t9 : t = 9
      · subst t9
        rw [if_pos ⟨rfl, rfl, rfl⟩, if_pos ⟨by omega, rfl, by omega⟩, if_neg (by decide), if_neg (by decide)]
      · rw [if_neg (fun q => t9 q.1)]
        by_cases t8 : t = 8
        · subst t8
          rw [if_pos ⟨rfl, rfl, rfl⟩, if_pos ⟨by omega, rfl, by omega⟩, if_neg (by decide), if_pos rfl]
        · rw [if_neg (fun q => t8 q.1)]
          by_cases t7 : t = 7
          · subst t7
            rw [if_pos ⟨rfl, rfl, rfl⟩, if_pos ⟨by omega, rfl, by omega⟩, if_pos rfl]
          · rw [if_neg (fun q => t7 q.1), if_neg (by omega), if_neg (by omega)]
    · rw [if_neg (fun q => c q.2), if_neg (fun q => c q.2), if_neg (fun q => c q.2)]
      by_cases d : (t = 7 ∨ t = 8 ∨ t = 9) ∧ f = 0 ∧ j < i
      · have d' : (t = 7 ∨ t = 8 ∨ t = 9) ∧ f = 0 ∧ j < i + 1 := ⟨d.1, d.2.1, by omega⟩
        rw [if_pos d, if_pos d']
      · rw [if_neg d, if_neg (fun q => by
          by_cases z : j = i
          · exact c ⟨q.2.1, z⟩
          · exact d ⟨q.1, q.2.1, by omega⟩)]
  · funext t f j
    show (if t = 10 ∧ f = 0 ∧ j = i then (0 : Int64) else if t = 10 ∧ f = 0 ∧ j < i then 0 else S.2 t f j) = (if t = 10 ∧ f = 0 ∧ j < i + 1 then 0 else S.2 t f j)
    by_cases c : t = 10 ∧ f = 0 ∧ j = i
    · rw [if_pos c, if_pos ⟨c.1, c.2.1, by omega⟩]
    · rw [if_neg c]
      by_cases d : t = 10 ∧ f = 0 ∧ j < i
      · rw [if_pos d, if_pos ⟨d.1, d.2.1, by omega⟩]
      · rw [if_neg d, if_neg (fun q => by omega)]
theorem z_lS_s {S : g_S} {i : Nat} : g_su (z_lS S i) 18 0 i 0 = z_lS S (i + 1) := by
  refine Prod.ext ?_ rfl
  funext t f j
  show (if t = 18 ∧ f = 0 ∧ j = i then (0 : Int32) else if t = 18 ∧ f = 0 ∧ j < i then 0 else S.1 t f j) = (if t = 18 ∧ f = 0 ∧ j < i + 1 then 0 else S.1 t f j)
  by_cases c : t = 18 ∧ f = 0 ∧ j = i
  · rw [if_pos c, if_pos ⟨c.1, c.2.1, by omega⟩]
  · rw [if_neg c]
    by_cases d : t = 18 ∧ f = 0 ∧ j < i
    · rw [if_pos d, if_pos ⟨d.1, d.2.1, by omega⟩]
    · rw [if_neg d, if_neg (fun q => by omega)]
theorem z_lS_o {S : g_S} {n t f j : Nat} (h : ¬ (t = 18 ∧ f = 0 ∧ j < n)) : (z_lS S n).1 t f j = S.1 t f j := if_neg h
theorem z_tS_o {S : g_S} {n t f j : Nat} (h : ¬ ((t = 7 ∨ t = 8 ∨ t = 9) ∧ f = 0 ∧ j < n)) : (z_tS S n).1 t f j = S.1 t f j := if_neg h
theorem c_TnNew {H : q_H} {k : Nat} : Tn_makeAnew k H = some (g_cw H k (g_su (g_su (z_tS (g_st H k) 61) 6 4 0 2) 6 5 0 2)) := by
  unfold Tn_makeAnew
  refine g_bs ?_
  have e0 : (((0 : Int32), H) : Int32 × q_H) = (nI 0, g_cw H k (z_tS (g_st H k) 0)) := by
    have : z_tS (g_st H k) 0 = g_st H k := by
      refine Prod.ext ?_ ?_
      · funext t f j; exact if_neg (by omega)
      · funext t f j; exact if_neg (by omega)
    rw [this, g_cw_st]; rfl
  rw [e0]
  refine g_lp (fun i => (nI i, g_cw H k (z_tS (g_st H k) i))) _ 61 (fun i hi => ?_) ?_ q_fu (by decide)
  · dsimp only
    rw [if_neg (show ¬ (60 : Int32) < nI i from nI_nlt (a := 60) (b := i) (by omega) (by decide)), c_put (t := 7) (n := 61) rfl rfl hi (by omega), Option.bind_some, c_put (t := 8) (n := 61) rfl rfl hi (by omega), Option.bind_some, c_put (t := 9) (n := 61) rfl rfl hi (by omega), Option.bind_some, c_setNoted hi, Option.bind_some, g_cw_si, g_cw_si, g_cw_si, g_st_cw, g_cw_cw, z_tS_s, nI_1]
  · dsimp only
    rw [if_pos (show (60 : Int32) < nI 61 by decide), g_cw_si, g_cw_si]
theorem c_LgNew {H : q_H} {k : Nat} : Lg_makeAnew k H = some (g_cw H k (g_su (z_lS (g_st H k) 8) 15 3 0 0)) := by
  unfold Lg_makeAnew
  refine g_bs ?_
  have e0 : (((0 : Int32), H) : Int32 × q_H) = (nI 0, g_cw H k (z_lS (g_st H k) 0)) := by
    have : z_lS (g_st H k) 0 = g_st H k := by
      refine Prod.ext ?_ rfl
      funext t f j; exact if_neg (by omega)
    rw [this, g_cw_st]; rfl
  rw [e0]
  refine g_lp (fun i => (nI i, g_cw H k (z_lS (g_st H k) i))) _ 8 (fun i hi => ?_) ?_ q_fu (by decide)
  · dsimp only
    rw [if_neg (show ¬ (8 : Int32) ≤ nI i from nI_ge (b := 8) hi (by decide)), g_inN hi (by decide), cond_true, g_cl (by omega), g_cw_si, z_lS_s, nI_1]
  · dsimp only
    rw [if_pos (show (8 : Int32) ≤ nI 8 from Int32.le_refl _), g_cw_si]
theorem c_makeAnew {H : q_H} {k : Nat} (hn : r_n (g_st H k)) : ∃ S', St_makeAnew k H = some (g_cw H k S') ∧ z_fr S' := by
  have e : St_makeAnew k H = some (g_cw H k (g_su (g_su (g_su (g_su (g_su (g_su (z_lS (g_su (g_su (g_su (z_tS (g_su (g_sS (g_st H k) 60 6) 1 4 0 64) 61) 6 4 0 2) 6 5 0 2) 11 3 0 0) 8) 15 3 0 0) 19 4 0 0) 0 5 0 3) 0 6 0 5) 0 7 0 0) 0 8 0 0)) := by
    unfold St_makeAnew
    rw [c_strip, Option.bind_some, g_cw_si, c_TnNew, Option.bind_some, g_st_cw, g_cw_cw, g_cw_si, c_LgNew, Option.bind_some, g_st_cw, g_cw_cw, g_cw_si, g_cw_si, g_cw_si, g_cw_si, g_cw_si]
  refine ⟨_, e, ?_⟩
  have sl : ∀ f s, s ≤ 60 → (g_su (g_su (g_su (g_su (g_su (g_su (z_lS (g_su (g_su (g_su (z_tS (g_su (g_sS (g_st H k) 60 6) 1 4 0 64) 61) 6 4 0 2) 6 5 0 2) 11 3 0 0) 8) 15 3 0 0) 19 4 0 0) 0 5 0 3) 0 6 0 5) 0 7 0 0) 0 8 0 0).1 3 f s = (if s < 60 ∧ f ≤ 11 then (if f = 0 then 0 else if f = 5 ∨ f = 10 ∨ f = 11 then 0 else -1) else H.1 3 f k s) := fun f s hs => by
    rw [g_su_t (by omega), g_su_t (by omega), g_su_t (by omega), g_su_t (by omega), g_su_t (by omega), g_su_t (by omega), z_lS_o (by omega), g_su_t (by omega), g_su_t (by omega), g_su_t (by omega), z_tS_o (by omega), g_su_t (by omega)]
    show (if 3 = 3 ∧ s < 60 ∧ f ≤ 11 then _ else if (3 = 4 ∨ 3 = 5) ∧ f = 0 ∧ s < 6 then (0 : Int32) else H.1 3 f k s) = _
    by_cases c : s < 60 ∧ f ≤ 11
    · rw [if_pos ⟨rfl, c⟩, if_pos c]
    · rw [if_neg (fun q => c q.2), if_neg c, if_neg (by omega)]
  refine ⟨⟨rfl, rfl, rfl, rfl, rfl⟩, ⟨rfl, rfl, rfl, rfl, rfl, rfl⟩, fun p hp => ?_, fun s hs => ?_, rfl, rfl, fun j hj => ?_, rfl⟩
  · have : p = 0 ∨ p = 1 ∨ p = 2 ∨ p = 3 ∨ p = 4 ∨ p = 5 := by omega
    rcases this with rfl | rfl | rfl | rfl | rfl | rfl <;> exact ⟨rfl, rfl⟩
  · rw [sl 0 s hs, sl 1 s hs, sl 2 s hs, sl 3 s hs, sl 4 s hs, sl 5 s hs, sl 6 s hs, sl 7 s hs, sl 8 s hs, sl 10 s hs, sl 11 s hs]
    by_cases c : s < 60
    · simp only [c, true_and]
      exact ⟨rfl, rfl, rfl, rfl, rfl, rfl, rfl, rfl, rfl, rfl, rfl⟩
    · have : s = 60 := by omega
      subst this
      exact hn
  · have : j = 0 ∨ j = 1 ∨ j = 2 ∨ j = 3 ∨ j = 4 ∨ j = 5 ∨ j = 6 ∨ j = 7 := by omega
    rcases this with rfl | rfl | rfl | rfl | rfl | rfl | rfl | rfl <;> rfl
theorem m_clears {h : q_H} : Mo_clears h = some (g_ma h 31 g_A0) := by
  unfold Mo_clears
  refine g_bs ?_
  let X : Nat → q_H := fun i => (fun a f k j => if a = 31 ∧ f = 0 ∧ k = 7 ∧ j < i then 0 else h.1 a f k j, h.2)
  have e0 : (((0 : Int32), h) : Int32 × q_H) = (nI 0, X 0) := by
    have : X 0 = h := by
      refine Prod.ext ?_ rfl
      funext a f k j
      exact if_neg (by omega)
    rw [this]; rfl
  have eZ : X 1644 = g_ma h 31 (fun _ _ _ => 0) := by
    refine Prod.ext ?_ rfl
    funext a f k j
    show (if a = 31 ∧ f = 0 ∧ k = 7 ∧ j < 1644 then (0 : Int32) else h.1 a f k j) = (if a = 31 ∧ f = 0 ∧ k = 7 ∧ j < 1644 then g_at (fun _ _ _ => 0) j else h.1 a f k j)
    have : g_at (fun _ _ _ => (0 : Int32)) j = 0 := by
      obtain ⟨g, i, w, hr, _⟩ := g_at_ix j
      rw [hr]
    rw [this]
  rw [e0]
  refine g_lp (fun i => (nI i, X i)) _ 1644 (fun i hi => ?_) ?_ q_fu (by decide)
  · dsimp only
    rw [if_neg (show ¬ (1644 : Int32) ≤ nI i from nI_ge (b := 1644) hi (by decide)), g_inN hi (by decide), cond_true, g_cl (by omega), nI_1]
    have : q_si (X i) 31 0 7 i 0 = X (i + 1) := by
      refine Prod.ext ?_ rfl
      funext a f k j
      show (if a = 31 ∧ f = 0 ∧ k = 7 ∧ j = i then (0 : Int32) else if a = 31 ∧ f = 0 ∧ k = 7 ∧ j < i then 0 else h.1 a f k j) = (if a = 31 ∧ f = 0 ∧ k = 7 ∧ j < i + 1 then 0 else h.1 a f k j)
      by_cases c : a = 31 ∧ f = 0 ∧ k = 7 ∧ j = i
      · rw [if_pos c, if_pos ⟨c.1, c.2.1, c.2.2.1, by omega⟩]
      · rw [if_neg c]
        by_cases d : a = 31 ∧ f = 0 ∧ k = 7 ∧ j < i
        · rw [if_pos d, if_pos ⟨d.1, d.2.1, d.2.2.1, by omega⟩]
        · rw [if_neg d, if_neg (fun q => by omega)]
    rw [this]
  · dsimp only
    rw [if_pos (show (1644 : Int32) ≤ nI 1644 from Int32.le_refl _), eZ, g_ma_si (g := 0) (i := 0) (w := 0) (fun B => g_at0 (by omega)) rfl (by omega), g_ma_si (g := 0) (i := 1) (w := 0) (fun B => g_at0 (by omega)) rfl (by omega), g_ma_si (g := 0) (i := 2) (w := 0) (fun B => g_at0 (by omega)) rfl (by omega), g_ma_si (g := 0) (i := 4) (w := 0) (fun B => g_at0 (by omega)) rfl (by omega), g_ma_si (g := 3) (i := 1) (w := 0) (j := 1055) (fun B => g_at3 (s := 1) (w := 0) (by omega) (by omega)) rfl (by omega)]
    rfl
