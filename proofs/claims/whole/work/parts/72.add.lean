/-! an entry comes into the index of a store -/
def g_eshS (S : g_S) (m j : Nat) : g_S := (fun t f i => if (t = 12 ∨ t = 13 ∨ t = 14) ∧ f = 0 ∧ i ≤ m ∧ m < i + j then S.1 t 0 (i - 1) else S.1 t f i, S.2)
def g_efS (T : g_S) (i : Nat) (key : Int32) (s : Nat) : g_S := g_su (g_su (g_su (g_su T 12 0 i key) 13 0 i (nI s)) 14 0 i 0) 11 3 0 (T.1 11 3 0 + 1)
theorem g_eshS_s {S : g_S} {m j : Nat} (hj : j < m) : g_su (g_su (g_su (g_eshS S m j) 12 0 (m - j) (S.1 12 0 (m - j - 1))) 13 0 (m - j) (S.1 13 0 (m - j - 1))) 14 0 (m - j) (S.1 14 0 (m - j - 1)) = g_eshS S m (j + 1) := by
  refine Prod.ext ?_ rfl
  funext t f i
  by_cases e : (t = 12 ∨ t = 13 ∨ t = 14) ∧ f = 0 ∧ i = m - j
  · obtain ⟨ht, rfl, rfl⟩ := e
    have r : (g_eshS S m (j + 1)).1 t 0 (m - j) = S.1 t 0 (m - j - 1) := by unfold g_eshS; dsimp only; rw [if_pos (by omega)]
    rw [r]
    rcases ht with rfl | rfl | rfl
    · rw [g_su_t (by omega), g_su_t (by omega), g_su_e]
    · rw [g_su_t (by omega), g_su_e]
    · rw [g_su_e]
  · rw [g_su_t (by omega), g_su_t (by omega), g_su_t (by omega)]
    unfold g_eshS
    dsimp only
    by_cases c : (t = 12 ∨ t = 13 ∨ t = 14) ∧ f = 0 ∧ i ≤ m ∧ m < i + j
    · rw [if_pos c, if_pos (by omega)]
    · rw [if_neg c, if_neg (by omega)]
/-- what an entry more makes -/
theorem g_ent_f {A : g_A} {key : Int32} {s : Nat} (hw : g_wi A) (hn : g_ne A < 60) :
    g_ent A key s 0 5 0 = nI (g_ne A + 1) ∧ g_ne (g_ent A key s) = g_ne A + 1 ∧
    (∀ i w, i < g_ne A - g_es A key s → g_ent A key s 2 i w = A 2 i w) ∧
    (g_ent A key s 2 (g_ne A - g_es A key s) 0 = key ∧ g_ent A key s 2 (g_ne A - g_es A key s) 1 = nI (s / 10) ∧ g_ent A key s 2 (g_ne A - g_es A key s) 2 = nI (s % 10) ∧ g_ent A key s 2 (g_ne A - g_es A key s) 3 = 0) ∧
    (∀ i w, g_ne A - g_es A key s < i → i ≤ g_ne A → w < 4 → g_ent A key s 2 i w = A 2 (i - 1) w) ∧
    (∀ g i w, g ≠ 2 → ¬ (g = 0 ∧ i = 5 ∧ w = 0) → g_ent A key s g i w = A g i w) := by
  have hes := g_es_le (A := A) (key := key) (s := s)
  have e5 : g_ent A key s 0 5 0 = nI (g_ne A + 1) := by
    unfold g_ent g_ef
    rw [g_au_eq, g_esh_o (by omega), hw.1, nI_1]
  refine ⟨e5, ?_, fun i w h => ?_, ⟨?_, ?_, ?_, ?_⟩, fun i w h1 h2 h3 => ?_, fun g i w h1 h2 => ?_⟩
  · unfold g_ne
    rw [e5, g_cl (by have := hw.2.1; omega)]
    rfl
  · unfold g_ent g_ef
    rw [g_au_ne (by omega), g_au_ne (by omega), g_au_ne (by omega), g_au_ne (by omega), g_au_ne (by omega)]
    exact g_esh_lo (by omega) w
  · unfold g_ent g_ef
    rw [g_au_ne (by omega), g_au_ne (by omega), g_au_ne (by omega), g_au_ne (by omega), g_au_eq]
  · unfold g_ent g_ef
    rw [g_au_ne (by omega), g_au_ne (by omega), g_au_ne (by omega), g_au_eq]
  · unfold g_ent g_ef
    rw [g_au_ne (by omega), g_au_ne (by omega), g_au_eq]
  · unfold g_ent g_ef
    rw [g_au_ne (by omega), g_au_eq]
  · unfold g_ent g_ef
    rw [g_au_ne (by omega), g_au_ne (by omega), g_au_ne (by omega), g_au_ne (by omega), g_au_ne (by omega)]
    unfold g_esh
    rw [if_pos (by omega)]
  · unfold g_ent g_ef
    rw [g_au_ne h2, g_au_ne (by omega), g_au_ne (by omega), g_au_ne (by omega), g_au_ne (by omega)]
    exact g_esh_o h1
/-- the same, told by places -/
theorem g_ent_e {A : g_A} {key : Int32} {s : Nat} (hw : g_wi A) (hn : g_ne A < 60) (hs : s < 60) {i : Nat} (hi : i < g_ne A + 1) :
    (i < g_ne A - g_es A key s ∧ g_ep (g_ent A key s) i = g_ep A i ∧ (∀ w, g_ent A key s 2 i w = A 2 i w)) ∨
    (i = g_ne A - g_es A key s ∧ g_ep (g_ent A key s) i = s) ∨
    (g_ne A - g_es A key s < i ∧ g_ep (g_ent A key s) i = g_ep A (i - 1) ∧ (∀ w, w < 4 → g_ent A key s 2 i w = A 2 (i - 1) w)) := by
  obtain ⟨e1, e2, e3, ⟨e40, e41, e42, e43⟩, e5, e6⟩ := g_ent_f (key := key) (s := s) hw hn
  rcases Nat.lt_trichotomy i (g_ne A - g_es A key s) with q | q | q
  · refine Or.inl ⟨q, ?_, fun w => e3 i w q⟩
    unfold g_ep
    rw [e3 i 1 q, e3 i 2 q]
  · refine Or.inr (Or.inl ⟨q, ?_⟩)
    unfold g_ep
    rw [q, e41, e42, g_cl (by omega), g_cl (by omega), Nat.div_add_mod]
  · refine Or.inr (Or.inr ⟨q, ?_, fun w h => e5 i w q (by omega) h⟩)
    unfold g_ep
    rw [e5 i 1 q (by omega) (by omega), e5 i 2 q (by omega) (by omega)]
theorem g_ent_wi {A : g_A} {key : Int32} {s : Nat} (hw : g_wi A) (hn : g_ne A < 60) (hs : s < 60) : g_wi (g_ent A key s) := by
  obtain ⟨e1, e2, e3, ⟨e40, e41, e42, e43⟩, e5, e6⟩ := g_ent_f (key := key) (s := s) hw hn
  refine ⟨by rw [e2]; exact e1, by rw [e2]; omega, fun i hi => ?_⟩
  rw [e2] at hi
  rcases Nat.lt_trichotomy i (g_ne A - g_es A key s) with q | q | q
  · rw [e3 i 1 q, e3 i 2 q, e3 i 3 q]; exact hw.2.2 i (by omega)
  · rw [q, e41, e42, e43]; exact ⟨⟨s / 10, s % 10, by omega, by omega, rfl, rfl⟩, Or.inl rfl⟩
  · rw [e5 i 1 q (by omega) (by omega), e5 i 2 q (by omega) (by omega), e5 i 3 q (by omega) (by omega)]; exact hw.2.2 (i - 1) (by omega)
section g_C
variable {H : q_H} {k : Nat} {A : g_A}
theorem c_add {key : Int32} {s : Nat} (hs : s < 60) (hR : r_i (g_st H k) A) (hw : g_wi A) (hn : g_ne A < 60) : Ix_add k key (nI s) H = some (g_cw H k (g_efS (g_eshS (g_st H k) (g_ne A) (g_es A key s)) (g_ne A - g_es A key s) key s)) := by
  unfold Ix_add
  rw [show H.1 11 3 k 0 = _ from hR.1, hw.1, if_pos (show nI (g_ne A) < (60 : Int32) from nI_lt (b := 60) hn (by decide))]
  have fin : ∀ (j : Nat), j ≤ g_ne A → ((Rp_put 12 k (nI (g_ne A - j)) key (g_cw H k (g_eshS (g_st H k) (g_ne A) j))).bind fun x9 => (Rp_put 13 k (nI (g_ne A - j)) (nI s) x9).bind fun x11 => (Rp_put 14 k (nI (g_ne A - j)) (0 : Int32) x11).bind fun x13 => some (q_si x13 11 3 k 0 ((x13.1 11 3 k 0) + (1 : Int32)))) = some (g_cw H k (g_efS (g_eshS (g_st H k) (g_ne A) j) (g_ne A - j) key s)) := fun j hj => by
    rw [c_put (n := 60) rfl rfl (by omega) (by decide)]
    simp only [Option.bind_some]
    rw [c_put (n := 60) rfl rfl (by omega) (by decide)]
    simp only [Option.bind_some]
    rw [c_put (n := 60) rfl rfl (by omega) (by decide)]
    simp only [Option.bind_some]
    rw [g_cw_si, g_cw_si, g_cw_si, g_cw_rd, g_cw_si, g_su_t (by omega), g_su_t (by omega), g_su_t (by omega)]
    rfl
  have fin2 : ∀ {β : Type} (g : q_H → β) (j : Nat), j ≤ g_ne A → ((Rp_put 12 k (nI (g_ne A - j)) key (g_cw H k (g_eshS (g_st H k) (g_ne A) j))).bind fun x9 => (Rp_put 13 k (nI (g_ne A - j)) (nI s) x9).bind fun x11 => (Rp_put 14 k (nI (g_ne A - j)) (0 : Int32) x11).bind fun x13 => some (g (q_si x13 11 3 k 0 ((x13.1 11 3 k 0) + (1 : Int32))))) = some (g (g_cw H k (g_efS (g_eshS (g_st H k) (g_ne A) j) (g_ne A - j) key s))) := fun g j hj => by
    rw [c_put (n := 60) rfl rfl (by omega) (by decide)]
    simp only [Option.bind_some]
    rw [c_put (n := 60) rfl rfl (by omega) (by decide)]
    simp only [Option.bind_some]
    rw [c_put (n := 60) rfl rfl (by omega) (by decide)]
    simp only [Option.bind_some]
    rw [g_cw_si, g_cw_si, g_cw_si, g_cw_rd, g_cw_si, g_su_t (by omega), g_su_t (by omega), g_su_t (by omega)]
    rfl
  refine g_bs ((g_lpB (fun j => !g_bh A key s (g_ne A - 1 - j)) (fun j => (nI (g_ne A - j), g_cw H k (g_eshS (g_st H k) (g_ne A) j))) 0 (g_ne A) (fun j => g_cw H k (g_efS (g_eshS (g_st H k) (g_ne A) j) (g_ne A - j) key s)) ?_ (fun j a b => ?_) ?_ (by unfold q_fu; omega)).trans rfl)
  · have : g_eshS (g_st H k) (g_ne A) 0 = g_st H k := by
      refine Prod.ext ?_ rfl
      funext t f i
      unfold g_eshS
      dsimp only
      rw [if_neg (by omega)]
    rw [this, g_cw_st]; rfl
  · dsimp only
    have hi : g_ne A - j < 60 := by omega
    have hi1 : g_ne A - j - 1 < 60 := by omega
    have hep := g_ep_lt hw (i := g_ne A - j - 1) (by omega)
    have eb : g_ne A - 1 - j = g_ne A - j - 1 := by omega
    have hr := hR.2 (g_ne A - j - 1) (by omega)
    have r0 : ∀ t, (g_eshS (g_st H k) (g_ne A) j).1 t 0 (g_ne A - j - 1) = (g_st H k).1 t 0 (g_ne A - j - 1) := fun t => by unfold g_eshS; dsimp only; rw [if_neg (by omega)]
    have en : nI (g_ne A - j) + (-1 : Int32) = nI (g_ne A - (j + 1)) := by
      have : g_ne A - j = g_ne A - (j + 1) + 1 := by omega
      rw [this, pk_m1]
    rw [if_neg (nI_nle (by omega) (by omega)), g_sub1 (by omega), eb]
    have ib : Ix_isBehind k (nI (g_ne A - j - 1)) key (nI s) (g_cw H k (g_eshS (g_st H k) (g_ne A) j)) = some (q_bi (g_bh A key s (g_ne A - j - 1))) := by
      unfold Ix_isBehind g_bh
      rw [c_pick (n := 60) rfl rfl hi1 (by decide), c_pick (n := 60) rfl rfl hi1 (by decide), g_cw_rd, g_cw_rd, r0, r0, hr.1, hr.2.1]
      simp only [Option.bind_some]
      by_cases c1 : key < A 2 (g_ne A - j - 1) 0
      · rw [if_pos c1, decide_eq_true c1]; rfl
      · rw [if_neg c1, decide_eq_false c1]
        by_cases c2 : A 2 (g_ne A - j - 1) 0 = key
        · rw [if_neg (fun q => q c2), decide_eq_true c2]
          by_cases c3 : s < g_ep A (g_ne A - j - 1)
          · rw [if_neg (nI_ge c3 (by omega)), decide_eq_true c3]; rfl
          · rw [if_pos (nI_le (by omega) (by omega)), decide_eq_false c3]; rfl
        · rw [if_pos c2, decide_eq_false c2]; rfl
    rw [ib]
    simp only [Option.bind_some]
    cases g_bh A key s (g_ne A - j - 1) with
    | false =>
      rw [if_pos (by rfl)]
      exact fin2 Sum.inr j (by omega)
    | true =>
      rw [if_neg (by decide)]
      unfold Ix_move
      rw [c_pick (n := 60) rfl rfl hi1 (by decide), g_cw_rd, r0]
      simp only [Option.bind_some]
      rw [c_put (n := 60) rfl rfl hi (by decide), g_cw_si]
      simp only [Option.bind_some]
      rw [c_pick (n := 60) rfl rfl hi1 (by decide), g_cw_rd, g_su_t (by omega), r0]
      simp only [Option.bind_some]
      rw [c_put (n := 60) rfl rfl hi (by decide), g_cw_si]
      simp only [Option.bind_some]
      rw [c_pick (n := 60) rfl rfl hi1 (by decide), g_cw_rd, g_su_t (by omega), g_su_t (by omega), r0]
      simp only [Option.bind_some]
      rw [c_put (n := 60) rfl rfl hi (by decide), g_cw_si, g_eshS_s (by omega)]
      simp only [Option.bind_some]
      rw [en]; rfl
  · dsimp only
    have e0 : nI (g_ne A - (0 + g_ne A)) ≤ 0 := by rw [Nat.zero_add, Nat.sub_self]; decide
    rw [if_pos e0]
    have := fin2 (Sum.inr (α := Int32 × q_H)) (0 + g_ne A) (by omega)
    exact this
theorem r_i_add {S : g_S} {key : Int32} {s : Nat} (hs : s < 60) (hR : r_i S A) (hw : g_wi A) (hn : g_ne A < 60) : r_i (g_efS (g_eshS S (g_ne A) (g_es A key s)) (g_ne A - g_es A key s) key s) (g_ent A key s) ∧ (∀ t f i, t ≠ 11 → t ≠ 12 → t ≠ 13 → t ≠ 14 → (g_efS (g_eshS S (g_ne A) (g_es A key s)) (g_ne A - g_es A key s) key s).1 t f i = S.1 t f i) ∧ (g_efS (g_eshS S (g_ne A) (g_es A key s)) (g_ne A - g_es A key s) key s).2 = S.2 := by
  obtain ⟨e1, e2, e3, ⟨e40, e41, e42, e43⟩, e5, e6⟩ := g_ent_f (key := key) (s := s) hw hn
  have hes := g_es_le (A := A) (key := key) (s := s)
  refine ⟨⟨?_, fun i hi => ?_⟩, fun t f i a b c d => ?_, rfl⟩
  · unfold g_efS
    rw [g_su_e, e1]
    have : (g_eshS S (g_ne A) (g_es A key s)).1 11 3 0 = S.1 11 3 0 := by unfold g_eshS; dsimp only; rw [if_neg (by omega)]
    rw [this, hR.1, hw.1, nI_1]
  · rw [e2] at hi
    rcases g_ent_e (key := key) hw hn hs hi with ⟨q, q1, q2⟩ | ⟨q, q1⟩ | ⟨q, q1, q2⟩
    · have r := hR.2 i (by omega)
      rw [q1, q2, q2]
      unfold g_efS
      rw [g_su_t (by omega), g_su_t (by omega), g_su_t (by omega), g_su_t (by omega), g_su_t (by omega), g_su_t (by omega), g_su_t (by omega), g_su_t (by omega), g_su_t (by omega), g_su_t (by omega), g_su_t (by omega), g_su_t (by omega)]
      unfold g_eshS
      dsimp only
      rw [if_neg (by omega), if_neg (by omega), if_neg (by omega)]
      exact r
    · rw [q1, q, e40, e43]
      unfold g_efS
      refine ⟨?_, ?_, ?_⟩
      · rw [g_su_t (by omega), g_su_t (by omega), g_su_t (by omega), g_su_e]
      · rw [g_su_t (by omega), g_su_t (by omega), g_su_e]
      · rw [g_su_t (by omega), g_su_e]
    · have r := hR.2 (i - 1) (by omega)
      rw [q1, q2 0 (by omega), q2 3 (by omega)]
      unfold g_efS
      rw [g_su_t (by omega), g_su_t (by omega), g_su_t (by omega), g_su_t (by omega), g_su_t (by omega), g_su_t (by omega), g_su_t (by omega), g_su_t (by omega), g_su_t (by omega), g_su_t (by omega), g_su_t (by omega), g_su_t (by omega)]
      unfold g_eshS
      dsimp only
      rw [if_pos (by omega), if_pos (by omega), if_pos (by omega)]
      exact r
  · unfold g_efS
    rw [g_su_t (by omega), g_su_t (by omega), g_su_t (by omega), g_su_t (by omega)]
    unfold g_eshS
    dsimp only
    rw [if_neg (by omega)]
end g_C
