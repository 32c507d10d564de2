/-! prunePage -/
theorem g_p1f_e {z s : Nat} {x : Nat × g_A} : (g_p1f z s x).1 = x.1 + ((g_p1f z s (x.1, x.2)).1 - x.1) ∧ (g_p1f z s x).2 = if x.2 1 s 0 = 2 ∨ (x.2 1 s 0 = 1 ∧ x.2 1 s 10 = 0) then g_cu x.2 z s else x.2 := by
  unfold g_p1f
  dsimp only
  by_cases c : x.2 1 s 0 = 2 ∨ (x.2 1 s 0 = 1 ∧ x.2 1 s 10 = 0)
  · rw [if_pos c]; dsimp only; exact ⟨by omega, (if_pos c).symm⟩
  · rw [if_neg c]; exact ⟨by omega, (if_neg c).symm⟩
theorem c_setClear0 {H : q_H} {k p : Nat} (hp : p < 6) : Pg_setClear k (nI p) (0 : Int32) H = some (g_cw H k (g_su (g_st H k) 5 0 p 0)) := by
  unfold Pg_setClear
  rw [if_pos rfl, c_put (n := 6) rfl rfl hp (by decide), g_si_cw]; rfl
theorem c_prune1 {H : q_H} {k p : Nat} {A : g_A} (hI : g_PI A) (hp : p < 6) (hR : r_t (g_st H k) A) (hr : ∀ j, j < 10 → r_s (g_st H k) A (10 * p + j)) (hh : H.1 6 5 k 0 = nI (g_hz A)) :
    ∃ r, q_lp (fun s1 : Int32 × Int32 × q_H => (if (10 : Int32) ≤ s1.2.1 then (some (.inr ((s1.1, s1.2.2)))) else ((St_pruneSlot k ((nI p * (10 : Int32)) + s1.2.1) s1.2.2).bind fun x9 => some (.inl ((s1.1 + x9.1), (s1.2.1 + (1 : Int32)), x9.2))) : Option ((Int32 × Int32 × q_H) ⊕ (Int32 × q_H)))) q_fu (((0 : Int32), (0 : Int32), H) : Int32 × Int32 × q_H) = some r ∧
      ∃ S', r = (nI (g_p1 A (g_hz A) p (g_ln A p)).1, g_cw H k S') ∧ g_cI p (g_st H k) A S' (g_p1 A (g_hz A) p (g_ln A p)).2 := by
  have h10 := (hI.2.2.1 p hp).2
  have hz := g_hz_lt hI.1
  refine g_lpH (fun i s => ∃ S', s = (nI (g_p1 A (g_hz A) p (min i (g_ln A p))).1, nI i, g_cw H k S') ∧ g_cI p (g_st H k) A S' (g_p1 A (g_hz A) p (min i (g_ln A p))).2) _ 10 (fun i s hi ⟨S', es, hc⟩ => ?_) (fun s ⟨S', es, hc⟩ => ?_) _ _ (by decide) ⟨g_st H k, ?_, ?_⟩
  · subst es
    dsimp only
    rw [if_neg (show ¬ (10 : Int32) ≤ nI i from nI_ge (b := 10) (by omega) (by decide)), c_idx]
    have hr' : ∀ j, j < 10 → r_s (g_st (g_cw H k S') k) (g_p1 A (g_hz A) p (min i (g_ln A p))).2 (10 * p + j) := by rw [g_st_cw]; exact hc.1
    obtain ⟨a, b, c⟩ := g_p1_I hI (z := g_hz A) hp (min i (g_ln A p)) (Nat.min_le_right _ _)
    rcases Nat.lt_or_ge i (g_ln A p) with q | q
    · have em : min i (g_ln A p) = i := Nat.min_eq_left (by omega)
      have em1 : min (i + 1) (g_ln A p) = i + 1 := Nat.min_eq_left (by omega)
      rw [em] at hr' a b c hc ⊢
      rw [em1]
      have hR' : r_t (g_st (g_cw H k S') k) (g_p1 A (g_hz A) p i).2 := by rw [g_st_cw]; exact r_t_fk hR hc.2.1 b.1
      have hh' : (g_cw H k S').1 6 5 k 0 = nI (g_hz A) := by rw [g_cw_rd, hc.2.1.1 6 5 0 (by omega) (by omega) (by omega) (by omega) (by omega) (by omega)]; exact hh
      have hi' : g_iv (g_p1 A (g_hz A) p i).2 (10 * p + i) = true := by rw [g_fk_iv b.1 (by omega), g_iv_pj (by omega)]; exact decide_eq_true q
      have e1 : (10 * p + i) / 10 = p := by omega
      rw [c_pruneSlot a hz (by omega) e1 hi' hR' hr' hh' (g_p1 A (g_hz A) p i).1, g_st_cw, g_cw_cw]
      have ef := g_p1f_e (z := g_hz A) (s := 10 * p + i) (x := g_p1 A (g_hz A) p i)
      have en : g_p1 A (g_hz A) p (i + 1) = g_p1f (g_hz A) (10 * p + i) (g_p1 A (g_hz A) p i) := rfl
      refine ⟨_, rfl, ?_, ?_, ?_⟩
      · exact if (g_p1 A (g_hz A) p i).2 1 (10 * p + i) 0 = 2 ∨ ((g_p1 A (g_hz A) p i).2 1 (10 * p + i) 0 = 1 ∧ (g_p1 A (g_hz A) p i).2 1 (10 * p + i) 10 = 0) then g_cuS S' (g_p1 A (g_hz A) p i).2 (g_hz A) (10 * p + i) else S'
      · dsimp only
        rw [nI_add, nI_1, en, ← ef.1]
      · rw [en, ef.2]
        by_cases d : (g_p1 A (g_hz A) p i).2 1 (10 * p + i) 0 = 2 ∨ ((g_p1 A (g_hz A) p i).2 1 (10 * p + i) 0 = 1 ∧ (g_p1 A (g_hz A) p i).2 1 (10 * p + i) 10 = 0)
        · rw [if_pos d, if_pos d]
          exact g_cI_tr hc (g_cI_cu a (by omega) e1 hi' d hc.1) (g_PI_cu a (by omega) hi' d).2
        · rw [if_neg d, if_neg d]; exact hc
    · have em : min i (g_ln A p) = g_ln A p := Nat.min_eq_right q
      have em1 : min (i + 1) (g_ln A p) = g_ln A p := Nat.min_eq_right (by omega)
      rw [em] at hr' a b c hc ⊢
      rw [em1]
      have hi' : g_iv (g_p1 A (g_hz A) p (g_ln A p)).2 (10 * p + i) = false := by rw [g_fk_iv b.1 (by omega), g_iv_pj (by omega)]; exact decide_eq_false (by omega)
      rw [c_pruneSlot0 (by omega) hi' (hr' i hi), nI_1]
      exact ⟨_, rfl, S', by dsimp only; rw [Int32.add_zero], hc⟩
  · subst es
    have em : min 10 (g_ln A p) = g_ln A p := Nat.min_eq_right h10
    rw [em] at hc ⊢
    exact ⟨_, rfl, S', rfl, hc⟩
  · rw [Nat.zero_min, g_cw_st]; rfl
  · rw [Nat.zero_min]; exact g_cI_rf hr
theorem c_prune2 {H : q_H} {k p : Nat} {A : g_A} {x : Nat × g_A} (hp : p < 6) (h10 : g_ln A p ≤ 10) (hI : g_PI x.2) (hA : g_ls A x.2) (hR : r_t (g_st H k) x.2) (hr : ∀ j, j < 10 → r_s (g_st H k) x.2 (10 * p + j)) :
    ∃ r, q_lp (fun s13 : Int32 × Int32 × q_H => (if (10 : Int32) ≤ s13.2.1 then (some (.inr ((s13.1, s13.2.2)))) else ((Pg_at k ((nI p * (10 : Int32)) + s13.2.1) s13.2.2).bind fun x21 => Option.bind (α := Int32 × q_H) (if ¬ (s13.2.2.1 3 0 k x21) = (1 : Int32) then (some ((s13.1, s13.2.2))) else (if (s13.2.2.1 3 10 k x21) = 0 then (some ((s13.1, s13.2.2))) else ((Tn_stateOf k (s13.2.2.1 3 6 k x21) s13.2.2).bind fun x27 => if ¬ x27 = (2 : Int32) then (some ((s13.1, s13.2.2))) else ((Sl_empty k x21 (0 : Int32) s13.2.2).bind fun x29 => some (((s13.1 + (1 : Int32)), x29)))))) (fun p34 => some (.inl (p34.1, (s13.2.1 + (1 : Int32)), p34.2)))) : Option ((Int32 × Int32 × q_H) ⊕ (Int32 × q_H)))) q_fu ((nI x.1, (0 : Int32), H) : Int32 × Int32 × q_H) = some r ∧
      ∃ S', r = (nI (g_p2 x p (g_ln A p)).1, g_cw H k S') ∧ g_cI p (g_st H k) x.2 S' (g_p2 x p (g_ln A p)).2 := by
  refine g_lpH (fun i s => ∃ S', s = (nI (g_p2 x p (min i (g_ln A p))).1, nI i, g_cw H k S') ∧ g_cI p (g_st H k) x.2 S' (g_p2 x p (min i (g_ln A p))).2) _ 10 (fun i s hi ⟨S', es, hc⟩ => ?_) (fun s ⟨S', es, hc⟩ => ?_) _ _ (by decide) ⟨g_st H k, ?_, ?_⟩
  · subst es
    dsimp only
    rw [if_neg (show ¬ (10 : Int32) ≤ nI i from nI_ge (b := 10) (by omega) (by decide)), c_idx, c_at (by omega)]
    simp only [Option.bind_some]
    obtain ⟨a, b, c⟩ := g_p2_I hp h10 hI hA rfl (min i (g_ln A p)) (Nat.min_le_right _ _)
    have hs := hc.1 i hi
    rw [g_cw_rd, g_cw_rd, g_cw_rd, nI_1]
    rcases Nat.lt_or_ge i (g_ln A p) with q | q
    · have em : min i (g_ln A p) = i := Nat.min_eq_left (by omega)
      have em1 : min (i + 1) (g_ln A p) = i + 1 := Nat.min_eq_left (by omega)
      rw [em] at a b c hc hs ⊢
      rw [em1]
      have en : g_p2 x p (i + 1) = g_p2f (10 * p + i) (g_p2 x p i) := rfl
      have hi' : g_iv (g_p2 x p i).2 (10 * p + i) = true := by rw [g_fk_iv b.1 (by omega), g_iv_pj (by omega)]; exact decide_eq_true q
      rw [en]
      by_cases k1 : (g_p2 x p i).2 1 (10 * p + i) 0 = 1
      · have f := g_fu_i hi' k1
        have hw := a.2.2.2.1 (10 * p + i) (by omega) f
        obtain ⟨s0, s1, s2, s3, s4, s5, s6, s7, s8, s10, s11⟩ := hs.1 f
        rw [s0, if_neg (by decide), s10, s6]
        by_cases k10 : (g_p2 x p i).2 1 (10 * p + i) 10 = 0
        · rw [if_pos k10]
          have e : g_p2f (10 * p + i) (g_p2 x p i) = g_p2 x p i := if_neg (fun z => z.2.1 k10)
          rw [e]
          exact ⟨_, rfl, S', by dsimp only; rw [nI_1], hc⟩
        · have hR' : r_t (g_st (g_cw H k S') k) (g_p2 x p i).2 := by
            rw [g_st_cw]
            have : g_fk x.2 (g_p2 x p i).2 := fun g j w a1 a2 a3 a4 a5 => by rw [b.1 g j w a1 a2 a3 a4 a5, hA.1 g j w a1 a2 a3 a4 a5]
            exact r_t_fk hR hc.2.1 this
          rw [if_neg k10, hw.1, c_so hR' a.1 hw.2.1.1 hw.2.1.2]
          simp only [Option.bind_some]
          by_cases k3 : (g_p2 x p i).2 3 (g_mk (g_p2 x p i).2 (10 * p + i)) 0 = 2
          · have k11 : (g_p2 x p i).2 1 (10 * p + i) 11 ≠ 1 := fun z => by
              have := a.2.2.2.2.2.2.2.2 (10 * p + i) (by omega) f z
              rw [this] at k3; exact absurd k3 (by decide)
            have e : g_p2f (10 * p + i) (g_p2 x p i) = ((g_p2 x p i).1 + 1, g_goes (g_p2 x p i).2 (10 * p + i)) := if_pos ⟨k1, k10, k11, k3⟩
            rw [if_neg (fun z => z k3), c_empty, g_st_cw, g_cw_cw, e]
            exact ⟨_, rfl, g_emp S' (10 * p + i) 0, by dsimp only; rw [nI_1], g_cI_tr hc (g_cI_goes hc.1 (by omega) (by omega) hi') (g_ls_goes (by omega))⟩
          · have e : g_p2f (10 * p + i) (g_p2 x p i) = g_p2 x p i := if_neg (fun z => k3 z.2.2.2)
            rw [if_pos k3, e]
            exact ⟨_, rfl, S', by dsimp only; rw [nI_1], hc⟩
      · have e : g_p2f (10 * p + i) (g_p2 x p i) = g_p2 x p i := if_neg (fun z => k1 z.1)
        rw [if_pos (fun z => k1 (g_fu_iv ((r_s_k1 hs).mp z)).2), e]
        exact ⟨_, rfl, S', by dsimp only; rw [nI_1], hc⟩
    · have em : min i (g_ln A p) = g_ln A p := Nat.min_eq_right q
      have em1 : min (i + 1) (g_ln A p) = g_ln A p := Nat.min_eq_right (by omega)
      rw [em] at a b c hc hs ⊢
      rw [em1]
      have hf : g_fu (g_p2 x p (g_ln A p)).2 (10 * p + i) = false := by
        unfold g_fu
        rw [g_fk_iv b.1 (by omega), g_iv_pj (by omega), decide_eq_false (by omega)]; rfl
      rw [if_pos (fun z => by have := (r_s_k1 hs).mp z; rw [hf] at this; cases this)]
      exact ⟨_, rfl, S', by dsimp only; rw [nI_1], hc⟩
  · subst es
    have em : min 10 (g_ln A p) = g_ln A p := Nat.min_eq_right h10
    rw [em] at hc ⊢
    exact ⟨_, rfl, S', rfl, hc⟩
  · rw [Nat.zero_min, g_cw_st]; rfl
  · rw [Nat.zero_min]; exact g_cI_rf hr
/-- a page pruned: what holds of the store behind it -/
def g_cP (p : Nat) (S : g_S) (A : g_A) (S' : g_S) (A' : g_A) : Prop := (∀ j, j < 10 → r_s S' A' (10 * p + j)) ∧ g_fs S S' ∧ (∀ f x, x / 10 ≠ p → S'.1 3 f x = S.1 3 f x) ∧ (∀ q, q ≠ p → S'.1 5 0 q = S.1 5 0 q) ∧ (S.1 5 0 p = A 0 (23 + p) 0 → S'.1 5 0 p = A' 0 (23 + p) 0) ∧ (∀ x, x < 60 → g_fu A' x = true → S'.1 3 9 x = S.1 3 9 x) ∧ (r_l S A ∧ g_wg A → r_l S' A' ∧ g_wg A')
/-- clear pages: of this one alone -/
def g_pc (p : Nat) (A B : g_A) (n : Nat) : Prop := (∀ q, q < 6 → q ≠ p → B 0 (23 + q) 0 = A 0 (23 + q) 0) ∧ (B 0 (23 + p) 0 = if n = 0 then A 0 (23 + p) 0 else 0) ∧ (∀ s w, s / 10 ≠ p → B 1 s w = A 1 s w)
