/-! how many there are of a kind, in a store of the component -/
section g_C
variable {H : q_H} {k : Nat} {A : g_A}
theorem c_openMany (hR : r_t (g_st H k) A) (hw : g_wt A) : Tn_howManyOpen k H = some (g_om A) := by
  have hw' := hw
  obtain ⟨e, h1, h2⟩ := hw
  unfold Tn_howManyOpen
  rw [show H.1 6 4 k 0 = A 0 4 0 from hR.1, e]
  refine g_bs (g_lpC0 (fun t => q_bi (g_op A t)) 1 (g_nx A - 1) rfl (fun i x a b => ?_) (fun x => ?_) (by unfold q_fu; omega))
  · dsimp only
    rw [if_neg (nI_ge (by omega) (by omega)), c_so hR hw' a (by omega), nI_1]
    simp only [Option.bind_some]
    unfold g_op
    by_cases c : A 3 i 0 = 0
    · rw [if_neg (fun q => q c), decide_eq_true c]; rfl
    · rw [if_pos c, decide_eq_false c]
      exact congrArg (fun z => some (Sum.inl (z, nI (i + 1)))) (g_add0 rfl)
  · dsimp only
    have : 1 + (g_nx A - 1) = g_nx A := by omega
    rw [this, if_pos (Int32.le_refl _)]
theorem c_waitMany (hR : r_t (g_st H k) A) (hw : g_wt A) : Tn_howManyWait k H = some (g_wm A) := by
  have hw' := hw
  obtain ⟨e, h1, h2⟩ := hw
  unfold Tn_howManyWait
  rw [show H.1 6 4 k 0 = A 0 4 0 from hR.1, e]
  refine g_bs (g_lpC0 (fun t => q_bi (decide (0 < A 6 t 0))) 1 (g_nx A - 1) rfl (fun i x a b => ?_) (fun x => ?_) (by unfold q_fu; omega))
  · dsimp only
    rw [if_neg (nI_ge (by omega) (by omega)), c_waits hR hw' a (by omega), nI_1]
    simp only [Option.bind_some]
    by_cases c : 0 < A 6 i 0
    · rw [if_pos c, if_neg (fun q => absurd (q ▸ c) (by decide)), decide_eq_true c]; rfl
    · rw [if_neg c, if_pos rfl, decide_eq_false c]
      exact congrArg (fun z => some (Sum.inl (z, nI (i + 1)))) (g_add0 rfl)
  · dsimp only
    have : 1 + (g_nx A - 1) = g_nx A := by omega
    rw [this, if_pos (Int32.le_refl _)]
theorem c_holder (hR : r_t (g_st H k) A) (hh : r_h (g_st H k) A) (hw : g_wt A) : Tn_firstAtHorizon k H = some (if g_ho A < g_nx A then nI (g_ho A) else -1) := by
  have hw' := hw
  obtain ⟨e, h1, h2⟩ := hw
  unfold Tn_firstAtHorizon
  rw [show H.1 6 4 k 0 = A 0 4 0 from hR.1, e, show H.1 6 5 k 0 = _ from hh]
  have hz : g_hz A ≤ g_nx A := g_hb_le
  refine g_bs (g_lpB (fun t => g_op A t && decide (g_lo A t = g_hz A)) (fun i => nI i) 1 (g_nx A - 1) (fun t => if t < g_nx A then nI t else -1) rfl (fun i a b => ?_) ?_ (by unfold q_fu; omega))
  · rw [if_neg (nI_ge (by omega) (by omega)), c_so hR hw' a (by omega), if_pos (by omega), nI_1]
    simp only [Option.bind_some]
    have hlo := g_lo_le (A := A) a
    unfold g_op
    by_cases c : A 3 i 0 = 0
    · rw [if_neg (fun q => q c), decide_eq_true c, c_lowOf hR hw' a (by omega)]
      simp only [Option.bind_some]
      by_cases d : g_lo A i = g_hz A
      · rw [if_neg (fun q => q (by rw [d])), decide_eq_true d]; rfl
      · rw [if_pos (fun q => d ((nI_eq (by omega) (by omega)).mp q)), decide_eq_false d]; rfl
    · rw [if_pos c, decide_eq_false c]; rfl
  · have : 1 + (g_nx A - 1) = g_nx A := by omega
    rw [this, if_pos (Int32.le_refl _), if_neg (by omega)]
theorem c_madeAhead {b : Nat} {row : Int32} {s : Nat} (hs : s < 60) (hf : g_fu A s = true) (hm : r_m b (g_st H k) A) (hb : b < 2 ^ 30) (hP : ∀ p, p < 6 → r_p (g_st H k) A p) : St_madeAhead k row (H.1 3 9 k s) H = some (g_ah A row s) := by
  obtain ⟨⟨x0, y0, _, _, hx, hy, hme⟩, hmo⟩ := hm
  unfold St_madeAhead
  refine g_bs (g_lpC0 (fun k => q_bi ((g_fu A k && decide (A 1 k 2 = row)) && decide (A 1 k 12 < A 1 s 12))) 0 60 rfl (fun j x a b => ?_) (fun x => rfl) (by decide))
  dsimp only
  rw [if_neg (show ¬ (60 : Int32) ≤ nI j from nI_ge (b := 60) (by omega) (by decide)), c_at (by omega), nI_1]
  simp only [Option.bind_some]
  rw [c_isOf (r_ps hP (by omega))]
  simp only [Option.bind_some]
  cases f : g_fu A j with
  | false =>
    rw [if_pos (by rfl)]
    exact congrArg (fun z => some (Sum.inl (z, nI (j + 1)))) (g_add0 rfl)
  | true =>
    by_cases c : A 1 j 2 = row
    · rw [decide_eq_true c, if_neg (by decide)]
      obtain ⟨e1, e2, e3, e4⟩ := hme j (by omega) f
      obtain ⟨d1, d2, d3, d4⟩ := hme s hs hf
      have e1 : H.1 3 9 k j = nI (g_cm (g_st H k) j) := e1
      have d1 : H.1 3 9 k s = nI (g_cm (g_st H k) s) := d1
      rw [e1, d1, e2, d2]
      have ho := hmo j s (by omega) hs f hf
      by_cases g : g_mm A j < g_mm A s
      · have := ho.mpr g
        rw [if_neg (nI_ge this (by omega)), decide_eq_true (nI_lt g (by omega))]; rfl
      · have : ¬ g_cm (g_st H k) j < g_cm (g_st H k) s := fun q => g (ho.mp q)
        rw [if_pos (nI_le (by omega) (by omega)), decide_eq_false (nI_nlt (by omega) (by omega))]
        exact congrArg (fun z => some (Sum.inl (z, nI (j + 1)))) (g_add0 rfl)
    · rw [decide_eq_false c, if_pos (by rfl)]
      exact congrArg (fun z => some (Sum.inl (z, nI (j + 1)))) (g_add0 rfl)
theorem c_placeMade {b : Nat} {row i : Int32} (hm : r_m b (g_st H k) A) (hb : b < 2 ^ 30) (hP : ∀ p, p < 6 → r_p (g_st H k) A p) : St_placeMade k row i H = some (g_pp (g_pm A row i)) := by
  unfold St_placeMade
  refine g_bs ?_
  refine g_lpB (fun s => (g_fu A s && decide (A 1 s 2 = row)) && decide (g_ah A row s = i)) (fun i => nI i) 0 60 (fun i => g_pp i) rfl (fun s a b => ?_) rfl (by unfold q_fu; omega)
  rw [if_neg (show ¬ (60 : Int32) ≤ nI s from nI_ge (b := 60) (by omega) (by decide)), c_at (by omega)]
  simp only [Option.bind_some]
  rw [c_isOf (r_ps hP (by omega))]
  simp only [Option.bind_some]
  have e : g_pp s = nI s := if_pos (by omega)
  rw [e]
  cases f : g_fu A s with
  | false => rw [if_pos (by rfl), nI_1]; rfl
  | true =>
    by_cases c : A 1 s 2 = row
    · rw [decide_eq_true c, if_neg (by decide), c_madeAhead (by omega) f hm hb hP]
      simp only [Option.bind_some]
      by_cases d : g_ah A row s = i
      · rw [if_neg (fun q => q d), decide_eq_true d]; rfl
      · rw [if_pos d, decide_eq_false d, nI_1]; rfl
    · rw [decide_eq_false c, if_pos (by rfl), nI_1]; rfl
theorem c_isCounted {w : Int32} {s : Nat} (h7 : w = 7 ∨ w = 8 ∨ w = 9 ∨ w = 10 ∨ w = 11) (hR : r_t (g_st H k) A) (hS : r_s (g_st H k) A s) (ht : g_wt A) (hw : g_ws A s) (hf : g_fu A s = true) (hh : r_h (g_st H k) A) : St_isCounted k k s w H = some (q_bi (g_mp A w s)) := by
  obtain ⟨s0, s1, s2, s3, s4, s5, s6, s7, s8, s10, s11⟩ := hS.1 hf
  have hz := g_hz_lt ht
  unfold St_isCounted g_mp
  rw [hf]
  rcases h7 with rfl | rfl | rfl | rfl | rfl
  · rfl
  · rw [if_neg (by decide), if_pos rfl, c_isDead hR hS ht (fun _ => hw) hh hz, hf]
    simp only [Option.bind_some]
    rw [if_neg (by decide), if_pos trivial, q_bi01]; rfl
  · rw [if_neg (by decide), if_neg (by decide), if_pos rfl, c_isDying hR hS ht hw hf hh hz]
    simp only [Option.bind_some]
    rw [if_neg (by decide), if_neg (by decide), if_pos trivial, q_bi01]; rfl
  · rw [if_neg (by decide), if_neg (by decide), if_neg (by decide), if_pos rfl, show H.1 3 11 k s = _ from s11]
    rcases hw.2.2.2.2.2 with d | d <;> rw [d] <;> rfl
  · rw [if_neg (by decide), if_neg (by decide), if_neg (by decide), if_neg (by decide), show H.1 3 10 k s = _ from s10]
    rcases hw.2.2.2.2.1 with d | d <;> rw [d] <;> rfl
theorem c_versionsThatAre {w : Int32} (h7 : w = 7 ∨ w = 8 ∨ w = 9 ∨ w = 10 ∨ w = 11) (hR : r_t (g_st H k) A) (hP : ∀ p, p < 6 → r_p (g_st H k) A p) (ht : g_wt A) (hv : g_wv A) (hh : r_h (g_st H k) A) : St_versionsThatAre k w H = some (g_mo A w) := by
  unfold St_versionsThatAre
  refine g_bs (g_lpC0 (fun s => q_bi (g_mp A w s)) 0 60 rfl (fun s x a b => ?_) (fun x => rfl) (by decide))
  dsimp only
  have hs : s < 60 := by omega
  have hS := r_ps hP hs
  rw [if_neg (show ¬ (60 : Int32) ≤ nI s from nI_ge (b := 60) (by omega) (by decide)), c_at (by omega), nI_1]
  simp only [Option.bind_some]
  cases f : g_fu A s with
  | false =>
    rw [if_pos (fun q => by have := (r_s_k1 hS).mp q; rw [f] at this; cases this)]
    have e : g_mp A w s = false := by
      unfold g_mp
      rw [f]
      rcases h7 with rfl | rfl | rfl | rfl | rfl <;> simp
    exact congrArg (fun z => some (Sum.inl (z, nI (s + 1)))) (g_add0 e)
  | true =>
    rw [if_neg (fun q => q ((r_s_k1 hS).mpr f)), c_isCounted h7 hR hS ht (hv s hs f) f hh]
    simp only [Option.bind_some]
    cases e : g_mp A w s with
    | false => rw [if_pos (by rfl)]; exact congrArg (fun z => some (Sum.inl (z, nI (s + 1)))) (g_add0 rfl)
    | true => rfl
theorem c_slotsThatAre {w c : Int32} (h7 : (w = 12 ∧ c = 3) ∨ (w = 13 ∧ c = 2)) (hP : ∀ p, p < 6 → r_p (g_st H k) A p) : Pg_slotsThatAre k c H = some (g_mo A w) := by
  unfold Pg_slotsThatAre
  refine g_bs (g_lpC0 (fun s => q_bi (g_mp A w s)) 0 60 rfl (fun s x a b => ?_) (fun x => rfl) (by decide))
  dsimp only
  have hs : s < 60 := by omega
  have hS := r_ps hP hs
  rw [if_neg (show ¬ (60 : Int32) ≤ nI s from nI_ge (b := 60) (by omega) (by decide)), c_at (by omega), nI_1]
  simp only [Option.bind_some]
  have e : g_mp A w s = (g_iv A s && decide (A 1 s 0 = c)) := by
    unfold g_mp
    rcases h7 with ⟨rfl, rfl⟩ | ⟨rfl, rfl⟩ <;> simp
  have hc : ¬ c = 0 ∧ ¬ c = 1 := by rcases h7 with ⟨rfl, rfl⟩ | ⟨rfl, rfl⟩ <;> decide
  rw [e]
  have ek : H.1 3 0 k s = if g_iv A s = true then A 1 s 0 else 0 := by
    cases f : g_fu A s with
    | true => rw [if_pos (g_fu_iv f).1, (g_fu_iv f).2]; exact (hS.1 f).1
    | false => exact (hS.2 f).1
  rw [ek]
  cases g_iv A s with
  | false =>
    rw [if_neg (show ¬ false = true by decide), if_pos (fun q => hc.1 q.symm)]
    exact congrArg (fun z => some (Sum.inl (z, nI (s + 1)))) (g_add0 rfl)
  | true =>
    rw [if_pos rfl]
    by_cases d : A 1 s 0 = c
    · rw [if_neg (fun q => q d), decide_eq_true d]; rfl
    · rw [if_pos d, decide_eq_false d]
      exact congrArg (fun z => some (Sum.inl (z, nI (s + 1)))) (g_add0 rfl)
end g_C
