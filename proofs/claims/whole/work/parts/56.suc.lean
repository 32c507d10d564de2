/-! sums and searches over slots, in a store of the component -/
theorem g_du_sum {A : g_A} {z : Nat} : ∀ n, g_sm (fun p => g_du A z p 1) 0 n = g_du A z 0 n := by
  intro n
  induction n with
  | zero => rfl
  | succ n ih =>
    show g_sm (fun p => g_du A z p 1) 0 n + g_du A z (0 + n) 1 = _
    rw [ih]
    unfold g_du
    rw [Nat.mul_add 10 n 1, g_sm_app, Nat.zero_add, Nat.mul_zero, Nat.zero_add]
section g_C
variable {H : q_H} {k : Nat} {A : g_A}
theorem c_idx {p j : Nat} : (nI p * (10 : Int32)) + nI j = nI (10 * p + j) := by
  rw [show (10 : Int32) = nI 10 from rfl, pk_mul, nI_add, Nat.mul_comm]
theorem r_s_sz {S : g_S} {s : Nat} (h : r_s S A s) : S.1 3 5 s = g_sz A s := by
  unfold g_sz
  cases f : g_fu A s with
  | true => rw [if_pos rfl]; exact (h.1 f).2.2.2.2.2.1
  | false => rw [if_neg (by decide)]; exact (h.2 f).2.2.2.2.2.1
theorem c_lengthOf {p : Nat} (hp : p < 6) (hP : r_p (g_st H k) A p) (hl : g_wl A) : Pg_lengthOf k (nI p) H = some (nI (g_ln A p)) := by
  unfold Pg_lengthOf
  rw [c_pick (n := 6) rfl rfl hp (by decide)]
  simp only [Option.bind_some]
  rw [show H.1 4 0 k p = _ from hP.1, (hl p hp).1]
theorem c_freeOf {p : Nat} (hp : p < 6) (hu : H.1 1 4 k 0 = A 0 0 0) (hS : ∀ j, j < 10 → r_s (g_st H k) A (10 * p + j)) : Pg_freeOf k (nI p) H = some (g_fr A p) := by
  unfold Pg_freeOf
  refine g_bs ?_
  refine (g_lpI' (fun j x => x - g_sz A (10 * p + j)) 0 10 (A 0 0 0) (fun i x => (x, nI i)) (fun x => x) ?_ (fun i x a b => ?_) (fun x => rfl) (by decide)).trans ?_
  · rw [hu]; rfl
  · dsimp only
    rw [if_neg (show ¬ (10 : Int32) ≤ nI i from nI_ge (b := 10) (by omega) (by decide)), c_idx, c_at (by omega), nI_1]
    simp only [Option.bind_some]
    rw [show H.1 3 5 k (10 * p + i) = _ from r_s_sz (hS i (by omega))]
  · unfold g_fr
    rw [g_it_sh (d := 10 * p)]
theorem c_placeIn {p : Nat} {z : Int32} (hp : p < 6) (hu : H.1 1 4 k 0 = A 0 0 0) (hP : r_p (g_st H k) A p) (hl : g_wl A) : Pg_placeIn k (nI p) z H = some (g_pp (g_pi A p z)) := by
  have h10 := (hl p hp).2
  unfold Pg_placeIn
  rw [c_freeOf hp hu hP.2.2]
  simp only [Option.bind_some]
  by_cases c : g_fr A p < z
  · have e : g_pi A p z = 60 := if_pos c
    rw [if_neg (Int32.not_le.mpr c), e]; rfl
  · rw [if_pos (Int32.not_lt.mp c), c_lengthOf hp hP hl]
    simp only [Option.bind_some]
    have hle := g_fst_le (g_un A) (g_ln A p) (10 * p)
    have key := g_lpB (body := fun s5 : Int32 => if nI (g_ln A p) ≤ s5 then (some (Sum.inr (Sum.inl ())) : Option (Int32 ⊕ (Unit ⊕ Int32))) else ((Pg_at k ((nI p * (10 : Int32)) + s5) H).bind fun x13 => if ¬ (H.1 3 0 k x13) = 0 then (some (.inl (s5 + (1 : Int32)))) else (some (.inr (.inr (((nI p * (10 : Int32)) + s5))))))) (s0 := 0) (g_un A) (fun i => nI (i - 10 * p)) (10 * p) (g_ln A p) (fun i => if i < 10 * p + g_ln A p then Sum.inr (nI i) else Sum.inl ()) (by rw [Nat.sub_self]; rfl) (fun i a b => by
        have ei : 10 * p + (i - 10 * p) = i := by omega
        have e1 : i + 1 - 10 * p = i - 10 * p + 1 := by omega
        rw [if_neg (nI_ge (by omega) (by omega)), c_idx, ei, c_at (by omega), nI_1, if_pos (by omega), e1]
        simp only [Option.bind_some]
        have hs := hP.2.2 (i - 10 * p) (by omega)
        rw [ei] at hs
        have hi : g_iv A i = true := by rw [← ei, g_iv_pj (by omega)]; exact decide_eq_true (by omega)
        have hk : H.1 3 0 k i = A 1 i 0 := by
          cases f : g_fu A i with
          | true => rw [(g_fu_iv f).2]; exact (hs.1 f).1
          | false => have := (hs.2 f).1; rw [if_pos hi] at this; exact this
        rw [hk]
        unfold g_un
        by_cases c : A 1 i 0 = 0
        · rw [if_neg (fun q => q c), decide_eq_true c]; rfl
        · rw [if_pos c, decide_eq_false c]; rfl) (by
        rw [if_pos (nI_le (by omega) (by omega)), if_neg (by omega)]) (by unfold q_fu; omega)
    rw [key]
    simp only [Option.bind_some]
    by_cases d : g_fst (g_un A) (10 * p) (g_ln A p) < 10 * p + g_ln A p
    · have e : g_pi A p z = g_fst (g_un A) (10 * p) (g_ln A p) := by unfold g_pi; rw [if_neg c]; exact if_pos (by omega)
      rw [if_pos d, e]
      unfold g_pp
      rw [if_pos (show g_fst (g_un A) (10 * p) (g_ln A p) < 60 by omega)]
    · have e : g_fst (g_un A) (10 * p) (g_ln A p) = 10 * p + g_ln A p := by omega
      rw [if_neg d]
      by_cases f : g_ln A p < 10
      · have e2 : g_pi A p z = 10 * p + g_ln A p := by unfold g_pi; rw [if_neg c, e]; exact if_pos (by omega)
        rw [e2]
        dsimp only
        rw [if_neg (show ¬ (10 : Int32) ≤ nI (g_ln A p) from nI_ge (b := 10) f (by decide)), c_idx]
        unfold g_pp
        rw [if_pos (show 10 * p + g_ln A p < 60 by omega)]
      · have e2 : g_pi A p z = 60 := by unfold g_pi; rw [if_neg c, e]; exact if_neg (by omega)
        rw [e2]
        dsimp only
        rw [if_pos (show (10 : Int32) ≤ nI (g_ln A p) from nI_le (a := 10) (by omega) (by omega))]
        rfl
theorem c_firstPlace {z : Int32} (hu : H.1 1 4 k 0 = A 0 0 0) (hP : ∀ p, p < 6 → r_p (g_st H k) A p) (hl : g_wl A) : Pg_firstPlace k z H = some (g_pp (g_fp A z)) := by
  unfold Pg_firstPlace
  refine g_bs ?_
  refine (g_lpB (fun p => decide (g_pi A p z < 60)) (fun i => nI i) 0 6 (fun i => g_pp (if i < 6 then g_pi A i z else 60)) rfl (fun i a b => ?_) ?_ (by unfold q_fu; omega)).trans rfl
  · rw [if_neg (show ¬ (6 : Int32) ≤ nI i from nI_ge (b := 6) (by omega) (by decide)), c_placeIn (by omega) hu (hP i (by omega)) hl, if_pos (by omega), nI_1]
    simp only [Option.bind_some]
    by_cases c : g_pi A i z < 60
    · rw [if_neg (fun q => g_pp1.mp q c), decide_eq_true c]; rfl
    · rw [if_pos (g_pp1.mpr c), decide_eq_false c]; rfl
  · rfl
theorem c_seenPlace {t : Nat} {row : Int32} (hR : r_t (g_st H k) A) (hP : ∀ p, p < 6 → r_p (g_st H k) A p) (ht : g_wt A) (hv : g_wv A) (h1 : g_tn A t) : St_seenPlace k (nI t) row H = some (g_pp (g_so A t row)) := by
  unfold St_seenPlace
  refine g_bs ?_
  refine g_lpB (fun s => g_fu A s && (decide (A 1 s 2 = row) && g_se A t s)) (fun i => nI i) 0 60 (fun i => g_pp i) rfl (fun i a b => ?_) rfl (by unfold q_fu; omega)
  have hS := r_ps hP (s := i) (by omega)
  rw [if_neg (show ¬ (60 : Int32) ≤ nI i from nI_ge (b := 60) (by omega) (by decide)), c_at (by omega)]
  simp only [Option.bind_some]
  rw [c_isOf hS]
  simp only [Option.bind_some]
  have e : g_pp i = nI i := if_pos (by omega)
  rw [e]
  cases f : g_fu A i with
  | false => rw [if_pos (by rfl), nI_1]; rfl
  | true =>
    by_cases c : A 1 i 2 = row
    · rw [decide_eq_true c, if_neg (by decide), c_isSeen hR hS ht (hv i (by omega) f) f h1]
      simp only [Option.bind_some]
      cases g_se A t i with
      | false => rw [if_pos (by rfl), nI_1]; rfl
      | true => rw [if_neg (by decide)]; rfl
    · rw [decide_eq_false c, if_pos (by rfl), nI_1]; rfl
theorem c_versionsOf {row : Int32} (hP : ∀ p, p < 6 → r_p (g_st H k) A p) : St_versionsOf k row H = some (g_vo A row) := by
  unfold St_versionsOf
  refine g_bs (g_lpC0 (fun s => q_bi (g_fu A s && decide (A 1 s 2 = row))) 0 60 rfl (fun i x a b => ?_) (fun x => rfl) (by decide))
  dsimp only
  rw [if_neg (show ¬ (60 : Int32) ≤ nI i from nI_ge (b := 60) (by omega) (by decide)), c_at (by omega), nI_1]
  simp only [Option.bind_some]
  rw [c_isOf (r_ps hP (by omega))]
  simp only [Option.bind_some]
  cases (g_fu A i && decide (A 1 i 2 = row)) with
  | false => rw [if_pos (by rfl)]; simp only [Option.bind_some]; rw [show q_bi false = 0 from rfl, Int32.add_zero]
  | true => rfl
theorem c_deadUnitsOf {p z : Nat} (hp : p < 6) (hR : r_t (g_st H k) A) (hS : ∀ j, j < 10 → r_s (g_st H k) A (10 * p + j)) (ht : g_wt A) (hv : g_wv A) (hh : H.1 6 5 k 0 = nI z) (hz : z < 1000) : St_deadUnitsOf k (nI p) H = some (g_du A z p 1) := by
  unfold St_deadUnitsOf
  refine g_bs ?_
  refine (g_lpC0 (fun j => if (g_fu A (10 * p + j) && g_de A z (10 * p + j)) = true then A 1 (10 * p + j) 5 else 0) 0 10 rfl (fun i x a b => ?_) (fun x => rfl) (by decide)).trans ?_
  · dsimp only
    have hS := hS i (by omega)
    rw [if_neg (show ¬ (10 : Int32) ≤ nI i from nI_ge (b := 10) (by omega) (by decide)), c_idx, c_at (by omega), nI_1]
    simp only [Option.bind_some]
    rw [c_isDead hR hS ht (fun f => hv _ (by omega) f) hh hz, show H.1 3 5 k (10 * p + i) = _ from r_s_sz hS]
    simp only [Option.bind_some]
    unfold g_sz
    cases f : g_fu A (10 * p + i) with
    | false => rw [if_pos (by rfl)]; simp only [Option.bind_some]; rw [show (false && g_de A z (10 * p + i)) = false from rfl, if_neg (by decide), Int32.add_zero]
    | true =>
      cases g_de A z (10 * p + i) with
      | false => rw [if_pos (by rfl)]; simp only [Option.bind_some]; rw [show (true && false) = false from rfl, if_neg (by decide), Int32.add_zero]
      | true => rfl
  · unfold g_du g_sm
    rw [g_it_sh (d := 10 * p)]
theorem c_deadUnits {z : Nat} (hR : r_t (g_st H k) A) (hP : ∀ p, p < 6 → r_p (g_st H k) A p) (ht : g_wt A) (hv : g_wv A) (hh : H.1 6 5 k 0 = nI z) (hz : z < 1000) : St_deadUnits k H = some (g_du A z 0 6) := by
  unfold St_deadUnits
  refine g_bs ?_
  refine (g_lpC0 (fun p => g_du A z p 1) 0 6 rfl (fun i x a b => ?_) (fun x => rfl) (by decide)).trans ?_
  · dsimp only
    rw [if_neg (show ¬ (6 : Int32) ≤ nI i from nI_ge (b := 6) (by omega) (by decide)), c_deadUnitsOf (by omega) hR (hP i (by omega)).2.2 ht hv hh hz, nI_1]
    rfl
  · rw [g_du_sum]
theorem c_unusedOf {p : Nat} (hp : p < 6) (hP : r_p (g_st H k) A p) (hl : g_wl A) : Pg_unusedOf k (nI p) H = some (g_uu A p) := by
  have h10 := (hl p hp).2
  unfold Pg_unusedOf
  refine g_bs ?_
  simp only [c_lengthOf hp hP hl, Option.bind_some]
  refine (g_lpC0 (fun j => q_bi (g_un A (10 * p + j))) 0 (g_ln A p) rfl (fun i x a b => ?_) (fun x => ?_) (by unfold q_fu; omega)).trans ?_
  · dsimp only
    rw [if_neg (nI_ge (by omega) (by omega)), c_idx, c_at (by omega), nI_1]
    simp only [Option.bind_some]
    have hs := hP.2.2 i (by omega)
    have hi : g_iv A (10 * p + i) = true := by rw [g_iv_pj (by omega)]; exact decide_eq_true (by omega)
    have hk : H.1 3 0 k (10 * p + i) = A 1 (10 * p + i) 0 := by
      cases f : g_fu A (10 * p + i) with
      | true => rw [(g_fu_iv f).2]; exact (hs.1 f).1
      | false => have := (hs.2 f).1; rw [if_pos hi] at this; exact this
    rw [hk]
    unfold g_un
    by_cases c : A 1 (10 * p + i) 0 = 0
    · rw [if_neg (fun q => q c), decide_eq_true c]; rfl
    · rw [if_pos c, decide_eq_false c]; simp only [Option.bind_some]; rw [show q_bi false = 0 from rfl, Int32.add_zero]
  · dsimp only
    rw [Nat.zero_add, if_pos (Int32.le_refl _)]
  · unfold g_uu g_sm
    rw [g_it_sh (d := 10 * p)]
theorem c_freeInAll (hu : H.1 1 4 k 0 = A 0 0 0) (hP : ∀ p, p < 6 → r_p (g_st H k) A p) : Pg_freeInAll k H = some (g_sm (fun p => g_fr A p) 0 6) := by
  unfold Pg_freeInAll
  refine g_bs (g_lpC0 (fun p => g_fr A p) 0 6 rfl (fun i x a b => ?_) (fun x => rfl) (by decide))
  dsimp only
  rw [if_neg (show ¬ (6 : Int32) ≤ nI i from nI_ge (b := 6) (by omega) (by decide)), c_freeOf (by omega) hu (hP i (by omega)).2.2, nI_1]
  rfl
theorem m_allFree {h : q_H} (hl : g_wl A) : Mo_allFree (g_ma h 31 A) = some (g_sm (fun p => g_fr A p) 0 6) := by
  unfold Mo_allFree
  refine g_bs (g_lpC0 (fun p => g_fr A p) 0 6 rfl (fun i x a b => ?_) (fun x => rfl) (by decide))
  dsimp only
  rw [if_neg (show ¬ (6 : Int32) ≤ nI i from nI_ge (b := 6) (by omega) (by decide)), m_freeIn hl (by omega), nI_1]
  rfl
theorem m_allDead {h : q_H} (hl : g_wl A) (ht : g_wt A) (hv : g_wv A) : Mo_allDead (g_ma h 31 A) = some (g_du A (g_hz A) 0 6) := by
  unfold Mo_allDead
  rw [m_horizon ht]
  simp only [Option.bind_some]
  have hz : g_hz A < 1000 := by have := @g_hb_le A 0; have := ht.2.2; unfold g_hz; omega
  rw [show (Mo_deadUnits (0 : Int32) (6 : Int32) (nI (g_hz A)) (g_ma h 31 A)) = some (g_du A (g_hz A) 0 6) from m_deadUnits (p := 0) (n := 6) hl ht hv hz (by decide)]
  rfl
end g_C
