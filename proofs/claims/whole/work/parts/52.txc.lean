/-! bits -/
theorem g_s64 : ∀ o : Nat, o < 64 → (((nI o).toInt64 &&& 63).toBitVec.smod 64).toNat = o := by decide
theorem g_s32 : ∀ o : Nat, o < 32 → ((nI o &&& 31).toBitVec.smod 32).toNat = o := by decide
theorem g_b1 (b : BitVec 64) : b &&& 1#64 = 0#64 ↔ b.getLsbD 0 = false := by
  constructor
  · intro h
    have := congrArg (fun z : BitVec 64 => z.getLsbD 0) h
    simpa using this
  · intro h
    apply BitVec.eq_of_getLsbD_eq
    intro i hi
    rw [BitVec.getLsbD_and]
    rcases Nat.eq_zero_or_pos i with q | q
    · subst q; rw [h]; rfl
    · have : (1#64).getLsbD i = false := by simp [BitVec.getLsbD_one]; omega
      rw [this]; simp
theorem g_b1' (b : BitVec 32) : b &&& 1#32 = 1#32 ↔ b.getLsbD 0 = true := by
  constructor
  · intro h
    have := congrArg (fun z : BitVec 32 => z.getLsbD 0) h
    simpa using this
  · intro h
    apply BitVec.eq_of_getLsbD_eq
    intro i hi
    rw [BitVec.getLsbD_and]
    rcases Nat.eq_zero_or_pos i with q | q
    · subst q; rw [h]; rfl
    · have : (1#32).getLsbD i = false := by simp [BitVec.getLsbD_one]; omega
      rw [this]; simp
def g_bt (x : Int64) (o : Nat) : Bool := x.toBitVec.getLsbD o
def g_bi (x : Int32) (o : Nat) : Bool := x.toBitVec.getLsbD o
theorem g_bt_z {x : Int64} {o : Nat} (h : o < 64) : lg_cmp ((x >>> ((nI o).toInt64 &&& 63)) &&& (1 : Int64)) (0 : Int64) = 0 ↔ g_bt x o = false := by
  have e : ((x >>> ((nI o).toInt64 &&& 63)) &&& (1 : Int64)).toBitVec = (x.toBitVec.sshiftRight o) &&& 1#64 := by
    show (x.toBitVec.sshiftRight (((nI o).toInt64 &&& 63).toBitVec.smod 64).toNat) &&& 1#64 = _
    rw [g_s64 o h]
  have e2 : lg_cmp ((x >>> ((nI o).toInt64 &&& 63)) &&& (1 : Int64)) (0 : Int64) = 0 ↔ ((x >>> ((nI o).toInt64 &&& 63)) &&& (1 : Int64)) = 0 := by
    generalize ((x >>> ((nI o).toInt64 &&& 63)) &&& (1 : Int64)) = y
    unfold lg_cmp
    constructor
    · intro q
      by_cases c : y > 0
      · rw [if_pos c] at q; exact absurd q (by decide)
      · rw [if_neg c] at q
        by_cases c2 : y = 0
        · exact c2
        · rw [if_neg c2] at q; exact absurd q (by decide)
    · intro q; subst q; rfl
  rw [e2, ← Int64.toBitVec_inj, e]
  show _ &&& 1#64 = 0#64 ↔ _
  rw [g_b1, BitVec.getLsbD_sshiftRight]
  unfold g_bt
  have : (decide (64 ≤ 0)) = false := rfl
  rw [this]
  simp only [Nat.add_zero, Bool.not_false, Bool.true_and]
  rw [if_pos h]
theorem g_bi_o {x : Int32} {o : Nat} (h : o < 32) : (x >>> (nI o &&& 31)) &&& (1 : Int32) = 1 ↔ g_bi x o = true := by
  have e : ((x >>> (nI o &&& 31)) &&& (1 : Int32)).toBitVec = (x.toBitVec.sshiftRight o) &&& 1#32 := by
    show (x.toBitVec.sshiftRight ((nI o &&& 31).toBitVec.smod 32).toNat) &&& 1#32 = _
    rw [g_s32 o h]
  rw [← Int32.toBitVec_inj, e]
  show _ &&& 1#32 = 1#32 ↔ _
  rw [g_b1', BitVec.getLsbD_sshiftRight]
  unfold g_bi
  have : (decide (32 ≤ 0)) = false := rfl
  rw [this]
  simp only [Nat.add_zero, Bool.not_false, Bool.true_and]
  rw [if_pos h]
theorem g_nt_b {A : g_A} {t o : Nat} (h1 : 1 ≤ o) (h2 : o < 61) : g_nt A t o = if o ≤ 30 then g_bi (A 3 t 1) (o - 1) else g_bi (A 3 t 2) (o - 31) := by
  unfold g_nt
  by_cases c : o ≤ 30
  · rw [if_pos c, if_pos c, if_pos c]
    cases hb : g_bi (A 3 t 1) (o - 1) with
    | true => exact decide_eq_true ((g_bi_o (by omega)).mpr hb)
    | false => exact decide_eq_false (fun q => by rw [(g_bi_o (by omega)).mp q] at hb; cases hb)
  · rw [if_neg c, if_neg c, if_neg c]
    cases hb : g_bi (A 3 t 2) (o - 31) with
    | true => exact decide_eq_true ((g_bi_o (by omega)).mpr hb)
    | false => exact decide_eq_false (fun q => by rw [(g_bi_o (by omega)).mp q] at hb; cases hb)
/-- how a store of the component holds the transactions -/
def r_t (S : g_S) (A : g_A) : Prop := S.1 6 4 0 = A 0 4 0 ∧ ∀ t, 1 ≤ t → t < g_nx A → S.1 7 0 t = A 3 t 0 ∧ S.1 8 0 t = nI (g_lo A t) ∧ S.1 9 0 t = (if 0 < A 6 t 0 then A 6 t 0 else -1) ∧ (∀ o, 1 ≤ o → o < t → g_bt (S.2 10 0 t) o = g_nt A t o) ∧ (∀ o, o < 64 → o = 0 ∨ t ≤ o → g_bt (S.2 10 0 t) o = false)
def r_h (S : g_S) (A : g_A) : Prop := S.1 6 5 0 = nI (g_hz A)
/-- arrays that are read and written with care -/
theorem c_pick {h : q_H} {t k i n : Nat} (h0 : q_at t = 0) (h1 : q_al t = n) (hi : i < n) (hn : n ≤ 2000) : Rp_pick t k (nI i) h = some (h.1 t 0 k i) := by
  unfold Rp_pick
  rw [if_neg (nI_pos (by omega)), h0, h1]
  rw [show (!Nat.beq 0 9) = true from rfl]
  simp only [cond_true]
  rw [if_neg (show ¬ Int32.ofNat n ≤ nI i from nI_ge (b := n) hi (by omega)), g_inN hi (by omega), g_cl (by omega)]
  rfl
theorem c_put {h : q_H} {t k i n : Nat} {v : Int32} (h0 : q_at t = 0) (h1 : q_al t = n) (hi : i < n) (hn : n ≤ 2000) : Rp_put t k (nI i) v h = some (q_si h t 0 k i v) := by
  unfold Rp_put
  rw [if_neg (nI_pos (by omega)), h0, h1]
  rw [show (!Nat.beq 0 9) = true from rfl]
  simp only [cond_true]
  rw [if_neg (show ¬ Int32.ofNat n ≤ nI i from nI_ge (b := n) hi (by omega)), g_inN hi (by omega), g_cl (by omega)]
  rfl
section g_C
variable {H : q_H} {k : Nat} {A : g_A}
theorem c_has {a : Int32} (hR : r_t (g_st H k) A) (hw : g_wt A) : Tn_has k a H = some (q_bi (g_tx A a)) := by
  unfold Tn_has g_tx
  rw [show H.1 6 4 k 0 = A 0 4 0 from hR.1]
  by_cases c1 : a < 1
  · rw [if_pos c1, decide_eq_false (Int32.not_le.mpr c1)]; rfl
  · rw [if_neg c1, decide_eq_true (Int32.not_lt.mp c1)]
    by_cases c2 : A 0 4 0 ≤ a
    · rw [if_pos c2, decide_eq_false (Int32.not_lt.mpr c2)]; rfl
    · rw [if_neg c2, decide_eq_true (Int32.not_le.mp c2)]; rfl
theorem c_so {t : Nat} (hR : r_t (g_st H k) A) (hw : g_wt A) (h1 : 1 ≤ t) (h2 : t < g_nx A) : Tn_stateOf k (nI t) H = some (A 3 t 0) := by
  have h3 := hw.2.2
  unfold Tn_stateOf
  rw [show H.1 6 4 k 0 = A 0 4 0 from hR.1, hw.1, if_neg (show ¬ nI t < (1 : Int32) from nI_nlt (b := 1) h1 (by omega)), if_neg (nI_ge h2 (by omega)), if_neg (show ¬ (61 : Int32) ≤ nI t from nI_ge (b := 61) (by omega) (by decide)), g_inN (by omega) (by decide), g_cl (by omega), show H.1 7 0 k t = A 3 t 0 from (hR.2 t h1 h2).1]
  rfl
theorem c_so1 : Tn_stateOf k (-1) H = some (-1) := by unfold Tn_stateOf; rw [if_pos (by decide)]
theorem c_lowOf {t : Nat} (hR : r_t (g_st H k) A) (hw : g_wt A) (h1 : 1 ≤ t) (h2 : t < g_nx A) : Tn_lowOf k (nI t) H = some (nI (g_lo A t)) := by
  unfold Tn_lowOf
  rw [c_pick (n := 61) rfl rfl (by have := hw.2.2; omega) (by decide)]
  exact congrArg some (hR.2 t h1 h2).2.1
theorem c_waits {t : Nat} (hR : r_t (g_st H k) A) (hw : g_wt A) (h1 : 1 ≤ t) (h2 : t < g_nx A) : Tn_waitsFor k (nI t) H = some (if 0 < A 6 t 0 then A 6 t 0 else -1) := by
  unfold Tn_waitsFor
  rw [c_pick (n := 61) rfl rfl (by have := hw.2.2; omega) (by decide)]
  exact congrArg some (hR.2 t h1 h2).2.2.1
theorem c_kn {t o : Nat} (hR : r_t (g_st H k) A) (hw : g_wt A) (h1 : 1 ≤ t) (h2 : t < g_nx A) (h3 : 1 ≤ o) (h4 : o < g_nx A) : Tn_isKnown k (nI t) (nI o) H = some (q_bi (g_kn A t o)) := by
  have h5 := hw.2.2
  unfold Tn_isKnown g_kn
  by_cases c : o = t
  · rw [if_neg (fun q => q (by rw [c])), decide_eq_true c]; rfl
  · rw [if_pos (fun q => c ((nI_eq (by omega) (by omega)).mp q).symm), decide_eq_false c, if_neg (show ¬ nI o < (1 : Int32) from nI_nlt (b := 1) h3 (by omega))]
    by_cases c2 : t ≤ o
    · rw [if_pos (nI_le c2 (by omega)), decide_eq_false (by omega)]; rfl
    · rw [if_neg (nI_ge (by omega) (by omega)), if_neg (show ¬ (61 : Int32) ≤ nI t from nI_ge (b := 61) (by omega) (by decide)), if_pos (show nI o < (61 : Int32) from nI_lt (b := 61) (by omega) (by decide)), g_inN (by omega) (by decide), decide_eq_true (by omega), g_cl (by omega), show H.1 7 0 k o = A 3 o 0 from (hR.2 o h3 h4).1]
      simp only [cond_true]
      by_cases c3 : A 3 o 0 = 1
      · rw [if_neg (fun q => q c3), decide_eq_true c3, g_inN (by omega) (by decide), g_cl (by omega)]
        simp only [cond_true]
        have hb := (hR.2 t h1 h2).2.2.2.1 o h3 (by omega)
        have e : g_bt (H.2 10 0 k t) o = g_nt A t o := hb
        cases hn : g_nt A t o with
        | true =>
          rw [hn] at e
          rw [if_pos (fun q => by rw [(g_bt_z (by omega)).mp q] at e; cases e)]; rfl
        | false =>
          rw [hn] at e
          rw [if_neg (fun q => q ((g_bt_z (by omega)).mpr e))]; rfl
      · rw [if_pos c3, decide_eq_false c3]; rfl
theorem c_kn1 {t : Nat} (h1 : 1 ≤ t) (h2 : t < 61) : Tn_isKnown k (nI t) (-1) H = some 0 := by
  unfold Tn_isKnown
  rw [if_pos (fun q => absurd (q ▸ nI_pos' (n := t) (by omega)) (by decide)), if_pos (by decide)]
theorem c_hb {a : Int32} {b : Nat} (hR : r_t (g_st H k) A) (hw : g_wt A) (hab : ∀ t, 1 ≤ t → t < 61 → (nI t = a ↔ t = b)) : Tn_horizonBut k a H = some (nI (g_hb A b)) := by
  have hw' := hw
  obtain ⟨e, h1, h2⟩ := hw
  unfold Tn_horizonBut
  refine g_bs ?_
  refine (g_lpI' (g_hs A b) 1 (g_nx A - 1) (g_nx A) (fun i x => (nI (min x (g_nx A)), nI i)) (fun x => nI (min x (g_nx A))) ?_ (fun i x c1 c2 => ?_) (fun x => ?_) (by unfold q_fu; omega)).trans ?_
  · rw [show H.1 6 4 k 0 = A 0 4 0 from hR.1, e, Nat.min_self]; rfl
  · have hlo := g_lo_le (A := A) c1
    rw [show H.1 6 4 k 0 = A 0 4 0 from hR.1]
    dsimp only
    rw [if_neg (by rw [e]; exact nI_ge (by omega) (by omega)), nI_1]
    by_cases q : i = b
    · have : g_hs A b i x = x := if_neg (fun z => z.2.1 q)
      rw [if_pos ((hab i c1 (by omega)).mpr q), this]
      rfl
    · rw [if_neg (fun z => q ((hab i c1 (by omega)).mp z)), c_so hR hw' c1 (by omega)]
      simp only [Option.bind_some]
      by_cases o : A 3 i 0 = 0
      · have o' : g_op A i = true := decide_eq_true o
        rw [if_neg (fun z => z o), c_lowOf hR hw' c1 (by omega)]
        simp only [Option.bind_some]
        by_cases z : g_lo A i < x
        · have : g_hs A b i x = g_lo A i := if_pos ⟨o', q, z⟩
          rw [if_pos (nI_lt (by omega) (by omega)), this, Nat.min_eq_left (by omega)]
        · have : g_hs A b i x = x := if_neg (fun y => z y.2.2)
          rw [if_neg (nI_nlt (by omega) (by omega)), this]
      · have : g_hs A b i x = x := if_neg (fun y => o (of_decide_eq_true y.1))
        rw [this, if_pos o]
        rfl
  · rw [show H.1 6 4 k 0 = A 0 4 0 from hR.1]
    dsimp only
    have e2 : 1 + (g_nx A - 1) = g_nx A := by omega
    rw [e2, if_pos (by rw [e]; exact Int32.le_refl _)]
  · have : g_hb A b ≤ g_nx A := g_hb_le
    unfold g_hb at this ⊢
    rw [Nat.min_eq_left this]
theorem g_ab0 : ∀ t : Nat, 1 ≤ t → t < 61 → (nI t = -1 ↔ t = 0) := fun t h1 h2 => ⟨fun q => by exfalso; exact absurd (q ▸ nI_pos' (n := t) (by omega)) (by decide), fun q => by omega⟩
theorem g_abn {b : Nat} (hb : b < 61) : ∀ t : Nat, 1 ≤ t → t < 61 → (nI t = nI b ↔ t = b) := fun t h1 h2 => nI_eq (by omega) (by omega)
theorem c_hz (hR : r_t (g_st H k) A) (hw : g_wt A) : Tn_horizonBut k (-1) H = some (nI (g_hz A)) := c_hb hR hw g_ab0
end g_C
