/-! commit, abort -/
def g_cw0 (A : g_A) (t n : Nat) : g_A := fun g i w => if g = 6 ∧ w = 0 ∧ (i = t ∨ (1 ≤ i ∧ i < 1 + n ∧ A 6 i 0 = nI t)) then 0 else A g i w
def g_cls (A : g_A) (t : Nat) (how : Int32) : g_A := g_au (g_cw0 A t (g_nx A - 1)) 3 t 0 how
def g_clo (A : g_A) (t : Nat) (how : Int32) : g_A := g_tell (g_cls A t how) (if how = 1 then 6 else 7) (nI t)
theorem m_clsLoop {A : g_A} {h : q_H} {t : Nat} (hw : g_wt A) (h1 : 1 ≤ t) (h2 : t < g_nx A) : q_lp (fun s16 : Int32 × q_H => (if (s16.2.1 31 0 7 4) ≤ s16.1 then (some (.inr (s16.2))) else (bif q_in ((1583 : Int32) + s16.1) 1644 then (Option.bind (α := q_H) (if ¬ (s16.2.1 31 0 7 ((1583 : Int32) + s16.1).toNatClampNeg) = nI t then (some (s16.2)) else (bif q_in ((1583 : Int32) + s16.1) 1644 then (some ((q_si s16.2 31 0 7 ((1583 : Int32) + s16.1).toNatClampNeg (0 : Int32)))) else none)) (fun p30 => some (.inl ((s16.1 + (1 : Int32)), p30)))) else none) : Option ((Int32 × q_H) ⊕ (q_H)))) q_fu (((1 : Int32), g_ma h 31 (g_cw0 A t 0)) : Int32 × q_H) = some (g_ma h 31 (g_cw0 A t (g_nx A - 1))) := by
  obtain ⟨e, n2, n61⟩ := hw
  refine g_lp (fun i => (nI (1 + i), g_ma h 31 (g_cw0 A t i))) _ (g_nx A - 1) (fun i hi => ?_) ?_ q_fu (by unfold q_fu; omega)
  · dsimp only
    have r4 : g_cw0 A t i 0 4 0 = A 0 4 0 := by unfold g_cw0; rw [if_neg (by omega)]
    have ix : ((1583 : Int32) + nI (1 + i)) = nI (1583 + (1 + i)) := by rw [show (1583 : Int32) = nI 1583 from rfl, nI_add]
    have r6 : g_cw0 A t i 6 (1 + i) 0 = if 1 + i = t then 0 else A 6 (1 + i) 0 := by
      unfold g_cw0
      by_cases c : 1 + i = t
      · rw [if_pos ⟨rfl, rfl, Or.inl c⟩, if_pos c]
      · rw [if_neg (fun q => by rcases q.2.2 with z | z; exact c z; exact absurd z.2.1 (by omega)), if_neg c]
    rw [m_g (by omega), r4, e, if_neg (nI_ge (by omega) (by omega)), ix, g_inN (by omega) (by decide), g_cl (by omega), g_ma_rd (by omega), g_at6, r6, g_ma_si (g := 6) (i := 1 + i) (w := 0) (fun B => g_at6) rfl (by omega), nI_1]
    simp only [cond_true]
    have t0 : ¬ (0 : Int32) = nI t := fun q => nI_ne0 h1 (by omega) q.symm
    by_cases c : 1 + i = t
    · rw [if_pos c, if_pos t0]
      have : g_cw0 A t (i + 1) = g_cw0 A t i := by
        funext g j w
        unfold g_cw0
        by_cases z : g = 6 ∧ w = 0 ∧ (j = t ∨ (1 ≤ j ∧ j < 1 + i ∧ A 6 j 0 = nI t))
        · rw [if_pos z, if_pos ⟨z.1, z.2.1, by rcases z.2.2 with y | y; exact Or.inl y; exact Or.inr ⟨y.1, by omega, y.2.2⟩⟩]
        · rw [if_neg z, if_neg (fun y => z ⟨y.1, y.2.1, by
            rcases y.2.2 with x | x
            · exact Or.inl x
            · by_cases d : j = 1 + i
              · exact Or.inl (by rw [d]; exact c)
              · exact Or.inr ⟨x.1, by omega, x.2.2⟩⟩)]
      rw [this]; rfl
    · rw [if_neg c]
      by_cases d : A 6 (1 + i) 0 = nI t
      · rw [if_neg (fun q => q d)]
        have : g_au (g_cw0 A t i) 6 (1 + i) 0 0 = g_cw0 A t (i + 1) := by
          funext g j w
          unfold g_au g_cw0
          by_cases z : g = 6 ∧ j = 1 + i ∧ w = 0
          · rw [if_pos z, if_pos ⟨z.1, z.2.2, Or.inr ⟨by omega, by omega, by rw [z.2.1]; exact d⟩⟩]
          · rw [if_neg z]
            by_cases y : g = 6 ∧ w = 0 ∧ (j = t ∨ (1 ≤ j ∧ j < 1 + i ∧ A 6 j 0 = nI t))
            · rw [if_pos y, if_pos ⟨y.1, y.2.1, by rcases y.2.2 with x | x; exact Or.inl x; exact Or.inr ⟨x.1, by omega, x.2.2⟩⟩]
            · rw [if_neg y, if_neg (fun x => y ⟨x.1, x.2.1, by
                rcases x.2.2 with u | u
                · exact Or.inl u
                · exact Or.inr ⟨u.1, by
                    have : j ≠ 1 + i := fun q => z ⟨x.1, q, x.2.1⟩
                    omega, u.2.2⟩⟩)]
        rw [this]; rfl
      · rw [if_pos d]
        have : g_cw0 A t (i + 1) = g_cw0 A t i := by
          funext g j w
          unfold g_cw0
          by_cases z : g = 6 ∧ w = 0 ∧ (j = t ∨ (1 ≤ j ∧ j < 1 + i ∧ A 6 j 0 = nI t))
          · rw [if_pos z, if_pos ⟨z.1, z.2.1, by rcases z.2.2 with y | y; exact Or.inl y; exact Or.inr ⟨y.1, by omega, y.2.2⟩⟩]
          · rw [if_neg z, if_neg (fun y => z ⟨y.1, y.2.1, by
              rcases y.2.2 with x | x
              · exact Or.inl x
              · exact Or.inr ⟨x.1, by
                  have : j ≠ 1 + i := fun q => d (by rw [← q]; exact x.2.2)
                  omega, x.2.2⟩⟩)]
        rw [this]; rfl
  · dsimp only
    have r4 : g_cw0 A t (g_nx A - 1) 0 4 0 = A 0 4 0 := by unfold g_cw0; rw [if_neg (by omega)]
    have en : 1 + (g_nx A - 1) = g_nx A := by omega
    rw [m_g (by omega), r4, e, en, if_pos (Int32.le_refl _)]
theorem g_cls_wt {A : g_A} {t : Nat} {how : Int32} (hw : g_wt A) : g_wt (g_cls A t how) ∧ g_nx (g_cls A t how) = g_nx A := by
  have e : g_cls A t how 0 4 0 = A 0 4 0 := by unfold g_cls g_cw0; rw [g_au_ne (by omega), if_neg (by omega)]
  have n : g_nx (g_cls A t how) = g_nx A := by unfold g_nx; rw [e]
  exact ⟨by unfold g_wt; rw [n, e]; exact hw, n⟩
theorem m_closeNow {A : g_A} {h : q_H} {a how : Int32} (hW : g_W A) (hh : how = 1 ∨ how = 2) : Mo_closeNow a how (g_ma h 31 A) = if g_opn A a = 0 then (if how = 1 ∧ 0 < A 6 a.toNatClampNeg 0 then some (-1, q_si (g_ma h 31 A) 30 6 7 0 11) else some (nI (g_hz (g_clo A a.toNatClampNeg how)), g_ma h 31 (g_clo A a.toNatClampNeg how))) else some (-1, q_si (g_ma h 31 A) 30 6 7 0 (g_opn A a)) := by
  have wt := hW.1.1
  unfold Mo_closeNow
  rw [m_isTxn wt]
  simp only [Option.bind_some]
  by_cases c : g_opn A a = 0
  · obtain ⟨t, e, t1, t2, t3, t4⟩ := g_opn_t wt c
    have t61 : t < 61 := by have := t1.2; have := wt.2.2; omega
    rw [t4, if_pos (by decide), if_pos c, t3, e, m_isOpen t61]
    simp only [Option.bind_some]
    unfold g_op
    rw [decide_eq_true t2, if_pos (by decide)]
    have go : ∀ {X : Option (Int32 × q_H)}, X = (bif q_in ((1583 : Int32) + nI t) 1644 then ((q_lp (fun s16 : Int32 × q_H => (if (s16.2.1 31 0 7 4) ≤ s16.1 then (some (.inr (s16.2))) else (bif q_in ((1583 : Int32) + s16.1) 1644 then (Option.bind (α := q_H) (if ¬ (s16.2.1 31 0 7 ((1583 : Int32) + s16.1).toNatClampNeg) = nI t then (some (s16.2)) else (bif q_in ((1583 : Int32) + s16.1) 1644 then (some ((q_si s16.2 31 0 7 ((1583 : Int32) + s16.1).toNatClampNeg (0 : Int32)))) else none)) (fun p30 => some (.inl ((s16.1 + (1 : Int32)), p30)))) else none) : Option ((Int32 × q_H) ⊕ (q_H)))) q_fu (((1 : Int32), (q_si (g_ma h 31 A) 31 0 7 ((1583 : Int32) + nI t).toNatClampNeg (0 : Int32))) : Int32 × q_H)).bind fun p34 => bif q_in ((1052 : Int32) + ((3 : Int32) * nI t)) 1644 then (if ¬ how = (1 : Int32) then ((Mo_tellsOf (7 : Int32) (nI t) (q_si p34 31 0 7 ((1052 : Int32) + ((3 : Int32) * nI t)).toNatClampNeg how)).bind fun x35 => (Mo_horizon x35).bind fun x37 => some ((x37, x35))) else ((Mo_tellsOf (6 : Int32) (nI t) (q_si p34 31 0 7 ((1052 : Int32) + ((3 : Int32) * nI t)).toNatClampNeg how)).bind fun x39 => (Mo_horizon x39).bind fun x41 => some ((x41, x39)))) else none) else none) → X = some (nI (g_hz (g_clo A t how)), g_ma h 31 (g_clo A t how)) := fun hX => by
      rw [hX]
      have i6 : ((1583 : Int32) + nI t) = nI (1583 + t) := by rw [show (1583 : Int32) = nI 1583 from rfl, nI_add]
      have i3 : ((1052 : Int32) + ((3 : Int32) * nI t)) = nI (1052 + 3 * t + 0) := by rw [show (1052 : Int32) = nI 1052 from rfl, show (3 : Int32) = nI 3 from rfl, pk_mul, nI_add]; rfl
      rw [i6, g_inN (by omega) (by decide), g_cl (by omega), g_ma_si (g := 6) (i := t) (w := 0) (fun B => g_at6) rfl (by omega)]
      have e0 : g_au A 6 t 0 0 = g_cw0 A t 0 := by
        funext g i w
        unfold g_au g_cw0
        by_cases z : g = 6 ∧ i = t ∧ w = 0
        · rw [if_pos z, if_pos ⟨z.1, z.2.2, Or.inl z.2.1⟩]
        · rw [if_neg z, if_neg (fun q => by rcases q.2.2 with y | y; exact z ⟨q.1, y, q.2.1⟩; omega)]
      rw [e0]
      simp only [cond_true]
      refine g_bd (m_clsLoop wt t1.1 t1.2) ?_
      rw [i3, g_inN (by omega) (by decide), g_cl (by omega), g_ma_si (g := 3) (i := t) (w := 0) (fun B => g_at3 (by omega) (by omega)) rfl (by omega), m_tells, m_tells]
      simp only [cond_true, Option.bind_some]
      have wt' : ∀ kd, g_wt (g_tell (g_cls A t how) kd (nI t)) := fun kd => g_fk_wt g_fk_tell (g_cls_wt wt).1
      have ee : g_au (g_cw0 A t (g_nx A - 1)) 3 t 0 how = g_cls A t how := rfl
      rw [ee]
      unfold g_clo
      rcases hh with rfl | rfl
      · rw [if_neg (fun q => q rfl), m_horizon (wt' 6), if_pos rfl]; rfl
      · rw [if_pos (by decide), m_horizon (wt' 7), if_neg (by decide)]; rfl
    rcases hh with rfl | rfl
    · rw [if_neg (fun q => q rfl), m_isWaiting t61]
      simp only [Option.bind_some]
      by_cases w : 0 < A 6 t 0
      · rw [decide_eq_true w, if_neg (by decide), if_pos ⟨trivial, w⟩]; rfl
      · rw [decide_eq_false w, if_pos (by rfl), if_neg (fun q => w q.2)]
        exact go rfl
    · rw [if_pos (by decide), if_neg (fun q => absurd q.1 (by decide))]
      exact go rfl
  · rw [if_neg c]
    unfold g_opn at c ⊢
    cases ct : g_tx A a with
    | false => rw [if_neg (by decide), if_neg (by decide)]; rfl
    | true =>
      obtain ⟨t, e, t1, t2⟩ := g_tx_t wt ct
      have ht : a.toNatClampNeg = t := by rw [e]; exact g_cl (by have := wt.2.2; omega)
      rw [ct, if_pos rfl, ht] at c
      rw [if_pos (by decide), if_pos rfl, ht, e, m_isOpen (by have := wt.2.2; omega)]
      simp only [Option.bind_some]
      unfold g_op
      by_cases o : A 3 t 0 = 0
      · rw [if_pos o] at c; exact absurd rfl c
      · rw [decide_eq_false o, if_neg (by decide), if_neg o]; rfl
/-- the same in a store -/
def g_cS0 (S : g_S) (t n : Nat) (st : Int32) : g_S := (fun a f i => if a = 7 ∧ f = 0 ∧ i = t then st else if a = 9 ∧ f = 0 ∧ (i = t ∨ (1 ≤ i ∧ i < 1 + n ∧ S.1 9 0 i = nI t)) then -1 else S.1 a f i, S.2)
theorem g_cS0_o {S : g_S} {t n a f i : Nat} {st : Int32} (h7 : a ≠ 7) (h9 : a ≠ 9) : (g_cS0 S t n st).1 a f i = S.1 a f i := by
  unfold g_cS0
  dsimp only
  rw [if_neg (fun q => h7 q.1), if_neg (fun q => h9 q.1)]
theorem r_t_cls {S : g_S} {A : g_A} {t : Nat} {how : Int32} (hr : r_t S A) (hw : g_wt A) (h1 : 1 ≤ t) (h2 : t < g_nx A) : r_t (g_cS0 S t (g_nx A - 1) how) (g_cls A t how) := by
  obtain ⟨_, n⟩ := g_cls_wt (t := t) (how := how) hw
  have n61 := hw.2.2
  have o3 : ∀ x w, ¬ (x = t ∧ w = 0) → g_cls A t how 3 x w = A 3 x w := fun x w h => by
    unfold g_cls g_cw0
    rw [g_au_ne (fun q => h q.2), if_neg (by omega)]
  have nt : ∀ x o, g_nt (g_cls A t how) x o = g_nt A x o := fun x o => by unfold g_nt; rw [o3 x _ (by split <;> omega)]
  have lo : ∀ x, g_lo (g_cls A t how) x = g_lo A x := fun x => by unfold g_lo; exact g_fst_congr _ _ (fun j _ _ => nt x j)
  refine ⟨?_, fun x a b => ?_⟩
  · rw [g_cS0_o (by omega) (by omega)]
    have e : g_cls A t how 0 4 0 = A 0 4 0 := by unfold g_cls g_cw0; rw [g_au_ne (by omega), if_neg (by omega)]
    rw [e]; exact hr.1
  · rw [n] at b
    obtain ⟨q7, q8, q9, q10, q11⟩ := hr.2 x a b
    rw [g_cS0_o (t := t) (a := 8) (by omega) (by omega), lo]
    refine ⟨?_, q8, ?_, fun o a b => by rw [nt]; exact q10 o a b, q11⟩
    · by_cases d : x = t
      · subst d
        have e : g_cls A x how 3 x 0 = how := by unfold g_cls; rw [g_au_eq]
        rw [e]
        unfold g_cS0
        dsimp only
        rw [if_pos ⟨rfl, rfl, rfl⟩]
      · rw [o3 x 0 (fun q => d q.1)]
        unfold g_cS0
        dsimp only
        rw [if_neg (fun q => d q.2.2), if_neg (by omega)]; exact q7
    · have e6 : g_cls A t how 6 x 0 = if x = t ∨ A 6 x 0 = nI t then 0 else A 6 x 0 := by
        unfold g_cls g_cw0
        rw [g_au_ne (by omega)]
        by_cases d : x = t ∨ A 6 x 0 = nI t
        · rw [if_pos d, if_pos ⟨rfl, rfl, by rcases d with d | d; exact Or.inl d; exact Or.inr ⟨a, by omega, d⟩⟩]
        · rw [if_neg d, if_neg (fun q => d (by rcases q.2.2 with y | y; exact Or.inl y; exact Or.inr y.2.2))]
      have e9 : S.1 9 0 x = nI t ↔ A 6 x 0 = nI t := by
        rw [q9]
        by_cases z : 0 < A 6 x 0
        · rw [if_pos z]
        · rw [if_neg z]
          refine ⟨fun q => absurd (q ▸ nI_pos' (n := t) (by omega)) (by decide), fun q => ?_⟩
          rw [q] at z
          exact absurd (nI_lt (a := 0) (b := t) (by omega) (by omega)) z
      rw [e6]
      unfold g_cS0
      dsimp only
      rw [if_neg (by omega)]
      by_cases d : x = t ∨ A 6 x 0 = nI t
      · rw [if_pos ⟨rfl, rfl, by rcases d with d | d; exact Or.inl d; exact Or.inr ⟨a, by omega, e9.mpr d⟩⟩, if_pos d, if_neg (by decide)]
      · rw [if_neg (fun q => d (by rcases q.2.2 with y | y; exact Or.inl y; exact Or.inr (e9.mp y.2.2))), if_neg d]; exact q9
theorem c_end {H : q_H} {k t : Nat} {A : g_A} {how : Int32} (hr : r_t (g_st H k) A) (hw : g_wt A) (h1 : 1 ≤ t) (h2 : t < g_nx A) : Tn_end k (nI t) how H = some (g_cw H k (g_su (g_cS0 (g_st H k) t (g_nx A - 1) how) 6 5 0 (nI (g_hz (g_cls A t how))))) := by
  have n61 := hw.2.2
  unfold Tn_end
  rw [c_put (n := 61) rfl rfl (by omega) (by decide)]
  simp only [Option.bind_some]
  rw [c_put (n := 61) rfl rfl (by omega) (by decide), g_si_cw (h := H) (t := 7), g_cw_si]
  simp only [Option.bind_some]
  have e0 : g_su (g_su (g_st H k) 7 0 t how) 9 0 t (-1) = g_cS0 (g_st H k) t 0 how := by
    refine Prod.ext ?_ rfl
    funext a f i
    unfold g_su g_cS0
    dsimp only
    by_cases z : a = 9 ∧ f = 0 ∧ i = t
    · rw [if_pos z, if_neg (by omega), if_pos ⟨z.1, z.2.1, Or.inl z.2.2⟩]
    · rw [if_neg z]
      by_cases y : a = 7 ∧ f = 0 ∧ i = t
      · rw [if_pos y, if_pos y]
      · rw [if_neg y, if_neg y, if_neg (fun q => by rcases q.2.2 with u | u; exact z ⟨q.1, q.2.1, u⟩; omega)]
  rw [e0]
  refine g_bs ?_
  have r4 : ∀ n, (g_cS0 (g_st H k) t n how).1 6 4 0 = nI (g_nx A) := fun n => by rw [g_cS0_o (by omega) (by omega), ← hw.1]; exact hr.1
  refine g_lp (fun i => (nI (1 + i), g_cw H k (g_cS0 (g_st H k) t i how))) _ (g_nx A - 1) (fun i hi => ?_) ?_ q_fu (by unfold q_fu; omega)
  · dsimp only
    rw [g_cw_rd, r4, if_neg (nI_ge (by omega) (by omega))]
    unfold Tn_waitsFor
    rw [c_pick (n := 61) rfl rfl (by omega) (by decide), g_cw_rd]
    simp only [Option.bind_some]
    have en : nI (1 + i) + (1 : Int32) = nI (1 + (i + 1)) := by rw [nI_1]; rfl
    have r9 : (g_cS0 (g_st H k) t i how).1 9 0 (1 + i) = if 1 + i = t then -1 else (g_st H k).1 9 0 (1 + i) := by
      unfold g_cS0
      dsimp only
      rw [if_neg (by omega)]
      by_cases c : 1 + i = t
      · rw [if_pos ⟨rfl, rfl, Or.inl c⟩, if_pos c]
      · rw [if_neg (fun q => by rcases q.2.2 with z | z; exact c z; exact absurd z.2.1 (by omega)), if_neg c]
    have mono : ∀ (P : 1 + i = t ∨ (g_st H k).1 9 0 (1 + i) ≠ nI t), g_cS0 (g_st H k) t (i + 1) how = g_cS0 (g_st H k) t i how := fun P => by
      refine Prod.ext ?_ rfl
      funext a f j
      unfold g_cS0
      dsimp only
      by_cases y : a = 7 ∧ f = 0 ∧ j = t
      · rw [if_pos y, if_pos y]
      · rw [if_neg y, if_neg y]
        by_cases z : a = 9 ∧ f = 0 ∧ (j = t ∨ (1 ≤ j ∧ j < 1 + i ∧ (g_st H k).1 9 0 j = nI t))
        · rw [if_pos z, if_pos ⟨z.1, z.2.1, by rcases z.2.2 with u | u; exact Or.inl u; exact Or.inr ⟨u.1, by omega, u.2.2⟩⟩]
        · rw [if_neg z, if_neg (fun u => z ⟨u.1, u.2.1, by
            rcases u.2.2 with x | x
            · exact Or.inl x
            · by_cases d : j = 1 + i
              · rcases P with p | p
                · exact Or.inl (by rw [d]; exact p)
                · exact absurd (by rw [← d]; exact x.2.2) p
              · exact Or.inr ⟨x.1, by omega, x.2.2⟩⟩)]
    rw [r9, en]
    by_cases c : 1 + i = t
    · rw [if_pos c, if_pos (fun q => absurd (q ▸ nI_pos' (n := t) (by omega)) (by decide)), mono (Or.inl c)]; rfl
    · rw [if_neg c]
      by_cases d : (g_st H k).1 9 0 (1 + i) = nI t
      · rw [if_neg (fun q => q d), c_put (n := 61) rfl rfl (by omega) (by decide), g_cw_si]
        simp only [Option.bind_some]
        have : g_su (g_cS0 (g_st H k) t i how) 9 0 (1 + i) (-1) = g_cS0 (g_st H k) t (i + 1) how := by
          refine Prod.ext ?_ rfl
          funext a f j
          unfold g_su g_cS0
          dsimp only
          by_cases z : a = 9 ∧ f = 0 ∧ j = 1 + i
          · rw [if_pos z, if_neg (by omega), if_pos ⟨z.1, z.2.1, Or.inr ⟨by omega, by omega, by rw [z.2.2]; exact d⟩⟩]
          · rw [if_neg z]
            by_cases y : a = 7 ∧ f = 0 ∧ j = t
            · rw [if_pos y, if_pos y]
            · rw [if_neg y, if_neg y]
              by_cases x : a = 9 ∧ f = 0 ∧ (j = t ∨ (1 ≤ j ∧ j < 1 + i ∧ (g_st H k).1 9 0 j = nI t))
              · rw [if_pos x, if_pos ⟨x.1, x.2.1, by rcases x.2.2 with u | u; exact Or.inl u; exact Or.inr ⟨u.1, by omega, u.2.2⟩⟩]
              · rw [if_neg x, if_neg (fun w => x ⟨w.1, w.2.1, by
                  rcases w.2.2 with u | u
                  · exact Or.inl u
                  · exact Or.inr ⟨u.1, by
                      have : j ≠ 1 + i := fun q => z ⟨w.1, w.2.1, q⟩
                      omega, u.2.2⟩⟩)]
        rw [this]
      · rw [if_pos d, mono (Or.inr d)]; rfl
  · dsimp only
    have en : 1 + (g_nx A - 1) = g_nx A := by omega
    have hr2 : r_t (g_st (g_cw H k (g_cS0 (g_st H k) t (g_nx A - 1) how)) k) (g_cls A t how) := by rw [g_st_cw]; exact r_t_cls hr hw h1 h2
    rw [g_cw_rd, r4, en, if_pos (Int32.le_refl _), c_hz hr2 (g_cls_wt hw).1]
    simp only [Option.bind_some]
    rw [g_cw_si]
