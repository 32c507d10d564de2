/-! the text: numbers, both sides -/
theorem x_di_c {v : Int32} (h : x_di v = true) : ∃ d, d ≤ 9 ∧ v = nI (48 + d) := by
  have h' : g_in v 0 (nI 57) = true := by
    unfold x_di g_in at h
    unfold g_in
    simp only [Bool.and_eq_true, Bool.not_eq_true', decide_eq_false_iff_not] at h ⊢
    exact ⟨fun q => h.1 (Int32.lt_of_lt_of_le q (by decide)), h.2⟩
  obtain ⟨k, hk, rfl⟩ := g_in_t (by decide) h'
  by_cases q : 48 ≤ k
  · exact ⟨k - 48, by omega, by rw [show 48 + (k - 48) = k by omega]⟩
  · unfold x_di g_in at h
    rw [decide_eq_true (show nI k < 48 from nI_lt (a := k) (b := 48) (by omega) (by omega))] at h
    cases h
theorem x_nm_v {T : Nat → Int32} {q : Nat} : ∀ m, m ≤ 3 → (∀ i, q ≤ i → i < q + m → x_di (T i) = true) → ∃ a, a < 10 ^ m ∧ x_nm T q (q + m) = nI a := by
  intro m
  induction m with
  | zero =>
    intro _ _
    refine ⟨0, by decide, ?_⟩
    unfold x_nm
    rw [show q + 0 - q = 0 by omega]; rfl
  | succ m ih =>
    intro hm h
    obtain ⟨a, ha, e⟩ := ih (by omega) (fun i x y => h i x (by omega))
    obtain ⟨d, hd, e2⟩ := x_di_c (h (q + m) (by omega) (by omega))
    have hp : 10 ^ m ≤ 10 ^ 2 := Nat.pow_le_pow_right (by decide) (by omega)
    refine ⟨a * 10 + d, by rw [Nat.pow_succ]; omega, ?_⟩
    have : x_nm T q (q + (m + 1)) = x_nm T q (q + m) * 10 + T (q + m) - 48 := by
      unfold x_nm
      rw [show q + (m + 1) - q = m + 1 by omega, show q + m - q = m by omega]; rfl
    rw [this, e, e2, show (10 : Int32) = nI 10 from rfl, show (48 : Int32) = nI 48 from rfl, pk_mul, nI_add, pk_sub (by omega), show a * 10 + (48 + d) - 48 = a * 10 + d by omega]
theorem x_dg_L {T : Nat → Int32} {n q i : Nat} (a : q ≤ i) (b : i < x_dg T n q) : x_di (T i) = true := by
  have := g_fst_ne (fun i => !x_di (T i)) (n - q) q i a b
  rw [Bool.not_eq_false'] at this
  exact this
theorem x_kd_2 {T : Nat → Int32} {n q : Nat} (h : x_kd T n q = 2) : q < n ∧ x_di (T q) = true ∧ x_dg T n q - q ≤ 3 ∧ x_en T n q = x_dg T n q := by
  unfold x_kd at h
  by_cases c : n ≤ q
  · rw [if_pos c] at h; omega
  · rw [if_neg c] at h
    by_cases d : T q = 59
    · rw [if_pos d] at h; omega
    · rw [if_neg d] at h
      by_cases e : x_le (T q) = true
      · rw [if_pos e] at h; omega
      · rw [if_neg e] at h
        by_cases f : x_di (T q) = true
        · rw [if_pos f] at h
          by_cases g : x_dg T n q - q ≤ 3
          · refine ⟨by omega, f, g, ?_⟩
            unfold x_en
            rw [if_neg c, if_neg d, if_neg e, if_pos f]
          · rw [if_neg g] at h; omega
        · rw [if_neg f] at h; omega
theorem x_nm_0 {T : Nat → Int32} {n q : Nat} (h : x_kd T n q = 2) : 0 ≤ x_nm T q (x_dg T n q) := by
  obtain ⟨a, b, c, d⟩ := x_kd_2 h
  have g := x_dg_b (T := T) (show q ≤ n by omega)
  obtain ⟨v, hv, e⟩ := x_nm_v (T := T) (q := q) (x_dg T n q - q) c (fun i x y => x_dg_L (n := n) x (by omega))
  rw [show q + (x_dg T n q - q) = x_dg T n q by omega] at e
  have : 10 ^ (x_dg T n q - q) ≤ 10 ^ 3 := Nat.pow_le_pow_right (by decide) c
  rw [e]
  exact nI_pos' (by omega)
theorem m_good {w i : Nat} {v : Int32} {x15 : q_H} (hw : w < 14) (hi : i < 5) : ∃ g, (if ¬ nI w = 0 then (if ¬ nI w = (1 : Int32) then (if ¬ nI w = (2 : Int32) then (if (3 : Int32) < nI w then (some ((1 : Int32))) else (if ¬ nI i = 0 then (if nI i = (1 : Int32) then (some ((1 : Int32))) else ((Mo_isIn v (1 : Int32) (20 : Int32) x15).bind fun x21 => if x21 = 0 then (some ((0 : Int32))) else (some ((1 : Int32))))) else (if (99 : Int32) < v then (some ((0 : Int32))) else (some ((1 : Int32)))))) else (if (30 : Int32) < v then (some ((0 : Int32))) else (some ((1 : Int32))))) else ((Mo_isIn v (1 : Int32) (8 : Int32) x15).bind fun x30 => some (x30))) else ((Mo_isIn v (32 : Int32) (96 : Int32) x15).bind fun x33 => some (x33))) = some (q_bi g) ∧ (0 ≤ v → g = x_cb w i v) := by
  unfold x_cb
  have up : ∀ m : Int32, ∃ g, (if m < v then (some ((0 : Int32))) else (some ((1 : Int32)))) = some (q_bi g) ∧ (0 ≤ v → g = g_in v 0 m) := fun m => by
    unfold g_in
    by_cases c : m < v
    · exact ⟨false, if_pos c, fun _ => by rw [decide_eq_true c, Bool.not_true, Bool.and_false]⟩
    · exact ⟨true, if_neg c, fun z => by rw [decide_eq_false c, decide_eq_false (Int32.not_lt.mpr z)]; rfl⟩
  by_cases w0 : w = 0
  · subst w0
    rw [if_neg (by decide), if_pos rfl, m_isIn]
    exact ⟨g_in v 32 96, rfl, fun _ => rfl⟩
  · rw [if_pos (show ¬ nI w = 0 from nI_e (b := 0) (by omega) (by omega) w0), if_neg w0]
    by_cases w1 : w = 1
    · subst w1
      rw [if_neg (by decide), if_pos rfl, m_isIn]
      exact ⟨g_in v 1 8, rfl, fun _ => rfl⟩
    · rw [if_pos (show ¬ nI w = 1 from nI_e (b := 1) (by omega) (by omega) w1), if_neg w1]
      by_cases w2 : w = 2
      · subst w2
        rw [if_neg (by decide), if_pos rfl]
        exact up 30
      · rw [if_pos (show ¬ nI w = 2 from nI_e (b := 2) (by omega) (by omega) w2), if_neg w2]
        by_cases w3 : w = 3
        · subst w3
          rw [if_neg (by decide), if_pos rfl]
          by_cases i0 : i = 0
          · subst i0
            rw [if_neg (by decide), if_pos rfl]
            exact up 99
          · rw [if_pos (show ¬ nI i = 0 from nI_e (b := 0) (by omega) (by omega) i0), if_neg i0]
            by_cases i1 : i = 1
            · subst i1
              rw [if_pos (by decide), if_pos rfl]
              exact ⟨true, rfl, fun _ => rfl⟩
            · rw [if_neg (show ¬ nI i = 1 from nI_e (b := 1) (by omega) (by omega) i1), if_neg i1, m_isIn]
              refine ⟨g_in v 1 20, ?_, fun _ => rfl⟩
              simp only [Option.bind_some]
              cases g_in v 1 20 <;> rfl
        · rw [if_pos (show (3 : Int32) < nI w from nI_lt (a := 3) (by omega) (by omega)), if_neg w3]
          exact ⟨true, rfl, fun _ => rfl⟩
def x_bC : Int32 × q_H → Option ((Int32 × q_H) ⊕ (Int32 × q_H)) := (fun s1 : Int32 × q_H => ((Tx_numbersOf (s1.2.1 25 7 6 0) s1.2).bind fun x9 => if x9 ≤ s1.1 then (some (.inr (((1 : Int32), s1.2)))) else ((Tx_readKind (2 : Int32) s1.2).bind fun x11 => if ¬ x11.1 = 0 then ((Tx_canBe s1.1 x11.2).bind fun x13 => if ¬ x13 = 0 then ((Rp_put 27 6 s1.1 (x11.2.1 25 6 6 0) x11.2).bind fun x15 => some (.inl ((s1.1 + (1 : Int32)), x15))) else ((Tx_blame (4 : Int32) (x11.2.1 25 5 6 0) x11.2).bind fun x17 => some (.inr (((0 : Int32), x17))))) else (some (.inr (((0 : Int32), x11.2))))) : Option ((Int32 × q_H) ⊕ (Int32 × q_H))))
def x_bM (a1 : Int32) : Int32 × q_H → Option ((Int32 × q_H) ⊕ q_H) := (fun s1 : Int32 × q_H => (bif q_in a1 14 then (if (s1.2.1 40 0 7 a1.toNatClampNeg) ≤ s1.1 then (some (.inr (s1.2))) else (if ¬ (s1.2.1 30 15 7 0) = 0 then (some (.inr (s1.2))) else (Option.bind (α := Int32) (if ¬ (s1.2.1 30 19 7 0) = (2 : Int32) then (some ((0 : Int32))) else (some ((1 : Int32)))) (fun p14 => (Mo_must p14 (2 : Int32) (s1.2.1 30 17 7 0) s1.2).bind fun x15 => Option.bind (α := Int32) (if ¬ a1 = 0 then (if ¬ a1 = (1 : Int32) then (if ¬ a1 = (2 : Int32) then (if (3 : Int32) < a1 then (some ((1 : Int32))) else (if ¬ s1.1 = 0 then (if s1.1 = (1 : Int32) then (some ((1 : Int32))) else ((Mo_isIn (x15.1 30 20 7 0) (1 : Int32) (20 : Int32) x15).bind fun x21 => if x21 = 0 then (some ((0 : Int32))) else (some ((1 : Int32))))) else (if (99 : Int32) < (x15.1 30 20 7 0) then (some ((0 : Int32))) else (some ((1 : Int32)))))) else (if (30 : Int32) < (x15.1 30 20 7 0) then (some ((0 : Int32))) else (some ((1 : Int32))))) else ((Mo_isIn (x15.1 30 20 7 0) (1 : Int32) (8 : Int32) x15).bind fun x30 => some (x30))) else ((Mo_isIn (x15.1 30 20 7 0) (32 : Int32) (96 : Int32) x15).bind fun x33 => some (x33))) (fun p36 => (Mo_must p36 (4 : Int32) (x15.1 30 17 7 0) x15).bind fun x37 => bif q_in s1.1 5 then (Option.bind (α := q_H) (if ¬ ((q_si x37 41 0 7 s1.1.toNatClampNeg (x37.1 30 20 7 0)).1 30 15 7 0) = 0 then (some ((q_si x37 41 0 7 s1.1.toNatClampNeg (x37.1 30 20 7 0)))) else ((Mo_reads (q_si x37 41 0 7 s1.1.toNatClampNeg (x37.1 30 20 7 0))).bind fun x43 => some (x43))) (fun p46 => some (.inl ((s1.1 + (1 : Int32)), p46)))) else none))))) else none : Option ((Int32 × q_H) ⊕ q_H)))
theorem x_bC_e {H : q_H} : Tx_readNumbers H = (q_lp x_bC q_fu ((0 : Int32), H)).bind fun z8 => some z8 := rfl
theorem x_bM_e {a : Int32} {h : q_H} : Mo_takesNumbers a h = (q_lp (x_bM a) q_fu ((0 : Int32), h)).bind fun z8 => some z8 := rfl
theorem x_bM_w {h : q_H} {w : Nat} {i : Int32} (hw : w < 14) (hW : ¬ h.1 30 15 7 0 = 0) : x_bM (nI w) (i, h) = some (.inr h) := by
  unfold x_bM
  dsimp only
  rw [g_inN hw (by decide), cond_true]
  by_cases c : h.1 40 0 7 (nI w).toNatClampNeg ≤ i
  · rw [if_pos c]
  · rw [if_neg c, if_pos hW]
theorem x_nl {T : Nat → Int32} {n w : Nat} (hn : n ≤ 700) (hw : w < 14) : ∀ (j i p : Nat) (H h : q_H), i + j = x_nb w → H.1 25 2 6 0 = nI n → H.1 25 7 6 0 = nI w → H.1 25 3 6 0 = nI p → p ≤ n → g_T H = T → x_sm h T n → x_rd h T n p → h.1 30 15 7 0 = 0 → H.1 25 15 6 0 = 0 ∧ H.1 25 16 6 0 = -1 → (∀ k, k < i → H.1 27 0 6 k = h.1 41 0 7 k ∧ x_cb w k (H.1 27 0 6 k) = true) →
    ∃ ok H' h', (∀ f, j < f → q_lp x_bC f (nI i, H) = some (q_bi ok, H')) ∧ (∀ f, j + 1 < f → q_lp (x_bM (nI w)) f (nI i, h) = some h') ∧ x_tn H H' ∧ g_tq h h' ∧ (ok = true → (H'.1 25 15 6 0 = 0 ∧ H'.1 25 16 6 0 = -1) ∧ h'.1 30 15 7 0 = 0 ∧ ∃ p', p ≤ p' ∧ p' ≤ n ∧ H'.1 25 3 6 0 = nI p' ∧ x_rd h' T n p' ∧ ∀ k, k < x_nb w → H'.1 27 0 6 k = h'.1 41 0 7 k ∧ x_cb w k (H'.1 27 0 6 k) = true) ∧ (ok = false → ∃ f q, (f = 1 ∨ f = 2 ∨ f = 4) ∧ H'.1 25 15 6 0 = nI f ∧ H'.1 25 16 6 0 = nI q ∧ h'.1 30 15 7 0 = nI f ∧ h'.1 30 16 7 0 = nI q) := by
  have n5 := x_nb_5 w hw
  intro j
  induction j with
  | zero =>
    intro i p H h hij hl h7 ha hp hT sm rd w0 f0 told
    refine ⟨true, H, h, fun f hf => ?_, fun f hf => ?_, x_tn_rf, g_tq_rf, fun _ => ⟨f0, w0, p, Nat.le_refl p, hp, ha, rd, fun k hk => told k (by omega)⟩, (fun q => by cases q)⟩
    · obtain ⟨f, rfl⟩ : ∃ f', f = f' + 1 := ⟨f - 1, by omega⟩
      refine q_lp_r ?_
      unfold x_bC
      dsimp only
      rw [h7, c_numbersOf hw, Option.bind_some, if_pos (nI_le (by omega) (by omega))]; rfl
    · obtain ⟨f, rfl⟩ : ∃ f', f = f' + 1 := ⟨f - 1, by omega⟩
      refine q_lp_r ?_
      unfold x_bM
      dsimp only
      rw [g_inN hw (by decide), cond_true, g_cl (by omega), sm.2.2.2 w hw, if_pos (nI_le (by omega) (by omega))]
  | succ j ih =>
    intro i p H h hij hl h7 ha hp hT sm rd w0 f0 told
    obtain ⟨H1, e1, x1, x3, x5, x27, xk, xf⟩ := c_readKind (w := 2) hn hl hp ha (by decide)
    rw [hT] at e1 x3 x5 xk xf
    obtain ⟨r17, r19, r18, r20, r22⟩ := id rd
    have sb := x_sk_b (T := T) hp
    have k4 := x_kd_4 (T := T) (n := n) (q := x_sk T n p)
    have stepC : x_bC (nI i, H) = (if ¬ (q_bi (decide (x_kd T n (x_sk T n p) = 2))) = 0 then ((Tx_canBe (nI i) H1).bind fun x13 => if ¬ x13 = 0 then ((Rp_put 27 6 (nI i) (H1.1 25 6 6 0) H1).bind fun x15 => some (.inl ((nI i + (1 : Int32)), x15))) else ((Tx_blame (4 : Int32) (H1.1 25 5 6 0) H1).bind fun x17 => some (.inr (((0 : Int32), x17))))) else (some (.inr (((0 : Int32), H1))))) := by
      unfold x_bC
      dsimp only
      rw [h7, c_numbersOf hw, Option.bind_some, if_neg (nI_ge (by omega) (by omega)), show (2 : Int32) = nI 2 from rfl, e1]
      rfl
    by_cases c : x_kd T n (x_sk T n p) = 2
    · obtain ⟨y1, y2⟩ := xk c
      have y6 := y2 rfl
      obtain ⟨z1, z2, z3, z4⟩ := x_kd_2 c
      have v0 := x_nm_0 c
      obtain ⟨g, eg, eg2⟩ := m_good (w := w) (i := i) (v := h.1 30 20 7 0) (x15 := h) hw (by omega)
      have eg2' := eg2 (by rw [r20 c]; exact v0)
      rw [r20 c] at eg2'
      have h17 : H1.1 25 7 6 0 = nI w := by rw [y1.1 25 7 6 0 (by omega)]; exact h7
      rw [decide_eq_true c, if_pos qn1, c_canBe hw (by omega) h17 y6, Option.bind_some] at stepC
      have stepM : x_bM (nI w) (nI i, h) = ((Mo_must (q_bi (x_cb w i (x_nm T (x_sk T n p) (x_dg T n (x_sk T n p))))) (4 : Int32) (nI (x_sk T n p)) h).bind fun x37 => (Option.bind (α := q_H) (if ¬ ((q_si x37 41 0 7 i (x37.1 30 20 7 0)).1 30 15 7 0) = 0 then (some ((q_si x37 41 0 7 i (x37.1 30 20 7 0)))) else ((Mo_reads (q_si x37 41 0 7 i (x37.1 30 20 7 0))).bind fun x43 => some (x43))) (fun p46 => some (.inl ((nI i + (1 : Int32)), p46))))) := by
        unfold x_bM
        dsimp only
        rw [g_inN hw (by decide), cond_true, g_cl (n := w) (by omega), sm.2.2.2 w hw, if_neg (nI_ge (by omega) (by omega)), w0, if_neg (fun q => q rfl), r19, c, if_neg (fun q => q rfl), Option.bind_some, m_must1, Option.bind_some, eg, Option.bind_some, r17, g_inN (n := i) (by omega) (by decide), eg2']
        simp only [cond_true]
        rw [g_cl (n := i) (by omega)]
      cases cb : x_cb w i (x_nm T (x_sk T n p) (x_dg T n (x_sk T n p))) with
      | true =>
        rw [cb, if_pos qn1, c_put (t := 27) (n := 5) rfl rfl (by omega) (by omega), Option.bind_some, nI_1] at stepC
        rw [cb, show q_bi true = 1 from rfl, m_must1, Option.bind_some, g_rd_o (by omega), w0, if_neg (fun q => q rfl), r20 c] at stepM
        generalize hv : x_nm T (x_sk T n p) (x_dg T n (x_sk T n p)) = v at *
        have q2 : g_tq h (q_si h 41 0 7 i v) := g_tq_41
        have sm2 := x_sm_q q2 sm
        have enb := x_en_b (T := T) sb.2
        obtain ⟨h3, e3, f3, t3⟩ := m_reads (h := q_si h 41 0 7 i v) (n := n) (T := T) (p := x_en T n (x_sk T n p)) sm2.1 hn sm2.2.1 enb.2 (by rw [g_rd_o (by omega)]; exact r18 (Or.inr (Or.inl c)))
        rw [e3, Option.bind_some, Option.bind_some, nI_1] at stepM
        have q3 : g_tq h h3 := g_tq_tr q2 (g_tm_q f3)
        have w3 : h3.1 30 15 7 0 = 0 := by rw [f3.1 30 15 7 0 (by omega), g_rd_o (by omega)]; exact w0
        have t27 : ∀ k, k < i + 1 → (q_si H1 27 0 6 i (H1.1 25 6 6 0)).1 27 0 6 k = h3.1 41 0 7 k ∧ x_cb w k ((q_si H1 27 0 6 i (H1.1 25 6 6 0)).1 27 0 6 k) = true := fun k hk => by
          rw [f3.1 41 0 7 k (by omega)]
          by_cases z : k = i
          · subst z; rw [g_rd_e, g_rd_e, y6]; exact ⟨rfl, cb⟩
          · rw [g_rd_o (by omega), g_rd_o (by omega), x27]; exact told k (by omega)
        have hT1 : g_T (q_si H1 27 0 6 i (H1.1 25 6 6 0)) = T := by
          rw [← hT]
          exact x_tn_T (x_tn_tr x1 x_tn_27)
        obtain ⟨ok, H', h', o1, o2, o3, o4, o5, o6⟩ := ih (i + 1) (x_en T n (x_sk T n p)) (q_si H1 27 0 6 i (H1.1 25 6 6 0)) h3 (by omega) (by rw [g_rd_o (by omega), x1.1 25 2 6 0 (by omega) (by omega)]; exact hl) (by rw [g_rd_o (by omega)]; exact h17) (by rw [g_rd_o (by omega)]; exact x3) enb.2 hT1 (x_sm_q q3 sm) t3 w3 ⟨by rw [g_rd_o (by omega), y1.1 25 15 6 0 (by omega)]; exact f0.1, by rw [g_rd_o (by omega), y1.1 25 16 6 0 (by omega)]; exact f0.2⟩ t27
        refine ⟨ok, H', h', fun f hf => ?_, fun f hf => ?_, x_tn_tr (x_tn_tr x1 x_tn_27) o3, g_tq_tr q3 o4, fun q => ?_, o6⟩
        · obtain ⟨f, rfl⟩ : ∃ f', f = f' + 1 := ⟨f - 1, by omega⟩
          rw [q_lp_l stepC]; exact o1 f (by omega)
        · obtain ⟨f, rfl⟩ : ∃ f', f = f' + 1 := ⟨f - 1, by omega⟩
          rw [q_lp_l stepM]; exact o2 f (by omega)
        · obtain ⟨a1, a2, p', a3, a4, a5⟩ := o5 q
          exact ⟨a1, a2, p', by omega, a4, a5⟩
      | false =>
        rw [cb, if_neg qn0] at stepC
        rw [cb, show q_bi false = 0 from rfl, show (4 : Int32) = nI 4 from rfl, m_must0 (f := 4) (by decide) w0 k4 r19, Option.bind_some, g_rd_o (by omega), g_rd_o (by omega), g_rd_e] at stepM
        rw [if_pos (show ¬ nI (if 4 = 2 then x_ft (x_kd T n (x_sk T n p)) else 4) = 0 by rw [if_neg (by decide)]; decide), Option.bind_some] at stepM
        unfold Tx_blame at stepC
        rw [Option.bind_some, x5] at stepC
        refine ⟨false, q_si (q_si H1 25 15 6 0 4) 25 16 6 0 (nI (x_sk T n p)), q_si (q_si (q_si h 30 15 7 0 (nI (if 4 = 2 then x_ft (x_kd T n (x_sk T n p)) else 4))) 30 16 7 0 (nI (x_sk T n p))) 41 0 7 i ((q_si (q_si h 30 15 7 0 (nI (if 4 = 2 then x_ft (x_kd T n (x_sk T n p)) else 4))) 30 16 7 0 (nI (x_sk T n p))).1 30 20 7 0), fun f hf => ?_, fun f hf => ?_, x_tn_tr (x_tn_tr x1 (x_tn_25 (by omega))) (x_tn_25 (by omega)), ?_, (fun q => by cases q), fun _ => ⟨4, x_sk T n p, by omega, by rw [g_rd_o (by omega), g_rd_e]; rfl, g_rd_e, ?_, ?_⟩⟩
        · obtain ⟨f, rfl⟩ : ∃ f', f = f' + 1 := ⟨f - 1, by omega⟩
          exact q_lp_r stepC
        · obtain ⟨f, rfl⟩ : ∃ f', f = f' + 2 := ⟨f - 2, by omega⟩
          rw [q_lp_l stepM]
          refine q_lp_r (x_bM_w hw ?_)
          rw [g_rd_o (by omega), g_rd_o (by omega), g_rd_e, if_neg (by decide)]
          decide
        · exact g_tq_tr (g_tq_tr (g_tq_30 (by omega)) (g_tq_30 (by omega))) g_tq_41
        · rw [g_rd_o (by omega), g_rd_o (by omega), g_rd_e, if_neg (by decide)]
        · rw [g_rd_o (by omega), g_rd_e]
    · obtain ⟨y15, y16⟩ := xf c
      rw [decide_eq_false c, if_neg qn0] at stepC
      have ftn : x_ft (x_kd T n (x_sk T n p)) = 1 ∨ x_ft (x_kd T n (x_sk T n p)) = 2 := by
        unfold x_ft
        split
        · exact Or.inl rfl
        · exact Or.inr rfl
      have em := m_must0 (f := 2) (b := nI (x_sk T n p)) (by decide) w0 k4 r19
      rw [if_pos rfl] at em
      generalize x_ft (x_kd T n (x_sk T n p)) = ft at *
      generalize hz : q_si (q_si h 30 15 7 0 (nI ft)) 30 16 7 0 (nI (x_sk T n p)) = z at em
      have z15 : z.1 30 15 7 0 = nI ft := by rw [← hz, g_rd_o (by omega), g_rd_e]
      have z16 : z.1 30 16 7 0 = nI (x_sk T n p) := by rw [← hz, g_rd_e]
      have zq : g_tq h z := by rw [← hz]; exact g_tq_tr (g_tq_30 (by omega)) (g_tq_30 (by omega))
      have zW : ¬ z.1 30 15 7 0 ≤ 0 := by
        rw [z15]
        exact nI_ge (a := 0) (by omega) (by omega)
      obtain ⟨g, eg, _⟩ := m_good (w := w) (i := i) (v := z.1 30 20 7 0) (x15 := z) hw (by omega)
      have em' : Mo_must 0 2 (nI (x_sk T n p)) h = some z := em
      have stepM : x_bM (nI w) (nI i, h) = some (.inl (nI i + 1, q_si z 41 0 7 i (z.1 30 20 7 0))) := by
        unfold x_bM
        dsimp only
        rw [g_inN hw (by decide), cond_true, g_cl (n := w) (by omega), sm.2.2.2 w hw, if_neg (nI_ge (by omega) (by omega)), w0, if_neg (fun q => q rfl), r19, if_pos (show ¬ nI (x_kd T n (x_sk T n p)) = 2 from nI_e (b := 2) (by omega) (by omega) c), Option.bind_some, r17, em', Option.bind_some, eg, Option.bind_some, m_mustW zW, Option.bind_some, g_inN (n := i) (by omega) (by decide), cond_true, g_cl (n := i) (by omega), g_rd_o (by omega), if_pos (show ¬ z.1 30 15 7 0 = 0 from fun q => zW (by rw [q]; exact Int32.le_refl 0)), Option.bind_some]
      refine ⟨false, H1, q_si z 41 0 7 i (z.1 30 20 7 0), fun f hf => ?_, fun f hf => ?_, x1, g_tq_tr zq g_tq_41, (fun q => by cases q), fun _ => ⟨ft, x_sk T n p, by omega, y15, y16, by rw [g_rd_o (by omega)]; exact z15, by rw [g_rd_o (by omega)]; exact z16⟩⟩
      · obtain ⟨f, rfl⟩ : ∃ f', f = f' + 1 := ⟨f - 1, by omega⟩
        exact q_lp_r stepC
      · obtain ⟨f, rfl⟩ : ∃ f', f = f' + 2 := ⟨f - 2, by omega⟩
        rw [q_lp_l stepM]
        refine q_lp_r (x_bM_w hw ?_)
        rw [g_rd_o (by omega)]
        exact fun q => zW (by rw [q]; exact Int32.le_refl 0)
