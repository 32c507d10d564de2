/-! the text: the loop over the lines -/
theorem x_kd_3 {T : Nat → Int32} {n q : Nat} (h : x_kd T n q = 3) : q < n ∧ x_en T n q = q + 1 := by
  unfold x_kd at h
  unfold x_en
  by_cases d1 : n ≤ q
  · rw [if_pos d1] at h; omega
  · rw [if_neg d1] at h ⊢
    by_cases d2 : T q = 59
    · rw [if_pos d2]; exact ⟨by omega, rfl⟩
    · rw [if_neg d2] at h
      by_cases d3 : x_le (T q) = true
      · rw [if_pos d3] at h; omega
      · rw [if_neg d3] at h
        by_cases d4 : x_di (T q) = true
        · rw [if_pos d4] at h
          split at h <;> omega
        · rw [if_neg d4] at h; omega
theorem rl_f {H : q_H} (f : ¬ H.1 25 15 6 0 = 0) : Tx_readLine H = some (0, H) := by
  unfold Tx_readLine
  rw [if_pos f]
theorem rl_0 {H : q_H} (f : H.1 25 15 6 0 = 0) (o : H.1 25 10 6 0 = 0) : Tx_readLine H = x_rl H := by
  unfold Tx_readLine
  rw [if_neg (fun q => q f), if_pos o]
  rfl
theorem rl_1 {H H1 : q_H} (f : H.1 25 15 6 0 = 0) (o : H.1 25 10 6 0 = 1) (e : Tx_readKind 3 H = some (1, H1)) : Tx_readLine H = x_rl H1 := by
  unfold Tx_readLine
  rw [if_neg (fun q => q f), o, if_neg (by decide), e, Option.bind_some, if_pos q1n]
  rfl
theorem rl_2 {H H1 : q_H} (f : H.1 25 15 6 0 = 0) (o : H.1 25 10 6 0 = 1) (e : Tx_readKind 3 H = some (0, H1)) : Tx_readLine H = some (0, H1) := by
  unfold Tx_readLine
  rw [if_neg (fun q => q f), o, if_neg (by decide), e, Option.bind_some, if_neg q0n]
  rfl
theorem x_bc_i {H : q_H} {i : Nat} (hi : i ≤ 700) : x_bcL (nI i, H) = ((Tx_readLine H).bind fun x17 => if x17.1 = 0 then (some (.inr (x17.2))) else ((Rp_perform x17.2).bind fun x19 => some (.inl ((nI i + (1 : Int32)), x19)))) := by
  unfold x_bcL
  rw [if_neg (show ¬ (700 : Int32) < nI i from nI_nlt (a := 700) (b := i) hi (by decide))]
theorem x_ll {n : Nat} {T : Nat → Int32} {H0 h0 : q_H} (hn : n ≤ 700) : ∀ (j i : Nat) (H h : q_H), i + j = 701 → x_LH n T H0 h0 i H h → ∃ H' h', (∀ f, j + 1 ≤ f → q_lp x_bcL f (nI i, H) = some H') ∧ (∀ f, j + 2 ≤ f → q_lp x_bmL f h = some h') ∧ x_LE H0 h0 H' h' := by
  intro j
  induction j with
  | zero =>
    intro i H h hij ⟨A, cm, st⟩
    obtain ⟨hi, hW, hC, hR, hr, hl, hT, sm, F1, F2⟩ := cm
    rcases st with bd | ⟨_, p, h1, h2, _⟩
    · refine ⟨H, h, fun f hf => ?_, fun f hf => x_bmL_w (x_bad_s bd).2 (by omega), A, hi, hW, hC, g_R_mono hR (by omega), hr, F1, F2, Or.inr bd⟩
      obtain ⟨f, rfl⟩ : ∃ f', f = f' + 1 := ⟨f - 1, by omega⟩
      refine q_lp_r ?_
      unfold x_bcL
      rw [if_pos (show (700 : Int32) < nI i from nI_lt (a := 700) (by omega) (by omega))]
    · omega
  | succ j ih =>
    intro i H h hij ⟨A, cm, st⟩
    have cm' := cm
    obtain ⟨hi, hW, hC, hR, hr, hl, hT, sm, F1, F2⟩ := cm
    rcases st with bd | ⟨gd, p, h1, h2, ha, st⟩
    · refine ⟨H, h, fun f hf => ?_, fun f hf => x_bmL_w (x_bad_s bd).2 (by omega), A, hi, hW, hC, g_R_mono hR (by omega), hr, F1, F2, Or.inr bd⟩
      obtain ⟨f, rfl⟩ : ∃ f', f = f' + 1 := ⟨f - 1, by omega⟩
      refine q_lp_r ?_
      rw [x_bc_i (by omega), rl_f (x_bad_s bd).1]
      rfl
    · -- from a head that has been reached
      have go : ∀ (X : q_H) (p : Nat), x_bcL (nI i, H) = x_cL i X → x_cm n T H0 h0 i A X h → x_gd A X h → i ≤ p → p ≤ n → X.1 25 3 6 0 = nI p → h.1 30 15 7 0 = 0 → x_rd h T n p → ∃ H' h', (∀ f, j + 1 + 1 ≤ f → q_lp x_bcL f (nI i, H) = some H') ∧ (∀ f, j + 1 + 2 ≤ f → q_lp x_bmL f h = some h') ∧ x_LE H0 h0 H' h' := fun X p e cmX gdX a1 a2 a3 a4 a5 => by
        rcases x_go hn cmX gdX a1 a2 a3 a4 a5 with ⟨H', h', e1, e2, e3⟩ | ⟨H2, h2, e1, e2, e3⟩
        · refine ⟨H', h', fun f hf => ?_, fun f hf => e2 f (by omega), e3⟩
          obtain ⟨f, rfl⟩ : ∃ f', f = f' + 1 := ⟨f - 1, by omega⟩
          exact q_lp_r (e.trans e1)
        · obtain ⟨H', h', k1, k2, k3⟩ := ih (i + 1) H2 h2 (by omega) e3
          refine ⟨H', h', fun f hf => ?_, fun f hf => ?_, k3⟩
          · obtain ⟨f, rfl⟩ : ∃ f', f = f' + 1 := ⟨f - 1, by omega⟩
            rw [q_lp_l (e.trans e1)]; exact k1 f (by omega)
          · obtain ⟨f, rfl⟩ : ∃ f', f = f' + 1 := ⟨f - 1, by omega⟩
            rw [q_lp_l e2]; exact k2 f (by omega)
      have gd' := gd
      obtain ⟨f0, f16, fl, ri⟩ := gd
      rcases st with ⟨o, w0, rd⟩ | ⟨o, s3, sn⟩
      · refine go H p ?_ cm' gd' h1 h2 ha w0 rd
        rw [x_bc_i (by omega), rl_0 f0 o]; rfl
      · obtain ⟨H1, e1, x1, x3, x5, x27, xk, xf⟩ := c_readKind (w := 3) hn hl h2 ha (by decide)
        rw [hT] at e1 x3 x5 xk xf
        have sb := x_sk_b (T := T) h2
        by_cases c : x_kd T n (x_sk T n p) = 3
        · obtain ⟨w0, rd⟩ := s3 c
          obtain ⟨tf, _⟩ := xk c
          obtain ⟨lt, en⟩ := x_kd_3 c
          rw [decide_eq_true c] at e1
          have tl := x_tn_l x1
          have o25 : ∀ f, ¬ (3 ≤ f ∧ f ≤ 6) → H1.1 25 f 6 0 = H.1 25 f 6 0 := fun f hf => tf.1 25 f 6 0 (by omega)
          refine go H1 (x_sk T n p + 1) ?_ ⟨hi, hW, hC, by rw [(x_st_l tl).1]; exact hR, by rw [(x_st_l tl).2]; exact hr, by rw [o25 2 (by omega)]; exact hl, by rw [x_tl_T tl]; exact hT, sm, x_F1_l F1 tl, F2⟩ ⟨by rw [o25 15 (by omega)]; exact f0, by rw [o25 16 (by omega)]; exact f16, ?_, by rw [o25 13 (by omega)]; exact ri⟩ (by omega) lt (by rw [x3, en]) w0 rd
          · rw [x_bc_i (by omega), rl_1 f0 o e1]; rfl
          · unfold x_fl at fl ⊢
            rw [o25 11 (by omega), o25 12 (by omega), o25 13 (by omega)]; exact fl
        · obtain ⟨w1, w2⟩ := sn c
          obtain ⟨y1, y2⟩ := xf c
          rw [decide_eq_false c] at e1
          have tl := x_tn_l x1
          have bd : x_bad H1 h := ⟨_, _, x_ft_p.2.2, y1, y2, w1, w2⟩
          refine ⟨H1, h, fun f hf => ?_, fun f hf => x_bmL_w (x_bad_s bd).2 (by omega), A, hi, hW, hC, ?_, ?_, x_F1_l F1 tl, F2, Or.inr bd⟩
          · obtain ⟨f, rfl⟩ : ∃ f', f = f' + 1 := ⟨f - 1, by omega⟩
            refine q_lp_r ?_
            rw [x_bc_i (by omega), rl_2 f0 o e1]
            rfl
          · rw [(x_st_l tl).1]; exact g_R_mono hR (by omega)
          · rw [(x_st_l tl).2]; exact hr
