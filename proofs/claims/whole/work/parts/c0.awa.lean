/-! await: waits stay without a ring -/
def g_awt (A : g_A) (t e : Nat) : g_A := g_au A 6 t 0 (nI e)
theorem g_awt_fb {A : g_A} {t e : Nat} : g_fb A (g_awt A t e) := ⟨fun s w => g_au_ne (by omega), fun s w => g_au_ne (by omega), fun j hj => g_au_ne (by omega)⟩
theorem g_ri_0 {A : g_A} {t e : Nat} (hw : g_ww A) (ht : g_wt A) (h1 : 1 ≤ t) (h3 : 1 ≤ e) (h4 : e < g_nx A) (h : g_ri A t e = 0) : ∀ i, g_wp A e i ≠ t := by
  intro i hi
  have z60 := g_wp_60 hw ht h3 h4
  have hi60 : i < 60 := by
    rcases Nat.lt_or_ge i 60 with q | q
    · exact q
    · have := g_wp_z z60 q; omega
  unfold g_ri at h
  generalize hf : g_fst (fun i => decide (g_wp A e i = 0) || decide (g_wp A e i = t)) 0 60 = f at h
  have hle : f ≤ i := by
    rcases Nat.lt_or_ge i f with q | q
    · rw [← hf] at q
      have := g_fst_ne _ 60 0 i (by omega) q
      rw [hi, decide_eq_true (show t = t from rfl), Bool.or_true] at this
      cases this
    · exact q
  have hP : (decide (g_wp A e f = 0) || decide (g_wp A e f = t)) = true := by
    have := g_fst_at (fun i => decide (g_wp A e i = 0) || decide (g_wp A e i = t)) 60 0 (by rw [hf]; omega)
    rw [hf] at this; exact this
  simp only [Bool.or_eq_true, decide_eq_true_iff] at hP
  rcases hP with q | q
  · have := g_wp_z q hle; omega
  · rw [if_pos q] at h; omega
theorem g_awt_ww {A : g_A} {t e : Nat} (hw : g_ww A) (ht : g_wt A) (h1 : 1 ≤ t) (h2 : t < g_nx A) (h3 : 1 ≤ e) (h4 : e < g_nx A) (h : g_ri A t e = 0) : g_ww (g_awt A t e) := by
  have n61 := ht.2.2
  have ex : g_nx (g_awt A t e) = g_nx A := by unfold g_nx g_awt; rw [g_au_ne (by omega)]
  have ne := g_ri_0 hw ht h1 h3 h4 h
  have wt_ : g_wn (g_awt A t e) t = e := by unfold g_wn g_awt; rw [g_au_eq, g_cl (by omega)]
  have wo : ∀ u, u ≠ t → g_wn (g_awt A t e) u = g_wn A u := fun u hu => by unfold g_wn g_awt; rw [g_au_ne (by omega)]
  have same : ∀ u n, (∀ i, i < n → g_wp A u i ≠ t) → ∀ i, i ≤ n → g_wp (g_awt A t e) u i = g_wp A u i := fun u n hn i => by
    induction i with
    | zero => intro _; rfl
    | succ i ih =>
      intro hi
      rw [g_wp_s, g_wp_s, ih (by omega)]
      by_cases c : g_wp A u i = 0
      · rw [if_pos c, if_pos c]
      · rw [if_neg c, if_neg c, wo _ (hn i (by omega))]
  have endE : g_wp (g_awt A t e) e 60 = 0 := by
    rw [same e 60 (fun i _ => ne i) 60 (Nat.le_refl _)]
    exact g_wp_60 hw ht h3 h4
  refine ⟨fun u a b => ?_, fun u a b => ?_⟩
  · rw [ex] at b ⊢
    by_cases c : u = t
    · subst c
      rw [wt_]
      exact ⟨g_au_eq, h4⟩
    · rw [wo u c]
      show g_au A 6 t 0 (nI e) 6 u 0 = _ ∧ _
      rw [g_au_ne (by omega)]
      exact hw.1 u a b
  · rw [ex] at b
    by_cases c : ∃ i, i < 60 ∧ g_wp A u i = t
    · have P := g_fst_at (fun i => decide (g_wp A u i = t)) 60 0
      have Nn := g_fst_ne (fun i => decide (g_wp A u i = t)) 60 0
      generalize hf : g_fst (fun i => decide (g_wp A u i = t)) 0 60 = f at P Nn
      obtain ⟨i, i1, i2⟩ := c
      have hle : f ≤ i := by
        rcases Nat.lt_or_ge i f with q | q
        · have := Nn i (by omega) q
          rw [decide_eq_true i2] at this; cases this
        · exact q
      have hft : g_wp A u f = t := of_decide_eq_true (P (by omega))
      have e1 : g_wp (g_awt A t e) u f = t := by
        rw [same u f (fun j hj => of_decide_eq_false (Nn j (by omega) hj)) f (Nat.le_refl _)]; exact hft
      have e2 : g_wp (g_awt A t e) u (f + 1) = g_wp (g_awt A t e) e 0 := by
        rw [g_wp_s, e1, if_neg (by omega), wt_]; rfl
      exact ⟨f + 1 + 60, by rw [g_wp_eq e2 60, Nat.zero_add]; exact endE⟩
    · refine ⟨60, ?_⟩
      rw [same u 60 (fun i hi q => c ⟨i, hi, q⟩) 60 (Nat.le_refl _)]
      exact g_wp_60 hw ht a b
theorem g_awt_W {A : g_A} {t e : Nat} (hW : g_W A) (ww : g_ww (g_awt A t e)) : g_W (g_awt A t e) := by
  have e0 : ∀ g i w, g ≠ 6 → g_awt A t e g i w = A g i w := fun g i w hg => g_au_ne (by omega)
  obtain ⟨wi, we⟩ := fb_e (g_awt_fb (t := t) (e := e)) (fun _ _ => e0 _ _ _ (by omega)) (e0 _ _ _ (by omega)) hW.2.1.1 hW.2.1.2.1
  have hW' := hW
  obtain ⟨_, _, wg, _, _, wb, wd, _⟩ := hW
  refine fb_W g_awt_fb hW' wi we ?_ ww ?_ ?_
  · unfold g_wg g_nv
    rw [e0 _ _ _ (by omega)]; exact wg
  · unfold g_wb
    rw [e0 _ _ _ (by omega)]; exact wb
  · have en : g_nf (g_awt A t e) = g_nf A := by unfold g_nf; rw [e0 _ _ _ (by omega)]
    refine ⟨by rw [en, e0 _ _ _ (by omega)]; exact wd.1, by rw [en]; exact wd.2.1, fun j hj => ?_⟩
    rw [en] at hj
    rw [e0 _ _ _ (by omega), e0 _ _ _ (by omega)]
    exact wd.2.2 j hj
theorem g_awt_R {b : Nat} {A : g_A} {S : g_S} {t e : Nat} (h3 : 1 ≤ e) (h4 : e < 61) (hR : g_R b S A) : g_R b (g_su S 9 0 t (nI e)) (g_awt A t e) := by
  have e0 : ∀ g i w, g ≠ 6 → g_awt A t e g i w = A g i w := fun g i w hg => g_au_ne (by omega)
  refine fb_R g_awt_fb (fun j hj => e0 _ _ _ (by omega)) (fun _ _ => e0 _ _ _ (by omega)) (fun _ _ => e0 _ _ _ (by omega)) (fun _ _ => e0 _ _ _ (by omega)) (fun t f j h9 hn => g_su_t (by omega)) ?_ ?_ hR
  · obtain ⟨r1, r2, r3, r4⟩ := hR.1
    refine ⟨?_, ?_, ?_, ?_⟩ <;> rw [g_su_t (by omega), e0 _ _ _ (by omega)] <;> assumption
  · have ft : g_ft A (g_awt A t e) := fb_ft g_awt_fb
    obtain ⟨r1, r2⟩ := hR.2.1
    refine ⟨by rw [g_su_t (by omega), e0 _ _ _ (by omega)]; exact r1, fun u a b => ?_⟩
    rw [g_ft_nx ft] at b
    obtain ⟨u1, u2, u3, u4⟩ := r2 u a b
    refine ⟨by rw [g_su_t (by omega), e0 _ _ _ (by omega)]; exact u1, by rw [g_su_t (by omega)]; exact u2, ?_, u4⟩
    by_cases c : u = t
    · subst c
      have : g_awt A u e 6 u 0 = nI e := g_au_eq
      rw [g_su_e, this, if_pos (show (0 : Int32) < nI e from nI_lt (a := 0) (by omega) (by omega))]
    · have : g_awt A t e 6 u 0 = A 6 u 0 := g_au_ne (by omega)
      rw [g_su_t (by omega), this]; exact u3
theorem law_await {b : Nat} {A : g_A} {H : q_H} {a row : Int32} (hW : g_W A) (hR : g_R b (g_st H 0) A) : g_law b A H (Rp_await a row H) (Mo_await a row) := by
  have wt := hW.1.1
  have n61 := wt.2.2
  unfold Rp_await
  rw [c_asReader hW hR]
  simp only [Option.bind_some]
  by_cases c : g_rea A a row = 0
  · obtain ⟨t, e, t1, t2, t3, t4, t5, t6, t7⟩ := g_rea_t wt c
    obtain ⟨s1, s2, s3⟩ := g_so_f t7
    rw [if_pos c, e, c_openEnder hW hR t1 t7]
    simp only [Option.bind_some]
    by_cases z : g_oe A t (g_so A t row) = 0
    · rw [z, if_neg (fun q => q rfl), e_refuse]
      refine law_q hR hW (fun h _ => ?_)
      unfold Mo_await
      rw [m_enderFor hW, ← e, if_pos c, t3, if_pos z]
      rfl
    · obtain ⟨o1, o2, o3, o4⟩ := g_oe_t hW t7 s1 z
      have e2 : g_pe (g_oe A t (g_so A t row)) = nI (g_oe A t (g_so A t row)) := if_neg z
      have hmo : ∀ h, Mo_await (nI t) row (g_ma h 31 A) = if g_ri A t (g_oe A t (g_so A t row)) = 0 then some (nI (g_oe A t (g_so A t row)), g_ma (g_s 0 h) 31 (g_awt A t (g_oe A t (g_so A t row)))) else some (-1, g_ma (g_s 12 h) 31 A) := fun h => by
        unfold Mo_await
        rw [m_enderFor hW, ← e, if_pos c, t3, if_neg z, e]
        simp only [Option.bind_some]
        rw [if_pos (nI_pos' (by omega)), m_ringOf hW.2.2.2.1 wt t1.1 (by have := t1.2; omega) o1 o2]
        simp only [Option.bind_some]
        by_cases r : g_ri A t (g_oe A t (g_so A t row)) = 0
        · rw [r, if_pos (by decide), if_pos rfl, show (1583 : Int32) + nI t = nI (1583 + t) from nI_add 1583 t, g_inN (by have := t1.2; omega) (by decide), g_cl (by have := t1.2; omega), g_ma_si (g := 6) (i := t) (w := 0) (fun B => g_at6) rfl (by have := t1.2; omega)]
          rfl
        · have : g_ri A t (g_oe A t (g_so A t row)) ≤ 61 := by
            have := (g_fst_le (fun i => decide (g_wp A (g_oe A t (g_so A t row)) i = 0) || decide (g_wp A (g_oe A t (g_so A t row)) i = t)) 60 0).2
            unfold g_ri
            split <;> omega
          rw [if_neg r, if_neg (show ¬ nI (g_ri A t (g_oe A t (g_so A t row))) ≤ 0 from nI_ge (a := 0) (by omega) (by omega)), m_ref]
          rfl
      rw [e2, if_pos (fun q => absurd (q ▸ nI_pos' (n := g_oe A t (g_so A t row)) (by omega)) (by decide)), c_ringLength hR.2.1 hW.2.2.2.1 wt t1.1 (by have := t1.2; omega) o1 o2]
      simp only [Option.bind_some]
      by_cases r : g_ri A t (g_oe A t (g_so A t row)) = 0
      · rw [r, if_pos (by decide)]
        unfold Tn_letWait
        rw [c_put (t := 9) (n := 61) rfl rfl (by have := t1.2; omega) (by omega)]
        simp only [Option.bind_some]
        rw [e_answer, show q_si H 9 0 0 t (nI (g_oe A t (g_so A t row))) = g_cw H 0 (g_su (g_st H 0) 9 0 t (nI (g_oe A t (g_so A t row)))) from g_si_cw]
        refine law_an g_f1_rf (g_awt_R o1 (by omega) hR) (g_awt_W hW (g_awt_ww hW.2.2.2.1 wt t1.1 t1.2 o1 o2 r)) (c1_eq (fun x hx => Or.inr (g_au_ne (by omega)))) (fun h _ => ⟨g_s 0 h, ?_, g_s_M, g_s_6⟩)
        rw [hmo, if_pos r]
      · have : g_ri A t (g_oe A t (g_so A t row)) ≤ 61 := by
          have := (g_fst_le (fun i => decide (g_wp A (g_oe A t (g_so A t row)) i = 0) || decide (g_wp A (g_oe A t (g_so A t row)) i = t)) 60 0).2
          unfold g_ri
          split <;> omega
        rw [if_neg (show ¬ nI (g_ri A t (g_oe A t (g_so A t row))) ≤ 0 from nI_ge (a := 0) (by omega) (by omega)), e_refuse]
        refine law_q hR hW (fun h _ => ?_)
        rw [hmo, if_neg r]
  · rw [if_neg c, e_refuse]
    refine law_q hR hW (fun h _ => ?_)
    unfold Mo_await
    rw [m_enderFor hW, if_neg c]
    rfl
