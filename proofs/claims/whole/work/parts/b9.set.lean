/-! set, await -/
theorem g_fb_1 {A : g_A} {i : Nat} {v : Int32} (hi : i = 1 ∨ i = 2) : g_fb A (g_au A 0 i 0 v) := ⟨fun s w => g_au_ne (by omega), fun s w => g_au_ne (by omega), fun j hj => g_au_ne (by omega)⟩
theorem g_set_W {A : g_A} {i : Nat} {v : Int32} (hi : i = 1 ∨ i = 2) (hb : i = 1 → ∃ b, 1 ≤ b ∧ b ≤ 8 ∧ v = nI b) (hW : g_W A) : g_W (g_au A 0 i 0 v) := by
  obtain ⟨wi, we⟩ := fb_e (g_fb_1 (v := v) hi) (fun _ _ => g_au_ne (by omega)) (g_au_ne (by omega)) hW.2.1.1 hW.2.1.2.1
  have e0 : ∀ j, j ≠ i → g_au A 0 i 0 v 0 j 0 = A 0 j 0 := fun j hj => g_au_ne (by omega)
  have hW' := hW
  obtain ⟨_, _, wg, ww, _, wb, wd, _⟩ := hW
  refine fb_W (g_fb_1 hi) hW' wi we ?_ ?_ ?_ ?_
  · unfold g_wg g_nv
    rw [e0 6 (by omega)]; exact wg
  · have ex : g_nx (g_au A 0 i 0 v) = g_nx A := by unfold g_nx; rw [e0 4 (by omega)]
    have ewn : ∀ t, g_wn (g_au A 0 i 0 v) t = g_wn A t := fun t => by unfold g_wn; rw [g_au_ne (by omega)]
    have ewp : ∀ t j, g_wp (g_au A 0 i 0 v) t j = g_wp A t j := fun t j => by
      induction j with
      | zero => rfl
      | succ j ih => rw [g_wp_s, g_wp_s, ih, ewn]
    refine ⟨fun t a b => ?_, fun t a b => ?_⟩
    · rw [ex] at b ⊢
      rw [ewn, g_au_ne (by omega)]
      exact ww.1 t a b
    · rw [ex] at b
      obtain ⟨n, hn⟩ := ww.2 t a b
      exact ⟨n, by rw [ewp]; exact hn⟩
  · rcases hi with rfl | rfl
    · obtain ⟨b, b1, b2, b3⟩ := hb rfl
      exact ⟨b, b1, b2, by rw [g_au_eq]; exact b3⟩
    · unfold g_wb
      rw [e0 1 (by omega)]; exact wb
  · have en : g_nf (g_au A 0 i 0 v) = g_nf A := by unfold g_nf; rw [e0 7 (by omega)]
    refine ⟨by rw [en, e0 7 (by omega)]; exact wd.1, by rw [en]; exact wd.2.1, fun j hj => ?_⟩
    rw [en] at hj
    rw [g_au_ne (by omega), g_au_ne (by omega)]
    exact wd.2.2 j hj
theorem g_set_R {b : Nat} {A : g_A} {S : g_S} {i : Nat} {v : Int32} (hi : i = 1 ∨ i = 2) (hR : g_R b S A) : g_R b (g_su S 0 (4 + i) 0 v) (g_au A 0 i 0 v) := by
  refine fb_R (g_fb_1 hi) (fun j hj => g_au_ne (by omega)) (fun _ _ => g_au_ne (by omega)) (fun _ _ => g_au_ne (by omega)) (fun _ _ => g_au_ne (by omega)) (fun t f j h9 hn => g_su_t (by omega)) ?_ ?_ hR
  · obtain ⟨r1, r2, r3, r4⟩ := hR.1
    refine ⟨?_, ?_, ?_, ?_⟩
    · rw [g_su_t (by omega), g_au_ne (by omega)]; exact r1
    · rcases hi with rfl | rfl
      · rw [g_su_e, g_au_eq]
      · rw [g_su_t (by omega), g_au_ne (by omega)]; exact r2
    · rcases hi with rfl | rfl
      · rw [g_su_t (by omega), g_au_ne (by omega)]; exact r3
      · rw [g_su_e, g_au_eq]
    · rw [g_su_t (by omega), g_au_ne (by omega)]; exact r4
  · exact r_t_ft hR.2.1 (fun t f j a c => g_su_t (by omega)) rfl (fb_ft (g_fb_1 hi)) (fun t => g_au_ne (by omega))
theorem law_set {b : Nat} {A : g_A} {H : q_H} {a1 a2 : Int32} (hW : g_W A) (hR : g_R b (g_st H 0) A) : g_law b A H (Rp_set a1 a2 H) (Mo_set a1 a2) := by
  have good : ∀ (i : Nat), i = 1 ∨ i = 2 → a1 = nI (i - 1) → (∀ h, Mo_set a1 a2 (g_ma h 31 A) = (Mo_is 0 (g_ma h 31 A)).bind fun x19 => (bif q_in (nI i) 1644 then (bif q_in (nI i) 1644 then (some (((x19.2.1 31 0 7 (nI i).toNatClampNeg), (q_si x19.2 31 0 7 (nI i).toNatClampNeg a2)))) else none) else none)) → (i = 1 → ∃ b, 1 ≤ b ∧ b ≤ 8 ∧ a2 = nI b) → g_law b A H (some (H.1 0 (4 + i) 0 0, q_si (q_si H 0 (4 + i) 0 0 a2) 24 6 6 0 0)) (Mo_set a1 a2) := by
    intro i hi _ hm hb
    rw [show q_si H 0 (4 + i) 0 0 a2 = g_cw H 0 (g_su (g_st H 0) 0 (4 + i) 0 a2) from g_si_cw]
    refine law_an g_f1_rf (g_set_R hi hR) (g_set_W hi hb hW) (c1_eq (fun x hx => Or.inr (g_au_ne (by omega)))) (fun h _ => ⟨g_s 0 h, ?_, g_s_M, g_s_6⟩)
    rw [hm, m_isA0]
    simp only [Option.bind_some]
    rw [g_inN (by omega) (by decide), g_cl (by omega), m_g (by omega), g_ma_si (i := i) (g := 0) (w := 0) (fun B => g_at0 (by omega)) rfl (by omega)]
    have : A 0 i 0 = H.1 0 (4 + i) 0 0 := by
      rcases hi with rfl | rfl
      · exact hR.1.2.1.symm
      · exact hR.1.2.2.1.symm
    rw [this]; rfl
  have bad : (∀ h, Mo_set a1 a2 (g_ma h 31 A) = (Mo_is 1 (g_ma h 31 A)).bind fun x19 => some (-1, x19.2)) → g_law b A H (some (-1, q_si H 24 6 6 0 1)) (Mo_set a1 a2) := fun hm => law_q hR hW (fun h _ => by
    rw [hm, m_isA (by decide)]; rfl)
  by_cases c0 : a1 = 0
  · subst c0
    cases c : g_in a2 1 8 with
    | true =>
      have e : Rp_set 0 a2 H = some (H.1 0 5 0 0, q_si (q_si H 0 5 0 0 a2) 24 6 6 0 0) := by
        unfold Rp_set
        rw [if_neg (by decide), c_isWithin, c]; rfl
      rw [e]
      refine good 1 (Or.inl rfl) rfl (fun h => ?_) (fun _ => ?_)
      · unfold Mo_set
        rw [if_neg (by decide), m_isIn, c]; rfl
      · have c' : g_in a2 0 (nI 8) = true := by
          unfold g_in at c ⊢
          simp only [Bool.and_eq_true, Bool.not_eq_true', decide_eq_false_iff_not] at c ⊢
          exact ⟨fun q => c.1 (Int32.lt_of_lt_of_le q (by decide)), c.2⟩
        obtain ⟨p, hp, rfl⟩ := g_in_t (by decide) c'
        refine ⟨p, ?_, hp, rfl⟩
        rcases Nat.eq_zero_or_pos p with q | q
        · subst q; exact absurd c (by decide)
        · exact q
    | false =>
      have e : Rp_set 0 a2 H = some (-1, q_si H 24 6 6 0 1) := by
        unfold Rp_set
        rw [if_neg (by decide), c_isWithin, c]; rfl
      rw [e]
      refine bad (fun h => ?_)
      unfold Mo_set
      rw [if_neg (by decide), m_isIn, c]; rfl
  · by_cases c1 : a1 = 1
    · subst c1
      cases c : g_in a2 0 30 with
      | true =>
        have e : Rp_set 1 a2 H = some (H.1 0 6 0 0, q_si (q_si H 0 6 0 0 a2) 24 6 6 0 0) := by
          unfold Rp_set
          rw [if_pos (by decide)]
          simp only [Option.bind_some]
          rw [if_neg (by decide), c_isWithin, c]; rfl
        rw [e]
        refine good 2 (Or.inr rfl) rfl (fun h => ?_) (fun q => by omega)
        unfold Mo_set
        rw [if_pos (by decide), if_neg (by decide), m_isIn, c]; rfl
      | false =>
        have e : Rp_set 1 a2 H = some (-1, q_si H 24 6 6 0 1) := by
          unfold Rp_set
          rw [if_pos (by decide)]
          simp only [Option.bind_some]
          rw [if_neg (by decide), c_isWithin, c]; rfl
        rw [e]
        refine bad (fun h => ?_)
        unfold Mo_set
        rw [if_pos (by decide), if_neg (by decide), m_isIn, c]; rfl
    · have e : Rp_set a1 a2 H = some (-1, q_si H 24 6 6 0 1) := by
        unfold Rp_set
        rw [if_pos c0]
        simp only [Option.bind_some]
        rw [if_pos c1]; rfl
      rw [e]
      refine bad (fun h => ?_)
      unfold Mo_set
      rw [if_pos c0, if_pos c1]; rfl
