/-! the vacuum: the reference; both sides -/
theorem m_vacuums {b : Nat} {h : q_H} {A : g_A} (hW : g_W A) (hb : 1 ≤ b) (hb8 : b ≤ 8) (h01 : A 0 1 0 = nI b) (wgp : ∀ B, g_pv (g_v1 A) b (g_Q b (g_sL (g_v1 A) 60).length) (g_sL (g_v1 A) 60) B → g_W B) : ∃ hh B, Mo_vacuums (g_ma h 31 A) = some (nI (g_sL (g_v1 A) 60).length, g_ma hh 31 (g_v3 B)) ∧ g_f36 h hh ∧ hh.1 30 6 7 0 = h.1 30 6 7 0 ∧ g_pv (g_v1 A) b (g_Q b (g_sL (g_v1 A) 60).length) (g_sL (g_v1 A) 60) B := by
  unfold Mo_vacuums
  obtain ⟨e1, w1, v01⟩ := m_six (hh := h) (A := A) (n := 6) (f := fun p A => g_pr A p) (B := fun s1 : Int32 × q_H => (if (6 : Int32) ≤ s1.1 then (some (.inr (s1.2))) else ((Mo_prunes s1.1 s1.2).bind fun x9 => some (.inl ((s1.1 + (1 : Int32)), x9.2))) : Option ((Int32 × q_H) ⊕ (q_H)))) (rr := fun h => h) (fun B => g_W B ∧ B 0 1 0 = nI b) (by unfold q_fu; omega) ⟨hW, h01⟩ (fun p hp A' hW' => by
      refine ⟨?_, (g_W_pr hW'.1 hp).1, by rw [g_fk_0 (g_W_pr hW'.1 hp).2.1 (by omega)]; exact hW'.2⟩
      dsimp only
      rw [if_neg (show ¬ (6 : Int32) ≤ nI p from nI_ge (b := 6) hp (by decide)), m_prunes hW'.1.1 hp]; rfl) (fun _ _ => rfl)
  have e1' : g_i6 (fun p A => g_pr A p) A 6 = g_v1 A := rfl
  rw [e1'] at w1 v01
  rw [e1]
  simp only [Option.bind_some]
  obtain ⟨hh, B, e2, f1, f2, f3, hB⟩ := m_passes (A := g_v1 A) (h := h) (b := b) w1.1.2.2.1 w1.2.1.1 hb hb8 v01
  have wB := wgp B hB
  refine ⟨hh, B, ?_, f1, f3, hB⟩
  rw [e1', e2]
  simp only [Option.bind_some]
  obtain ⟨e3, w3, hz3⟩ := m_six (hh := hh) (A := B) (n := 6) (f := g_dr) (B := fun s15 : Int32 × q_H => (if (6 : Int32) ≤ s15.1 then (some (.inr (s15.2))) else ((q_lp (fun s23 : q_H => (bif q_in ((17 : Int32) + s15.1) 1644 then (if (s23.1 31 0 7 ((17 : Int32) + s15.1).toNatClampNeg) ≤ 0 then (some (.inr (s23))) else (bif q_in ((17 : Int32) + s15.1) 1644 then ((Mo_of ((((10 : Int32) * s15.1) + (s23.1 31 0 7 ((17 : Int32) + s15.1).toNatClampNeg)) - (1 : Int32)) (0 : Int32) s23).bind fun x31 => if ¬ x31 = 0 then (some (.inr (s23))) else (bif q_in ((17 : Int32) + s15.1) 1644 then (bif q_in ((17 : Int32) + s15.1) 1644 then (some (.inl (q_si s23 31 0 7 ((17 : Int32) + s15.1).toNatClampNeg ((s23.1 31 0 7 ((17 : Int32) + s15.1).toNatClampNeg) - (1 : Int32))))) else none) else none)) else none)) else none : Option ((q_H) ⊕ (q_H)))) q_fu (s15.2 : q_H)).bind fun p39 => some (.inl ((s15.1 + (1 : Int32)), p39))) : Option ((Int32 × q_H) ⊕ (q_H)))) (rr := fun h => h) (fun C => g_W C ∧ g_hz C = g_hz B) (by unfold q_fu; omega) ⟨wB, rfl⟩ (fun p hp A' hW' => by
      refine ⟨?_, g_dr_W hW'.1 hp, by rw [g_ft_hz (g_dr_fv hW'.1 hp).1]; exact hW'.2⟩
      dsimp only
      rw [if_neg (show ¬ (6 : Int32) ≤ nI p from nI_ge (b := 6) hp (by decide)), m_drop hW'.1.1.2.2.1 hp]; rfl) (fun _ _ => rfl)
  rw [e3]
  simp only [Option.bind_some]
  generalize hC : g_i6 g_dr B 6 = C at w3 hz3
  rw [m_horizon w3.1.1, hz3]
  simp only [Option.bind_some]
  unfold Mo_freezes
  obtain ⟨e4, w4, hz4⟩ := m_six (hh := hh) (A := C) (n := 60) (f := g_frz (g_hz B)) (B := fun s1 : Int32 × q_H => (if (60 : Int32) ≤ s1.1 then (some (.inr (s1.2))) else ((Mo_isVersion s1.1 s1.2).bind fun x9 => Option.bind (α := q_H) (if x9 = 0 then (some (s1.2)) else ((Mo_of s1.1 (11 : Int32) s1.2).bind fun x15 => if x15 = (1 : Int32) then (some (s1.2)) else ((Mo_of s1.1 (6 : Int32) s1.2).bind fun x17 => (Mo_stateOf x17 s1.2).bind fun x19 => if ¬ x19 = (1 : Int32) then (some (s1.2)) else ((Mo_of s1.1 (6 : Int32) s1.2).bind fun x21 => if (s1.2.1 31 0 7 2) < (nI (g_hz B) - x21) then ((Mo_sets s1.1 (11 : Int32) (1 : Int32) s1.2).bind fun x23 => (Mo_of s1.1 (2 : Int32) (q_si x23 31 0 7 14 ((x23.1 31 0 7 14) + (1 : Int32)))).bind fun x25 => (Mo_tellsOf (5 : Int32) x25 (q_si x23 31 0 7 14 ((x23.1 31 0 7 14) + (1 : Int32)))).bind fun x27 => some (x27)) else (some (s1.2)))))) (fun p33 => some (.inl ((s1.1 + (1 : Int32)), p33)))) : Option ((Int32 × q_H) ⊕ q_H))) (rr := fun h => h) (fun D => g_W D ∧ g_hz D = g_hz B) (by unfold q_fu; omega) ⟨w3, hz3⟩ (fun p hp A' hW' => by
      refine ⟨?_, (g_frz_W hW'.1 hp).1, by rw [g_ft_hz (g_frz_W hW'.1 hp).2]; exact hW'.2⟩
      dsimp only
      rw [if_neg (show ¬ (60 : Int32) ≤ nI p from nI_ge (b := 60) hp (by decide))]
      exact m_frz hW'.1 hp) (fun _ _ => rfl)
  rw [e4]
  simp only [Option.bind_some]
  generalize hD : g_i6 (g_frz (g_hz B)) C 60 = D at w4 hz4
  have hz : g_hz B < 1000 := by have := g_hb_le (A := B) (b := 0); have := wB.1.1.2.2; unfold g_hz; omega
  obtain ⟨e5, _⟩ := m_six (hh := hh) (A := D) (n := 6) (f := g_ff) (B := fun s46 : Int32 × q_H => (if (6 : Int32) ≤ s46.1 then (some (.inr (((s46.2.1 30 9 7 0), s46.2)))) else ((Mo_isClear s46.1 (nI (g_hz B)) s46.2).bind fun x54 => Option.bind (α := Int32) (if x54 = 0 then (some ((0 : Int32))) else (some ((1 : Int32)))) (fun p61 => bif q_in ((23 : Int32) + s46.1) 1644 then (some (.inl ((s46.1 + (1 : Int32)), (q_si s46.2 31 0 7 ((23 : Int32) + s46.1).toNatClampNeg p61)))) else none)) : Option ((Int32 × q_H) ⊕ (Int32 × q_H)))) (rr := fun h' => (nI (g_sL (g_v1 A) 60).length, h')) (fun E => g_W E ∧ g_hz E = g_hz B) (by unfold q_fu; omega) ⟨w4, hz4⟩ (fun p hp A' hW' => by
      refine ⟨?_, g_ff_W hW'.1, by rw [g_ft_hz (g_ff_fv hW'.1).1]; exact hW'.2⟩
      dsimp only
      have h23 : (23 : Int32) + nI p = nI (23 + p) := nI_add 23 p
      rw [if_neg (show ¬ (6 : Int32) ≤ nI p from nI_ge (b := 6) hp (by decide)), m_isClear hW'.1 hp hz, h23, g_inN (show 23 + p < 1644 by omega) (by decide), g_cl (show 23 + p < 2 ^ 31 by omega)]
      simp only [Option.bind_some, cond_true]
      unfold g_ff
      rw [hW'.2]
      cases g_cL (g_hz B) A' p with
      | false =>
        rw [if_pos (show q_bi false = 0 by decide)]
        simp only [Option.bind_some]
        rw [g_w0 (by omega)]; rfl
      | true =>
        rw [if_neg (show ¬ q_bi true = 0 by decide)]
        simp only [Option.bind_some]
        rw [g_w0 (by omega)]; rfl) (fun A' _ => by
      dsimp only
      rw [if_pos (show (6 : Int32) ≤ nI 6 from Int32.le_refl _), g_ma_ne (by decide), f2])
  have ev : g_i6 g_ff D 6 = g_v3 B := by unfold g_v3; rw [hC, hD]
  rw [ev] at e5
  exact g_bs e5
theorem g_wg_pd {A : g_A} {L : List Nat} {b : Nat} (wg : g_wg A) : ∀ q, g_wg (g_pd A L b q) := by
  intro q
  induction q with
  | zero => exact wg
  | succ q ih =>
    rw [g_pd_s]
    exact (g_tell_nv (A := g_au (g_au (g_pd A L b q) 0 12 0 _) 0 13 0 _) ih).1
theorem c1_ff {X : g_A} : g_c1 (g_i6 g_ff X 6) := by
  have key : ∀ n, n ≤ 6 → ∀ p, p < n → g_01 (g_i6 g_ff X n 0 (23 + p) 0) := fun n => by
    induction n with
    | zero => intro _ p hp; omega
    | succ n ih =>
      intro hn p hp
      rw [g_i6_s]
      unfold g_ff
      by_cases e : p = n
      · subst e
        rw [g_au_eq]
        cases g_cL _ _ p with
        | false => exact Or.inl rfl
        | true => exact Or.inr rfl
      · rw [g_au_ne (by omega)]
        exact ih (by omega) p (by omega)
  exact key 6 (Nat.le_refl _)
theorem act_vacuum {b : Nat} {A : g_A} {H : q_H} (hW : g_W A) (hR : g_R b (g_st H 0) A) : g_act b A H (Rp_vacuum H) Mo_vacuums := by
  obtain ⟨c, c1, c8, h01⟩ := id hW.2.2.2.2.2.1
  have w1 : g_W (g_v1 A) := g_i6_I (n := 6) g_W hW (fun p hp B hB => (g_W_pr hB hp).1) 6 (Nat.le_refl _)
  have wgp : ∀ B, g_pv (g_v1 A) c (g_Q c (g_sL (g_v1 A) 60).length) (g_sL (g_v1 A) 60) B → g_W B := fun B hB => (g_pv_W w1 hB (g_Q_ge c1) (g_wg_pd w1.2.2.1 _)).2
  obtain ⟨_, B0, _, _, _, hB0⟩ := m_vacuums (h := H) hW c1 c8 h01 wgp
  obtain ⟨⟨S0, e0, r0⟩, _⟩ := c_vacuumAll hW hR c1 c8 h01 hB0
  have hl := g_sL_l (A := g_v1 A) (i := 60)
  refine ⟨nI (g_sL (g_v1 A) 60).length, 0, q_si (g_cw H 0 S0) 24 6 6 0 0, ?_, g_fH_an, ⟨fun _ => nI_pos' (by omega), fun _ => rfl⟩, fun h hi => ?_⟩
  · unfold Rp_vacuum
    rw [e0]
    simp only [Option.bind_some]
    rw [e_answer]; rfl
  · obtain ⟨hh, B, e, f, s, hB⟩ := m_vacuums (h := h) hW c1 c8 h01 wgp
    obtain ⟨⟨S1, e1, r1⟩, w2⟩ := c_vacuumAll hW hR c1 c8 h01 hB
    have e01 : g_cw H 0 S0 = g_cw H 0 S1 := by
      have := e0.symm.trans e1
      exact (Prod.mk.inj (Option.some.inj this)).2
    unfold g_is at hi
    rw [← hi] at e
    exact ⟨g_v3 B, _, by rw [e01, g_st_an]; exact r1, w2, e, g_is_ma, g_fM_tr (g_f36_M f) g_fM_ma, by rw [if_pos rfl, g_ma_ne (by decide)]; exact s, fun _ => c1_ff⟩
