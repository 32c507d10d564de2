/-! old versions freeze -/
def g_fzc (z : Nat) (A : g_A) (s : Nat) : Bool := g_fu A s && (!decide (A 1 s 11 = 1) && (decide (A 3 (g_mk A s) 0 = 1) && decide (A 0 2 0 < nI z - A 1 s 6)))
def g_fzt (A : g_A) (s : Nat) : g_A := g_tell (g_au (g_au A 1 s 11 1) 0 14 0 (g_au A 1 s 11 1 0 14 0 + 1)) 5 (A 1 s 2)
def g_frz (z s : Nat) (A : g_A) : g_A := bif g_fzc z A s then g_fzt A s else A
theorem g_fzt_o {A : g_A} {s g i w : Nat} (h : ¬ (g = 1 ∧ i = s ∧ w = 11)) (h0 : ¬ (g = 0 ∧ (i = 6 ∨ i = 14))) (h4 : g ≠ 4) : g_fzt A s g i w = A g i w := by
  unfold g_fzt g_tell
  rw [if_neg (by omega), if_neg (by omega), g_au_ne (by omega), g_au_ne (by omega)]
theorem g_fzt_fv {A : g_A} {s : Nat} (hW : g_W A) (hs : s < 60) (hf : g_fu A s = true) (hd : A 3 (g_mk A s) 0 = 1) : g_fv A (g_fzt A s) := by
  obtain ⟨wt, wq, wl, wv, wc, wL, wT, wE, wF⟩ := hW.1
  have hiv : ∀ x, x < 60 → g_iv (g_fzt A s) x = g_iv A x := fun x hx => by unfold g_iv g_ln; rw [g_fzt_o (by omega) (by omega) (by omega)]
  have e11 : ∀ x, g_fzt A s 1 x 11 = if x = s then 1 else A 1 x 11 := fun x => by
    unfold g_fzt
    rw [g_tell_1, g_au_ne (by omega)]
    by_cases c : x = s
    · subst c; rw [if_pos rfl, g_au_eq]
    · rw [if_neg c, g_au_ne (by omega)]
  refine ⟨⟨fun t i => g_fzt_o (by omega) (by omega) (by omega), g_fzt_o (by omega) (by omega) (by omega)⟩, fun t i => g_fzt_o (by omega) (by omega) (by omega), fun i hi => g_fzt_o (by omega) (by omega) (by omega), fun p hp => ?_, fun x hx => ?_, fun x hx f => ⟨fun w _ h11 => g_fzt_o (by omega) (by omega) (by omega), ?_, fun e => ?_⟩, fun x hx i k => ?_⟩
  · unfold g_ln
    rw [g_fzt_o (by omega) (by omega) (by omega)]; exact wl p hp
  · unfold g_fu
    rw [hiv x hx, g_fzt_o (by omega) (by omega) (by omega)]
  · rw [e11]
    by_cases c : x = s
    · rw [if_pos c]; exact Or.inr rfl
    · rw [if_neg c]; exact (wv x hx f).2.2.2.2.2
  · rw [e11] at e
    by_cases c : x = s
    · rw [c]; exact hd
    · rw [if_neg c] at e; exact wF x hx f e
  · rw [hiv x hx] at i
    rw [g_fzt_o (by omega) (by omega) (by omega)] at k
    exact ⟨i, k, g_fzt_o (by omega) (by omega) (by omega)⟩
theorem g_fzt_wg {A : g_A} {s : Nat} (wg : g_wg A) : g_wg (g_fzt A s) := (g_tell_nv (A := g_au (g_au A 1 s 11 1) 0 14 0 _) wg).1
/-- the same but for columns of slots, lengths: what else holds on -/
theorem g_same_W {A B : g_A} (hfv : g_fv A B) (hW : g_W A) (wg : g_wg B) (h2 : ∀ i w, B 2 i w = A 2 i w) (h05 : B 0 5 0 = A 0 5 0) (hiv : ∀ s, s < 60 → g_iv B s = g_iv A s) (h10 : ∀ s, s < 60 → B 1 s 0 = A 1 s 0 ∧ B 1 s 10 = A 1 s 10) (h5 : ∀ i w, B 5 i w = A 5 i w) (h07 : B 0 7 0 = A 0 7 0) : g_W B := by
  obtain ⟨hI, ⟨wi, we, wO⟩, _, ww, wr, wb, wd, wI⟩ := id hW
  have ene : g_ne B = g_ne A := by unfold g_ne; rw [h05]
  have eep : ∀ i, g_ep B i = g_ep A i := fun i => by unfold g_ep; rw [h2, h2]
  refine fv_W hfv hW ⟨?_, by rw [ene]; exact wi.2.1, fun i hi => ?_⟩ (fun i hi => ?_) wg ?_
  · rw [ene, h05]; exact wi.1
  · rw [ene] at hi
    rw [h2, h2, h2]
    exact wi.2.2 i hi
  · rw [ene] at hi
    have e60 := (g_ep_lt wi hi).1
    rw [eep, hiv _ e60, (h10 _ e60).1, (h10 _ e60).2]
    exact we i hi
  · have hn : g_nf B = g_nf A := by unfold g_nf; rw [h07]
    refine ⟨by rw [hn, h07]; exact wd.1, by rw [hn]; exact wd.2.1, fun i hi => ?_⟩
    rw [hn] at hi
    rw [h5, h5]
    exact wd.2.2 i hi
theorem g_fzt_W {A : g_A} {s : Nat} (hW : g_W A) (hs : s < 60) (hf : g_fu A s = true) (hd : A 3 (g_mk A s) 0 = 1) : g_W (g_fzt A s) := by
  have hiv : ∀ x, x < 60 → g_iv (g_fzt A s) x = g_iv A x := fun x hx => by unfold g_iv g_ln; rw [g_fzt_o (by omega) (by omega) (by omega)]
  exact g_same_W (g_fzt_fv hW hs hf hd) hW (g_fzt_wg hW.2.2.1) (fun i w => g_fzt_o (by omega) (by omega) (by omega)) (g_fzt_o (by omega) (by omega) (by omega)) hiv (fun x hx => ⟨g_fzt_o (by omega) (by omega) (by omega), g_fzt_o (by omega) (by omega) (by omega)⟩) (fun i w => g_fzt_o (by omega) (by omega) (by omega)) (g_fzt_o (by omega) (by omega) (by omega))
theorem g_fzt_R {bb s : Nat} {A : g_A} {S : g_S} (hW : g_W A) (hR : g_R bb S A) (hs : s < 60) (hf : g_fu A s = true) (hd : A 3 (g_mk A s) 0 = 1) : g_R bb (g_tellS (g_su (g_su S 3 11 s 1) 18 0 5 ((g_su S 3 11 s 1).1 18 0 5 + 1)) 5 (A 1 s 2)) (g_fzt A s) := by
  have hfv := g_fzt_fv hW hs hf hd
  obtain ⟨rg, rt, rh, rp, rn, ri, rl, rf, rm⟩ := hR
  have l1 : r_l (g_su S 3 11 s 1) (g_au A 1 s 11 1) := (r_l_eq ⟨rl, hW.2.2.1⟩ (fun t f i h => g_su_t (by omega)) (g_au_ne (by omega)) (fun i w => g_au_ne (by omega)) (fun j hj => g_au_ne (by omega))).1
  have l2 := r_l_count (j := 5) (v := 1) l1 (by omega)
  have l3 := r_l_tell (kd := 5) (nm := A 1 s 2) l2 hW.2.2.1
  have eS : ∀ t f i, t < 15 ∨ 18 < t → ¬ (t = 3 ∧ f = 11 ∧ i = s) → (g_tellS (g_su (g_su S 3 11 s 1) 18 0 5 ((g_su S 3 11 s 1).1 18 0 5 + 1)) 5 (A 1 s 2)).1 t f i = S.1 t f i := fun t f i h n => by
    rw [g_tellS_t (by omega) (by omega) (by omega), g_su_t (by omega), g_su_t n]
  have h2 : (g_tellS (g_su (g_su S 3 11 s 1) 18 0 5 ((g_su S 3 11 s 1).1 18 0 5 + 1)) 5 (A 1 s 2)).2 = S.2 := rfl
  have e11 : (g_tellS (g_su (g_su S 3 11 s 1) 18 0 5 ((g_su S 3 11 s 1).1 18 0 5 + 1)) 5 (A 1 s 2)).1 3 11 s = 1 := by
    rw [g_tellS_t (by omega) (by omega) (by omega), g_su_t (by omega), g_su_e]
  generalize g_tellS (g_su (g_su S 3 11 s 1) 18 0 5 ((g_su S 3 11 s 1).1 18 0 5 + 1)) 5 (A 1 s 2) = S' at l3 eS e11 h2 ⊢
  have hiv : ∀ x, x < 60 → g_iv (g_fzt A s) x = g_iv A x := fun x hx => by unfold g_iv g_ln; rw [g_fzt_o (by omega) (by omega) (by omega)]
  refine ⟨⟨?_, ?_, ?_, ?_⟩, r_t_ft rt (fun t f i a c => eS t f i (by omega) (by omega)) h2 hfv.1 (fun t => hfv.2.1 t 0), ?_, fun q hq => ⟨?_, ?_, fun j hj => ?_⟩, ?_, r_i_eq ri (fun t f i a c => eS t f i (by omega) (by omega)) (g_fzt_o (by omega) (by omega) (by omega)) (fun i w => g_fzt_o (by omega) (by omega) (by omega)), l3, r_f_eq rf (fun t f i a c => eS t f i (by omega) (by omega)) (g_fzt_o (by omega) (by omega) (by omega)) (fun i w => g_fzt_o (by omega) (by omega) (by omega)), fv_m hfv (g_fzt_o (by omega) (by omega) (by omega)) (eS _ _ _ (by omega) (by omega)) (fun s hs f => eS _ _ _ (by omega) (by omega)) rm⟩
  · rw [eS _ _ _ (by omega) (by omega), g_fzt_o (by omega) (by omega) (by omega)]; exact rg.1
  · rw [eS _ _ _ (by omega) (by omega), g_fzt_o (by omega) (by omega) (by omega)]; exact rg.2.1
  · rw [eS _ _ _ (by omega) (by omega), g_fzt_o (by omega) (by omega) (by omega)]; exact rg.2.2.1
  · rw [eS _ _ _ (by omega) (by omega), g_fzt_o (by omega) (by omega) (by omega)]; exact rg.2.2.2
  · unfold r_h
    rw [eS _ _ _ (by omega) (by omega), g_ft_hz hfv.1]; exact rh
  · rw [eS _ _ _ (by omega) (by omega), g_fzt_o (by omega) (by omega) (by omega)]; exact (rp q hq).1
  · rw [eS _ _ _ (by omega) (by omega), g_fzt_o (by omega) (by omega) (by omega)]; exact (rp q hq).2.1
  · have hx : 10 * q + j < 60 := by omega
    have h0 := (rp q hq).2.2 j hj
    generalize 10 * q + j = x at h0 hx ⊢
    by_cases c : x = s
    · subst c
      have hfB : g_fu (g_fzt A x) x = true := (fv_fu hfv hs).trans hf
      obtain ⟨r0, r1, r2, r3, r4, r5, r6, r7, r8, r10, r11⟩ := h0.1 hf
      refine ⟨fun _ => ?_, fun y => absurd (hfB.symm.trans y) (by decide)⟩
      refine ⟨?_, ?_, ?_, ?_, ?_, ?_, ?_, ?_, ?_, ?_, ?_⟩
      · rw [eS _ _ _ (by omega) (by omega)]; exact r0
      · rw [eS _ _ _ (by omega) (by omega)]; exact r1
      · rw [eS _ _ _ (by omega) (by omega), g_fzt_o (by omega) (by omega) (by omega)]; exact r2
      · rw [eS _ _ _ (by omega) (by omega), g_fzt_o (by omega) (by omega) (by omega)]; exact r3
      · rw [eS _ _ _ (by omega) (by omega), g_fzt_o (by omega) (by omega) (by omega)]; exact r4
      · rw [eS _ _ _ (by omega) (by omega), g_fzt_o (by omega) (by omega) (by omega)]; exact r5
      · rw [eS _ _ _ (by omega) (by omega), g_fzt_o (by omega) (by omega) (by omega)]; exact r6
      · rw [eS _ _ _ (by omega) (by omega), g_fzt_o (by omega) (by omega) (by omega)]; exact r7
      · rw [eS _ _ _ (by omega) (by omega), g_fzt_o (by omega) (by omega) (by omega), g_fzt_o (by omega) (by omega) (by omega)]; exact r8
      · rw [eS _ _ _ (by omega) (by omega), g_fzt_o (by omega) (by omega) (by omega)]; exact r10
      · rw [e11]
        unfold g_fzt
        rw [g_tell_1, g_au_ne (by omega), g_au_eq]
    · exact r_s_eq h0 (fun f => eS _ _ _ (by omega) (by omega)) (hiv x hx) (fun w => g_fzt_o (by omega) (by omega) (by omega))
  · unfold r_n
    have e60 : ∀ f, S'.1 3 f 60 = S.1 3 f 60 := fun f => eS _ _ _ (by omega) (by omega)
    simp only [e60]
    exact rn
theorem g_fzc_e {z s : Nat} {A : g_A} : g_fzc z A s = true ↔ g_fu A s = true ∧ A 1 s 11 ≠ 1 ∧ A 3 (g_mk A s) 0 = 1 ∧ A 0 2 0 < nI z - A 1 s 6 := by
  unfold g_fzc
  simp only [Bool.and_eq_true, Bool.not_eq_true', decide_eq_true_iff, decide_eq_false_iff_not, ne_eq]
theorem c_frz {bb : Nat} {H : q_H} {k s : Nat} {A : g_A} (hW : g_W A) (hR : g_R bb (g_st H k) A) (hs : s < 60) : ∃ S', ((Pg_at k (nI s) H).bind fun x9 => Option.bind (α := q_H) (if ¬ (H.1 3 0 k x9) = (1 : Int32) then (some (H)) else (if ¬ (H.1 3 11 k x9) = 0 then (some (H)) else ((Tn_stateOf k (H.1 3 6 k x9) H).bind fun x15 => if x15 = (1 : Int32) then (if ((H.1 6 5 k 0) - (H.1 3 6 k x9)) ≤ (H.1 0 6 k 0) then (some (H)) else ((Lg_count k (5 : Int32) (1 : Int32) (q_si H 3 11 k x9 (1 : Int32))).bind fun x17 => (Lg_tell k (5 : Int32) (x17.1 3 2 k x9) x17).bind fun x19 => some (x19))) else (some (H))))) (fun p25 => (some (.inl ((nI s + (1 : Int32)), p25)) : Option ((Int32 × q_H) ⊕ q_H)))) = some (.inl (nI s + 1, g_cw H k S')) ∧ g_R bb S' (g_frz (g_hz A) s A) := by
  obtain ⟨wt, wq, wl, wv, wc, wL, wT, wE, wF⟩ := hW.1
  have hrs := r_ps hR.2.2.2.1 hs
  rw [c_at hs]
  simp only [Option.bind_some]
  have no : g_fzc (g_hz A) A s = false → ∃ S', ((some (H)).bind (fun p25 => (some (.inl ((nI s + (1 : Int32)), p25)) : Option ((Int32 × q_H) ⊕ q_H)))) = some (.inl (nI s + 1, g_cw H k S')) ∧ g_R bb S' (g_frz (g_hz A) s A) := fun c => by
    refine ⟨g_st H k, by rw [g_cw_st]; rfl, ?_⟩
    unfold g_frz
    rw [c]; exact hR
  have nof : ¬ (g_fu A s = true ∧ A 1 s 11 ≠ 1 ∧ A 3 (g_mk A s) 0 = 1 ∧ A 0 2 0 < nI (g_hz A) - A 1 s 6) → g_fzc (g_hz A) A s = false := fun n => Bool.eq_false_iff.mpr (fun y => n (g_fzc_e.mp y))
  by_cases c : g_fu A s = true
  · obtain ⟨r0, r1, r2, r3, r4, r5, r6, r7, r8, r10, r11⟩ := hrs.1 c
    have r0 : H.1 3 0 k s = 1 := r0
    have r2 : H.1 3 2 k s = A 1 s 2 := r2
    have r6 : H.1 3 6 k s = A 1 s 6 := r6
    have r11 : H.1 3 11 k s = A 1 s 11 := r11
    obtain ⟨w1, w2, _, _, _, w6⟩ := wv s hs c
    rw [r0, if_neg (by decide), r11]
    rcases w6 with w6 | w6
    · rw [w6, if_neg (fun y => y rfl), r6, w1, c_so hR.2.1 wt w2.1 w2.2]
      simp only [Option.bind_some]
      by_cases d : A 3 (g_mk A s) 0 = 1
      · rw [if_pos d]
        have hh : H.1 6 5 k 0 = nI (g_hz A) := hR.2.2.1
        have h06 : H.1 0 6 k 0 = A 0 2 0 := hR.1.2.2.1
        rw [hh, h06]
        by_cases e : nI (g_hz A) - nI (g_mk A s) ≤ A 0 2 0
        · rw [if_pos e]
          exact no (nof (fun y => absurd (w1 ▸ y.2.2.2) (Int32.not_lt.mpr e)))
        · rw [if_neg e, show (5 : Int32) = nI 5 from rfl, g_si_cw, c_count (by omega), g_cw_rd, g_st_cw, g_cw_cw]
          simp only [Option.bind_some]
          have hc : g_fzc (g_hz A) A s = true := g_fzc_e.mpr ⟨c, by rw [w6]; decide, d, by rw [w1]; exact Int32.not_le.mp e⟩
          rw [g_cw_rd, g_su_t (by omega), g_su_t (by omega), c_tell, g_st_cw, g_cw_cw]
          simp only [Option.bind_some]
          refine ⟨_, rfl, ?_⟩
          unfold g_frz
          rw [hc]
          have key := g_fzt_R hW hR hs c d
          rw [← r2] at key
          exact key
      · rw [if_neg d]
        exact no (nof (fun y => d y.2.2.1))
    · rw [w6, if_pos (show ¬ (1 : Int32) = 0 by decide)]
      exact no (nof (fun y => y.2.1 w6))
  · rw [if_pos (show ¬ H.1 3 0 k s = 1 from fun y => c ((r_s_k1 hrs).mp y))]
    exact no (nof (fun y => c y.1))
theorem g_frz_W {z s : Nat} {A : g_A} (hW : g_W A) (hs : s < 60) : g_W (g_frz z s A) ∧ g_ft A (g_frz z s A) := by
  unfold g_frz
  cases c : g_fzc z A s with
  | false => exact ⟨hW, fun _ _ => rfl, rfl⟩
  | true =>
    obtain ⟨c1, c2, c3, c4⟩ := g_fzc_e.mp c
    exact ⟨g_fzt_W hW hs c1 c3, (g_fzt_fv hW hs c1 c3).1⟩
theorem m_frz {h : q_H} {z s : Nat} {A : g_A} (hW : g_W A) (hs : s < 60) : ((Mo_isVersion (nI s) (g_ma h 31 A)).bind fun x9 => Option.bind (α := q_H) (if x9 = 0 then (some (g_ma h 31 A)) else ((Mo_of (nI s) (11 : Int32) (g_ma h 31 A)).bind fun x15 => if x15 = (1 : Int32) then (some (g_ma h 31 A)) else ((Mo_of (nI s) (6 : Int32) (g_ma h 31 A)).bind fun x17 => (Mo_stateOf x17 (g_ma h 31 A)).bind fun x19 => if ¬ x19 = (1 : Int32) then (some (g_ma h 31 A)) else ((Mo_of (nI s) (6 : Int32) (g_ma h 31 A)).bind fun x21 => if ((g_ma h 31 A).1 31 0 7 2) < (nI z - x21) then ((Mo_sets (nI s) (11 : Int32) (1 : Int32) (g_ma h 31 A)).bind fun x23 => (Mo_of (nI s) (2 : Int32) (q_si x23 31 0 7 14 ((x23.1 31 0 7 14) + (1 : Int32)))).bind fun x25 => (Mo_tellsOf (5 : Int32) x25 (q_si x23 31 0 7 14 ((x23.1 31 0 7 14) + (1 : Int32)))).bind fun x27 => some (x27)) else (some (g_ma h 31 A)))))) (fun p33 => (some (.inl ((nI s + (1 : Int32)), p33)) : Option ((Int32 × q_H) ⊕ q_H)))) = some (.inl (nI s + 1, g_ma h 31 (g_frz z s A))) := by
  obtain ⟨wt, wq, wl, wv, wc, wL, wT, wE, wF⟩ := hW.1
  have nof : ¬ (g_fu A s = true ∧ A 1 s 11 ≠ 1 ∧ A 3 (g_mk A s) 0 = 1 ∧ A 0 2 0 < nI z - A 1 s 6) → g_frz z s A = A := fun n => by
    unfold g_frz
    rw [Bool.eq_false_iff.mpr (fun y => n (g_fzc_e.mp y))]; rfl
  rw [m_isVersion hs wl]
  simp only [Option.bind_some]
  cases c : g_fu A s with
  | false =>
    rw [if_pos (show q_bi false = 0 by decide), nof (fun y => absurd (c.symm.trans y.1) (by decide))]; rfl
  | true =>
    obtain ⟨w1, w2, _, _, _, w6⟩ := wv s hs c
    have wt3 := wt.2.2
    have w22 := w2.2
    rw [if_neg (show ¬ q_bi true = 0 by decide), m_of11 hs]
    simp only [Option.bind_some]
    by_cases e : A 1 s 11 = 1
    · rw [if_pos e, nof (fun y => y.2.1 e)]; rfl
    · rw [if_neg e, m_of6 hs]
      simp only [Option.bind_some]
      rw [w1, m_stateOf (by omega)]
      simp only [Option.bind_some]
      by_cases d : A 3 (g_mk A s) 0 = 1
      · rw [if_neg (fun y => y d), m_g (by omega)]
        by_cases f : A 0 2 0 < nI z - nI (g_mk A s)
        · rw [if_pos f, m_st11 hs]
          simp only [Option.bind_some]
          rw [m_g (by omega), g_w0 (by omega), m_of2 hs]
          simp only [Option.bind_some]
          have e2 : g_au (g_au A 1 s 11 1) 0 14 0 (g_au A 1 s 11 1 0 14 0 + 1) 1 s 2 = A 1 s 2 := by rw [g_au_ne (by omega), g_au_ne (by omega)]
          rw [e2, m_tells]
          have : g_fzc z A s = true := g_fzc_e.mpr ⟨c, e, d, by rw [w1]; exact f⟩
          unfold g_frz
          rw [this]; rfl
        · rw [if_neg f, nof (fun y => f (w1 ▸ y.2.2.2))]; rfl
      · rw [if_pos d, nof (fun y => d y.2.2.1)]; rfl
