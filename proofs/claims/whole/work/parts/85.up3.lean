/-! update, in the component -/
theorem c1_pA {A : g_A} {p : Nat} {z : Int32} (hI : g_PI A) (hp : p < 6) (c : g_c1 A) : g_c1 (g_pA A p z) := by
  unfold g_pA
  split
  · exact c
  · exact c1_pr hI hp c
theorem g_uB_f {b : Nat} {A : g_A} {S : g_S} {v t : Nat} {row key val z light : Int32} (hW : g_W A) (hu : g_up A t v) (hR : g_R b S (g_pA A (v / 10) z)) (hb : b < 2 ^ 30) (h2 : A 1 v 2 = row) (h60 : g_pb A (v / 10) z < 60) (hkey : 0 ≤ key) (h01 : light = 0 ∨ light = 1) :
    g_R (b + 1) (g_aS S (g_pb A (v / 10) z) (g_ln (g_pA A (v / 10) z) (g_pb A (v / 10) z / 10)) row key val z (nI t) light) (g_uB A v t row key val z light) ∧
    g_W (g_uE (g_uB A v t row key val z light) v t (g_pb A (v / 10) z)) ∧
    g_fu (g_uB A v t row key val z light) v = true ∧ g_fu (g_uB A v t row key val z light) (g_pb A (v / 10) z) = true ∧ g_uB A v t row key val z light 1 (g_pb A (v / 10) z) 10 = light ∧ g_wi (g_uB A v t row key val z light) ∧ g_ne (g_uB A v t row key val z light) = g_ne A := by
  obtain ⟨W1, u1, k1, f1⟩ := g_pb_f (z := z) hW hu
  obtain ⟨f2, f3, f4⟩ := f1 h60
  have hd : v ≠ g_pb A (v / 10) z := fun q => by rw [← q, u1.2.1] at f3; cases f3
  have rowe : row = g_pA A (v / 10) z 1 v 2 := by rw [k1 2 (by omega), h2]
  have hp : v / 10 < 6 := by have := hu.1; omega
  have ne1 : g_pA A (v / 10) z 0 5 0 = A 0 5 0 := by
    unfold g_pA
    by_cases d : g_pi A (v / 10) z < 60
    · rw [if_pos d]
    · rw [if_neg d]; exact g_fk_0 (g_W_pr hW hp).2.1 (by omega)
  obtain ⟨fs, fo⟩ := g_fil_fu (row := row) (key := key) (val := val) (size := z) (maker := nI t) (light := light) h60 W1.1.2.2.1 f2
  refine ⟨r_fil hR h60 W1.1.2.2.1 W1.2.2.1 f3 f2 hb h01, ?_, by unfold g_uB; rw [fo v hu.1 hd]; exact u1.2.1, fs, by unfold g_uB; rw [g_fil_s (by omega)]; rfl, ?_, by unfold g_ne g_uB; rw [g_fil_o (by omega) (by omega), ne1]⟩
  · unfold g_uE g_uB
    rw [rowe]
    exact g_W_upd W1 (r_m_wM hR.2.2.2.2.2.2.2.2) u1 h60 hb f3 f4 f2 hkey h01
  · have w := W1.2.1.1
    have o2 : ∀ i w, g_uB A v t row key val z light 2 i w = g_pA A (v / 10) z 2 i w := fun i w => g_fil_o (by omega) (by omega)
    have o5 : g_uB A v t row key val z light 0 5 0 = g_pA A (v / 10) z 0 5 0 := g_fil_o (by omega) (by omega)
    have nn : g_ne (g_uB A v t row key val z light) = g_ne (g_pA A (v / 10) z) := by unfold g_ne; rw [o5]
    refine ⟨by rw [nn, o5]; exact w.1, by rw [nn]; exact w.2.1, fun i hi => ?_⟩
    rw [nn] at hi
    rw [o2, o2, o2]; exact w.2.2 i hi
theorem act_update {b : Nat} {A : g_A} {H : q_H} {a row key val z : Int32} (hW : g_W A) (hR : g_R b (g_st H 0) A) (hb : b < 2 ^ 30) (hn : r_n (g_st H 1)) : g_act (b + 1) A H (Rp_update a row key val z H) (Mo_updateNow a row key val z) := by
  have hR' := g_R_mono hR (Nat.le_succ b)
  unfold Rp_update
  rw [c_isVersion]
  simp only [Option.bind_some]
  cases cv : g_vl key val z with
  | false =>
    rw [if_neg (by decide), e_refuse]
    exact act_ref hR' hW (by decide) (fun h => by rw [m_updateNow hW, cv, if_neg (by decide)])
  | true =>
    rw [if_pos (by decide), c_asChanger hW hR]
    simp only [Option.bind_some]
    by_cases c : g_cha A a row = 0
    · obtain ⟨t, v, e, ht, ev, er, hu, h2⟩ := g_cha_t hW.1 c
      have hv := hu.1
      have wt := hW.1.1
      rw [if_pos c, c_copyFrom (by decide) (g_R_01 hR hW.1.2.2.2.1)]
      simp only [Option.bind_some]
      have hS1 : g_R b (g_cpS (g_st H 1) (g_st H 0)) A := g_R_cp hR hn hW
      have f1H : g_f1 H (g_cw H 1 (g_cpS (g_st H 1) (g_st H 0))) := g_f1_cw (fun q => r_n_cp q)
      have st0 : g_st (g_cw H 1 (g_cpS (g_st H 1) (g_st H 0))) 0 = g_st H 0 := g_st_cn (by decide)
      have st1 : g_st (g_cw H 1 (g_cpS (g_st H 1) (g_st H 0))) 1 = g_cpS (g_st H 1) (g_st H 0) := g_st_cw
      generalize g_cw H 1 (g_cpS (g_st H 1) (g_st H 0)) = H1 at f1H st0 st1 ⊢
      have hR0 : g_R b (g_st H1 0) A := by rw [st0]; exact hR
      have ep : g_pp (g_so A t row) = nI v := by rw [← ev]; exact if_pos hv
      rw [e, c_seenPlace hR0.2.1 hR0.2.2.2.1 wt hW.1.2.2.2.1 hu.2.2.1, ep]
      simp only [Option.bind_some]
      obtain ⟨S2, e2, hR2⟩ := c_placeBehind (z := z) hW hR0 hv
      rw [e2]
      simp only [Option.bind_some]
      rw [c_pageOf hv]
      obtain ⟨W1, u1, k1, f1⟩ := g_pb_f (z := z) hW hu
      have hp : v / 10 < 6 := by omega
      have ne1 : g_pA A (v / 10) z 0 5 0 = A 0 5 0 := by
        unfold g_pA
        by_cases d : g_pi A (v / 10) z < 60
        · rw [if_pos d]
        · rw [if_neg d]; exact g_fk_0 (g_W_pr hW hp).2.1 (by omega)
      have back : St_copyFrom 0 1 (g_cw H1 0 S2) = some (g_cw H1 0 (g_cpS S2 (g_cpS (g_st H 1) (g_st H 0)))) ∧ g_R b (g_cpS S2 (g_cpS (g_st H 1) (g_st H 0))) A := by
        have r1 : g_R b (g_st (g_cw H1 0 S2) 1) A := by rw [g_st_cn (by decide), st1]; exact hS1
        rw [c_copyFrom (by decide) (g_R_01 r1 hW.1.2.2.2.1), g_st_cw, g_st_cn (by decide), st1, g_cw_cw]
        exact ⟨rfl, g_R_cp hS1 hR2.2.2.2.2.1 hW⟩
      by_cases s60 : g_pb A (v / 10) z < 60
      · have es : g_pp (g_pb A (v / 10) z) = nI (g_pb A (v / 10) z) := if_pos s60
        rw [es, c_pageOf s60]
        simp only [Option.bind_some]
        have hnn : ¬ nI (g_pb A (v / 10) z) = -1 := fun q => absurd (q ▸ nI_pos' (n := g_pb A (v / 10) z) (by omega)) (by decide)
        obtain ⟨s0, s1, s2, s3, s4, s5, s6, s7, s8, s10, s11⟩ := (r_ps hR2.2.2.2.1 hv).1 u1.2.1
        have kk : (g_cw H1 0 S2).1 3 3 0 v = A 1 v 3 := by rw [g_cw_rd, s3, k1 3 (by omega)]
        have lc : (if ¬ nI (g_pb A (v / 10) z / 10) = nI (v / 10) then (some (0 : Int32)) else ((Pg_at 0 (nI v) (g_cw H1 0 S2)).bind fun x19 => if ¬ ((g_cw H1 0 S2).1 3 3 0 x19) = key then (some ((0 : Int32))) else (some ((1 : Int32))))) = some (q_bi (g_uL A v key z)) := by
          unfold g_uL
          rw [decide_eq_true s60, c_at hv]
          simp only [Option.bind_some]
          rw [kk]
          by_cases d : g_pb A (v / 10) z / 10 = v / 10
          · rw [if_neg (fun q => q (by rw [d])), decide_eq_true d]
            by_cases d2 : A 1 v 3 = key
            · rw [if_neg (fun q => q d2), decide_eq_true d2]; rfl
            · rw [if_pos d2, decide_eq_false d2]; rfl
          · rw [if_pos (fun q => d ((nI_eq (by omega) (by omega)).mp q)), decide_eq_false d]; rfl
        rw [lc]
        simp only [Option.bind_some]
        rw [if_neg hnn]
        have hP : r_p (g_st (g_cw H1 0 S2) 0) (g_pA A (v / 10) z) (g_pb A (v / 10) z / 10) := by rw [g_st_cw]; exact hR2.2.2.2.1 _ (by omega)
        have pl : nI (g_pb A (v / 10) z) = g_pl (nI (g_pb A (v / 10) z / 10)) (nI (g_pb A (v / 10) z % 10)) := by rw [g_pl_p (by omega) (by omega), Nat.div_add_mod]
        cases L : g_uL A v key z with
        | true =>
          obtain ⟨q1, q2, q3, q4, q5, q6, q7⟩ := g_uB_f (key := key) (val := val) (light := 1) hW hu hR2 hb h2 s60 (g_vl_key cv) (Or.inr rfl)
          rw [show q_bi true = (1 : Int32) from rfl, if_pos (show ¬ (1 : Int32) = 0 by decide), c_addV s60 hP W1.1.2.2.1 (Or.inr rfl), if_pos (show ¬ (1 : Int32) = 0 by decide), g_st_cw, g_cw_cw]
          simp only [Option.bind_some]
          rw [c_endV hv, g_st_cw, g_cw_cw]
          simp only [Option.bind_some]
          rw [if_neg (show ¬ (1 : Int32) = 0 by decide), e_answer]
          simp only [Option.bind_some]
          have rE := r_end (t := nI t) (p := nI (g_pb A (v / 10) z / 10)) (q := nI (g_pb A (v / 10) z % 10)) q1 hv q3
          rw [← pl] at rE
          refine act_ans2 f1H rE q2 (by decide) (fun q => c1_end (c1_fil s60 (c1_pA hW.1 (by omega) q))) (fun h => ⟨g_ma h 32 A, ?_, g_fM_a (Or.inl rfl), by rw [g_ma_ne (by decide)]⟩)
          rw [← e, m_updateNow hW, cv, if_pos rfl, if_pos c, ht, ← ev, if_pos s60, L, if_pos rfl, e]
          rfl
        | false =>
          rw [show q_bi false = (0 : Int32) from rfl, if_neg (show ¬ ¬ (0 : Int32) = 0 by decide)]
          have r5 : (g_cw H1 0 S2).1 11 3 0 0 = A 0 5 0 := by rw [g_cw_rd, hR2.2.2.2.2.2.1.1, ne1]
          rw [r5]
          have wi := hW.2.1.1
          by_cases n60 : g_ne A = 60
          · have : A 0 5 0 = 60 := by rw [wi.1, n60]; rfl
            rw [this, if_neg (by decide), back.1]
            simp only [Option.bind_some]
            rw [if_pos hnn, e_refuse]
            simp only [Option.bind_some]
            refine act_ref2 f1H (g_R_mono back.2 (Nat.le_succ b)) hW (by decide) (fun h => ⟨g_ma h 32 A, ?_, g_fM_a (Or.inl rfl)⟩)
            rw [← e, m_updateNow hW, cv, if_pos rfl, if_pos c, ht, ← ev, if_pos s60, L, if_neg (by decide), if_pos n60]
          · have n59 : g_ne A < 60 := by have := wi.2.1; omega
            obtain ⟨q1, q2, q3, q4, q5, q6, q7⟩ := g_uB_f (key := key) (val := val) (light := 0) hW hu hR2 hb h2 s60 (g_vl_key cv) (Or.inl rfl)
            rw [if_pos (by rw [wi.1]; exact nI_lt (b := 60) n59 (by decide)), c_addV s60 hP W1.1.2.2.1 (Or.inl rfl), if_neg (fun q => q rfl), g_st_cw, g_cw_cw]
            have hri : r_i (g_st (g_cw H1 0 (g_aS S2 (g_pb A (v / 10) z) (g_ln (g_pA A (v / 10) z) (g_pb A (v / 10) z / 10)) row key val z (nI t) 0)) 0) (g_uB A v t row key val z 0) := by rw [g_st_cw]; exact q1.2.2.2.2.2.1
            rw [c_add s60 hri q6 (by rw [q7]; exact n59), g_st_cw, g_cw_cw]
            simp only [Option.bind_some]
            rw [c_endV hv, g_st_cw, g_cw_cw]
            simp only [Option.bind_some]
            rw [e_answer, if_pos trivial]
            simp only [Option.bind_some]
            have rI := r_ent (key := key) q1 s60 q6 (by rw [q7]; exact n59)
            have fuE : ∀ x, x < 60 → g_fu (g_ent (g_uB A v t row key val z 0) key (g_pb A (v / 10) z)) x = g_fu (g_uB A v t row key val z 0) x := fun x hx => by
              obtain ⟨_, _, _, _, _, e6⟩ := g_ent_f (key := key) (s := g_pb A (v / 10) z) q6 (by rw [q7]; exact n59)
              unfold g_fu g_iv g_ln
              rw [e6 _ _ _ (by omega) (by omega), e6 _ _ _ (by omega) (by omega)]
            have rE := r_end (t := nI t) (p := nI (g_pb A (v / 10) z / 10)) (q := nI (g_pb A (v / 10) z % 10)) rI hv (by rw [fuE v hv]; exact q3)
            rw [← pl] at rE
            have wE : g_W (g_uE (g_ent (g_uB A v t row key val z 0) key (g_pb A (v / 10) z)) v t (g_pb A (v / 10) z)) := by
              unfold g_uE
              rw [← g_ent_end]
              have ne2 : g_ne (g_end (g_uB A v t row key val z 0) v (nI t) (nI (g_pb A (v / 10) z / 10)) (nI (g_pb A (v / 10) z % 10))) = g_ne A := by
                unfold g_ne; rw [g_end_o (by omega) (by omega)]; exact q7
              have hd : v ≠ g_pb A (v / 10) z := fun q => by
                obtain ⟨f2, f3, f4⟩ := f1 s60
                rw [← q, u1.2.1] at f3; cases f3
              exact g_W_ent q2 (by rw [ne2]; exact n59) s60 (by rw [g_end_fu hv s60]; exact q4) (by rw [g_end_o (by omega) (by omega)]; exact q5)
            refine act_ans2 f1H rE wE (by decide) (fun q => c1_end (c1_ent (c1_fil s60 (c1_pA hW.1 (by omega) q)))) (fun h => ⟨g_ma h 32 A, ?_, g_fM_a (Or.inl rfl), by rw [g_ma_ne (by decide)]⟩)
            rw [← e, m_updateNow hW, cv, if_pos rfl, if_pos c, ht, ← ev, if_pos s60, L, if_neg (by decide), if_neg n60, e]
            rfl
      · have es : g_pp (g_pb A (v / 10) z) = -1 := if_neg s60
        rw [es, c_pageOf1]
        simp only [Option.bind_some]
        have hne : ¬ (-1 : Int32) = nI (v / 10) := fun q => absurd (q ▸ nI_pos' (n := v / 10) (by omega)) (by decide)
        rw [if_pos hne]
        simp only [Option.bind_some]
        rw [if_pos trivial, back.1]
        simp only [Option.bind_some]
        rw [if_neg (fun q => q trivial), e_refuse]
        simp only [Option.bind_some]
        refine act_ref2 f1H (g_R_mono back.2 (Nat.le_succ b)) hW (by decide) (fun h => ⟨g_ma h 32 A, ?_, g_fM_a (Or.inl rfl)⟩)
        rw [← e, m_updateNow hW, cv, if_pos rfl, if_pos c, ht, ← ev, if_neg s60]
    · rw [if_neg c, e_refuse]
      exact act_ref hR' hW c (fun h => by rw [m_updateNow hW, cv, if_pos rfl, if_neg c])
