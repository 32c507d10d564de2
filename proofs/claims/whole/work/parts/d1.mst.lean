/-! most -/
def g_e1 (t : Nat) (B : g_A) : g_A := if g_op B t = true then g_cls B t 1 else B
def g_e2 (t : Nat) (B : g_A) : g_A := if g_op B t = true then g_au B 3 t 0 1 else B
theorem p6_cls {A : g_A} {w : Nat → Nat → Int32} {t : Nat} : g_p6 w (g_cls A t 1) = g_au (g_p6 w A) 3 t 0 1 := by
  unfold g_cls
  rw [p6_au (by decide)]
  congr 1
  funext g i c
  by_cases e : g = 6
  · subst e; rw [p6_6, p6_6]
  · rw [p6_o e, p6_o e]
    unfold g_cw0
    exact if_neg (fun q => e q.1)
theorem p6_e1 {w : Nat → Nat → Int32} {t : Nat} {B : g_A} : g_p6 w (g_e1 t B) = g_e2 t (g_p6 w B) := by
  unfold g_e1 g_e2
  have e : g_op (g_p6 w B) t = g_op B t := rfl
  rw [e]
  by_cases c : g_op B t = true
  · rw [if_pos c, if_pos c, p6_cls]
  · rw [if_neg c, if_neg c]
theorem g_e1_W {A : g_A} {t : Nat} (hW : g_W A) (ht : g_tn A t) : g_W (g_e1 t A) ∧ g_nx (g_e1 t A) = g_nx A ∧ g_e1 t A 0 1 0 = A 0 1 0 := by
  unfold g_e1
  by_cases c : g_op A t = true
  · rw [if_pos c]
    refine ⟨g_W_cls hW ht (of_decide_eq_true c) (Or.inl rfl), (g_cls_wt hW.1.1).2, ?_⟩
    unfold g_cls
    rw [g_au_ne (by omega)]
    exact if_neg (by omega)
  · rw [if_neg c]; exact ⟨hW, rfl, rfl⟩
theorem g_e1_all {A : g_A} (hW : g_W A) : ∀ n, 1 + n ≤ g_nx A → g_W (g_it g_e1 1 n A) ∧ g_nx (g_it g_e1 1 n A) = g_nx A ∧ g_it g_e1 1 n A 0 1 0 = A 0 1 0 := by
  intro n
  induction n with
  | zero => intro _; exact ⟨hW, rfl, rfl⟩
  | succ n ih =>
    intro hn
    obtain ⟨k1, k2, k3⟩ := ih (by omega)
    obtain ⟨j1, j2, j3⟩ := g_e1_W (t := 1 + n) k1 ⟨by omega, by rw [k2]; omega⟩
    exact ⟨j1, j2.trans k2, j3.trans k3⟩
theorem c_endAll {b : Nat} {A : g_A} {H : q_H} {S1 : g_S} (hW : g_W A) (hS : g_R b S1 A) : ∃ S', Tn_endAll 1 (g_cw H 1 S1) = some (g_cw H 1 S') ∧ g_R b S' (g_it g_e1 1 (g_nx A - 1) A) := by
  have wt := hW.1.1
  have n2 := wt.2.1
  have n61 := wt.2.2
  unfold Tn_endAll
  obtain ⟨r, e, S', er, k⟩ := g_lpH (body := fun s1 : Int32 × q_H => (if (s1.2.1 6 4 1 0) ≤ s1.1 then (some (.inr (s1.2))) else ((Tn_stateOf 1 s1.1 s1.2).bind fun x9 => Option.bind (α := q_H) (if ¬ x9 = 0 then (some (s1.2)) else ((Tn_end 1 s1.1 (1 : Int32) s1.2).bind fun x15 => some (x15))) (fun p18 => some (.inl ((s1.1 + (1 : Int32)), p18)))) : Option ((Int32 × q_H) ⊕ q_H)))
    (fun i z => ∃ S', z = (nI (1 + i), g_cw H 1 S') ∧ g_R b S' (g_it g_e1 1 i A))
    (fun r => ∃ S', r = g_cw H 1 S' ∧ g_R b S' (g_it g_e1 1 (g_nx A - 1) A)) (g_nx A - 1)
    (fun i z hi ⟨S', e, k⟩ => by
      subst e
      dsimp only
      obtain ⟨w1, w2, w3⟩ := g_e1_all hW i (by omega)
      have k' : g_R b (g_st (g_cw H 1 S') 1) (g_it g_e1 1 i A) := by rw [g_st_cw]; exact k
      have h4 : (g_cw H 1 S').1 6 4 1 0 = nI (g_nx A) := by
        have := k'.2.1.1
        rw [w1.1.1.1, w2] at this
        exact this
      have st : g_it g_e1 1 (i + 1) A = g_e1 (1 + i) (g_it g_e1 1 i A) := rfl
      rw [h4, if_neg (nI_ge (by omega) (by omega)), c_so k'.2.1 w1.1.1 (by omega) (by rw [w2]; omega)]
      simp only [Option.bind_some]
      rw [st]
      generalize g_it g_e1 1 i A = B at k k' w1 w2 w3 ⊢
      unfold g_e1 g_op
      by_cases c : B 3 (1 + i) 0 = 0
      · have tn : g_tn B (1 + i) := ⟨by omega, by rw [w2]; omega⟩
        rw [if_neg (fun q => q c), c_end k'.2.1 w1.1.1 tn.1 tn.2, Option.bind_some, Option.bind_some, nI_1, g_st_cw, g_cw_cw, decide_eq_true c, if_pos rfl]
        exact ⟨_, rfl, _, rfl, r_cls k w1.1.1 tn⟩
      · rw [if_pos c, Option.bind_some, nI_1, decide_eq_false c, if_neg (by decide)]
        exact ⟨_, rfl, _, rfl, k⟩)
    (fun z ⟨S', e, k⟩ => by
      subst e
      dsimp only
      obtain ⟨w1, w2, w3⟩ := g_e1_all hW (g_nx A - 1) (by omega)
      have k' : g_R b (g_st (g_cw H 1 S') 1) (g_it g_e1 1 (g_nx A - 1) A) := by rw [g_st_cw]; exact k
      have h4 : (g_cw H 1 S').1 6 4 1 0 = nI (g_nx A) := by
        have := k'.2.1.1
        rw [w1.1.1.1, w2] at this
        exact this
      rw [h4, if_pos (by rw [show 1 + (g_nx A - 1) = g_nx A by omega]; exact Int32.le_refl _)]
      exact ⟨_, rfl, S', rfl, k⟩)
    ((1 : Int32), g_cw H 1 S1) q_fu (by unfold q_fu; omega) ⟨S1, rfl, hS⟩
  exact ⟨S', by rw [e, er]; rfl, k⟩
theorem law_most {b : Nat} {A : g_A} {H : q_H} {a : Int32} (hW : g_W A) (hR : g_R b (g_st H 0) A) (hn : r_n (g_st H 1)) : g_law b A H (Rp_most a H) (Mo_most a) := by
  have wt := hW.1.1
  have n2 := wt.2.1
  have n61 := wt.2.2
  unfold Rp_most
  rw [c_isPg]
  simp only [Option.bind_some]
  cases c : g_in a 0 5 with
  | false =>
    rw [if_neg qn0, e_refuse]
    refine law_q hR hW (fun h _ => ?_)
    unfold Mo_most
    rw [m_isPg, c]
    simp only [Option.bind_some]
    rw [if_pos (show q_bi false = 0 from rfl), Option.bind_some, m_isA (by decide)]
    rfl
  | true =>
    obtain ⟨p, hp, rfl⟩ := g_in_t (by decide) (show g_in a 0 (nI 5) = true from c)
    have hp6 : p < 6 := by omega
    have hS1 : g_R b (g_cpS (g_st H 1) (g_st H 0)) A := g_R_cp hR hn hW
    obtain ⟨S2, e2, r2⟩ := c_endAll (H := H) hW hS1
    obtain ⟨wD, nD, bD⟩ := g_e1_all hW (g_nx A - 1) (by omega)
    obtain ⟨v, c1, c8, h01⟩ := id hW.2.2.2.2.2.1
    have eC : g_p6 (A 6) (g_it g_e1 1 (g_nx A - 1) A) = g_it g_e2 1 (g_nx A - 1) A := by
      have := it_map (Q := g_p6 (A 6)) (f := g_e1) (f' := g_e2) (fun i x => p6_e1) (i0 := 1) (b := A) (g_nx A - 1)
      rw [p6_id] at this; exact this
    have wC : g_W (g_p6 (A 6) (g_it g_e1 1 (g_nx A - 1) A)) := p6_W wD hW nD
    have bC : g_p6 (A 6) (g_it g_e1 1 (g_nx A - 1) A) 0 1 0 = nI v := by rw [p6_o (by decide), bD]; exact h01
    have eCj : ∀ j, g_p6 (A 6) (g_it g_e1 1 j A) = g_it g_e2 1 j A := fun j => by
      have := it_map (Q := g_p6 (A 6)) (f := g_e1) (f' := g_e2) (fun i x => p6_e1) (i0 := 1) (b := A) j
      rw [p6_id] at this; exact this
    rw [eC] at wC bC
    generalize hD : g_it g_e1 1 (g_nx A - 1) A = D at r2 wD nD bD eC
    generalize hC : g_it g_e2 1 (g_nx A - 1) A = C at wC bC eC
    have dC : g_p6 (D 6) C = D := by rw [← eC, p6_p6, p6_id]
    have w1 : g_W (g_v1 C) := g_i6_I (n := 6) g_W wC (fun p hp B hB => (g_W_pr hB hp).1) 6 (Nat.le_refl _)
    have wgp : ∀ B, g_pv (g_v1 C) v (g_Q v (g_sL (g_v1 C) 60).length) (g_sL (g_v1 C) 60) B → g_W B := fun B hB => (g_pv_W w1 hB (g_Q_ge c1) (g_wg_pd w1.2.2.1 _)).2
    have r2' : g_R b (g_st (g_cw H 1 S2) 1) D := by rw [g_st_cw]; exact r2
    have toD : ∀ B, g_pv (g_v1 C) v (g_Q v (g_sL (g_v1 C) 60).length) (g_sL (g_v1 C) 60) B → ∃ S', St_vacuumAll 1 (g_cw H 1 S2) = some (nI (g_sL (g_v1 C) 60).length, g_cw H 1 S') ∧ g_R b S' (g_p6 (D 6) (g_v3 B)) := fun B hB => by
      have k := p6_pv (w := D 6) hB
      rw [p6_v1, dC] at k
      have eL : g_sL (g_v1 C) 60 = g_sL (g_v1 D) 60 := by
        have : g_v1 D = g_p6 (D 6) (g_v1 C) := by rw [p6_v1, dC]
        rw [this, p6_sL]
      rw [eL] at k ⊢
      obtain ⟨⟨S', e, r⟩, _⟩ := c_vacuumAll wD r2' c1 c8 (by rw [bD]; exact h01) k
      rw [g_cw_cw] at e
      rw [p6_v3]
      exact ⟨S', e, r⟩
    obtain ⟨_, B0, _, _, _, hB0⟩ := m_vacuums (h := H) wC c1 c8 bC wgp
    obtain ⟨S0, e0, r0⟩ := toD B0 hB0
    have fr : ∀ B, g_R b S0 (g_p6 (D 6) B) → Pg_freeOf 1 (nI p) (g_cw H 1 S0) = some (g_fr B p) := fun B hB => by
      rw [c_freeOf (H := g_cw H 1 S0) (k := 1) (A := g_p6 (D 6) B) hp6 (by rw [show (g_cw H 1 S0).1 1 4 1 0 = (g_st (g_cw H 1 S0) 1).1 1 4 0 from rfl, g_st_cw]; exact hB.1.1) (by rw [g_st_cw]; exact (hB.2.2.2.1 p hp6).2.2), p6_fr]
    rw [if_pos qn1, c_copyFrom (by decide) (g_R_01 hR hW.1.2.2.2.1)]
    simp only [Option.bind_some]
    rw [e2, Option.bind_some, e0, Option.bind_some]
    dsimp only
    rw [fr _ r0, Option.bind_some, e_answer]
    refine law_q1 (g_f1_cw (fun _ => r0.2.2.2.2.1)) hR hW (fun h _ => ?_)
    obtain ⟨hh, B, me, f, s, hB⟩ := m_vacuums (h := g_ma (g_s 0 h) 33 A) wC c1 c8 bC wgp
    obtain ⟨S3, e3, r3⟩ := toD B hB
    have eS : S3 = S0 := by
      have q := (Prod.mk.inj (Option.some.inj (e0.symm.trans e3))).2
      have q2 := congrArg (fun z => g_st z 1) q
      rw [g_st_cw, g_st_cw] at q2
      exact q2.symm
    have vv : g_fr (g_v3 B0) p = g_fr (g_v3 B) p := Option.some.inj ((fr _ r0).symm.trans (fr _ (eS ▸ r3)))
    have h33 : ∀ j, j < 1644 → hh.1 33 0 7 j = g_at A j := fun j hj => by
      rw [f.1 _ _ _ _ (by omega), g_ma_rd hj]
    have cp : Mo_copy 33 7 31 7 (g_ma hh 31 (g_v3 B)) = some (g_ma hh 31 A) := by
      have := m_copy2 (h := hh) (t := 33) (A := A) (A' := g_v3 B) (Or.inr (Or.inl rfl))
      rw [g_ma_id h33] at this; exact this
    have wB : g_wl (g_v3 B) := by
      have := (c_vacuumAll wD r2' c1 c8 (by rw [bD]; exact h01) (B := g_p6 (D 6) B) (by
        have k := p6_pv (w := D 6) hB
        rw [p6_v1, dC] at k
        have eL : g_sL (g_v1 C) 60 = g_sL (g_v1 D) 60 := by
          have : g_v1 D = g_p6 (D 6) (g_v1 C) := by rw [p6_v1, dC]
          rw [this, p6_sL]
        rw [eL] at k; exact k)).2.1.2.2.1
      rw [← p6_v3] at this
      exact this
    refine ⟨hh, ?_, g_fM_tr g_s_M (g_fM_tr (g_fM_a (Or.inr rfl)) (g_f36_M f)), by rw [s, g_ma_ne (by decide), g_s_6]⟩
    rw [vv]
    unfold Mo_most
    rw [m_isPg, c]
    simp only [Option.bind_some]
    rw [if_neg qn1, Option.bind_some, m_isA0]
    simp only [Option.bind_some]
    rw [if_pos q1n, m_copy1 (Or.inr (Or.inl rfl)), Option.bind_some]
    refine g_bs ?_
    obtain ⟨r, e, er⟩ := g_lpH (body := fun s13 : Int32 × q_H => (if (s13.2.1 31 0 7 4) ≤ s13.1 then ((Mo_vacuums s13.2).bind fun x21 => (Mo_freeIn (nI p) x21.2).bind fun x23 => (Mo_copy 33 7 31 7 x21.2).bind fun x25 => some (.inr ((x23, x25)))) else ((Mo_isOpen s13.1 s13.2).bind fun x27 => Option.bind (α := q_H) (if x27 = 0 then (some (s13.2)) else (bif q_in ((1052 : Int32) + ((3 : Int32) * s13.1)) 1644 then (some ((q_si s13.2 31 0 7 ((1052 : Int32) + ((3 : Int32) * s13.1)).toNatClampNeg (1 : Int32)))) else none)) (fun p35 => some (.inl ((s13.1 + (1 : Int32)), p35)))) : Option ((Int32 × q_H) ⊕ (Int32 × q_H))))
      (fun i z => z = (nI (1 + i), g_ma (g_ma (g_s 0 h) 33 A) 31 (g_it g_e2 1 i A)))
      (fun r => r = (g_fr (g_v3 B) p, g_ma hh 31 A)) (g_nx A - 1)
      (fun i z hi ez => by
        subst ez
        dsimp only
        obtain ⟨y1, y2, y3⟩ := g_e1_all hW i (by omega)
        have x4 : g_it g_e2 1 i A 0 4 0 = nI (g_nx A) := by
          rw [← eCj i, p6_o (by decide), y1.1.1.1, y2]
        have st : g_it g_e2 1 (i + 1) A = g_e2 (1 + i) (g_it g_e2 1 i A) := rfl
        rw [m_g (by omega), x4, if_neg (nI_ge (by omega) (by omega)), m_isOpen (by omega)]
        simp only [Option.bind_some]
        rw [st]
        generalize g_it g_e2 1 i A = E
        unfold g_e2
        cases o : g_op E (1 + i) with
        | false =>
          rw [if_pos (by rfl), Option.bind_some, nI_1, if_neg (by decide)]
          exact ⟨_, rfl, rfl⟩
        | true =>
          rw [if_neg qn1, m_cellT, g_inN (by omega) (by decide), cond_true, m_setT (by omega), Option.bind_some, nI_1, if_pos rfl]
          exact ⟨_, rfl, rfl⟩)
      (fun z ez => by
        subst ez
        dsimp only
        obtain ⟨y1, y2, y3⟩ := g_e1_all hW (g_nx A - 1) (by omega)
        have x4 : g_it g_e2 1 (g_nx A - 1) A 0 4 0 = nI (g_nx A) := by
          rw [← eCj (g_nx A - 1), p6_o (by decide), y1.1.1.1, y2]
        rw [m_g (by omega), x4, if_pos (by rw [show 1 + (g_nx A - 1) = g_nx A by omega]; exact Int32.le_refl _), hC, me, Option.bind_some]
        dsimp only
        rw [m_freeIn wB hp6, Option.bind_some, cp]
        exact ⟨_, rfl, rfl⟩)
      ((1 : Int32), g_ma (g_ma (g_s 0 h) 33 A) 31 A) q_fu (by unfold q_fu; omega) rfl
    rw [er] at e
    exact e
