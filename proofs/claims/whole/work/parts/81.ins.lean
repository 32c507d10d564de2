/-! insert, delete -/
theorem g_pi_f {A : g_A} {p : Nat} {z : Int32} (hl : g_wl A) (hp : p < 6) (h : g_pi A p z < 60) : g_pi A p z / 10 = p ∧ g_pi A p z % 10 ≤ g_ln A p ∧ g_fu A (g_pi A p z) = false ∧ (g_iv A (g_pi A p z) = true → A 1 (g_pi A p z) 0 = 0) := by
  obtain ⟨h1, h2, h3⟩ := g_pi_le hp h
  have hle := g_fst_le (g_un A) (g_ln A p) (10 * p)
  have e : g_pi A p z = g_fst (g_un A) (10 * p) (g_ln A p) := by
    unfold g_pi at h ⊢
    by_cases c : g_fr A p < z
    · rw [if_pos c] at h; omega
    · rw [if_neg c] at h ⊢
      by_cases d : g_fst (g_un A) (10 * p) (g_ln A p) < 10 * p + 10
      · rw [if_pos d]
      · rw [if_neg d] at h; omega
  have k0 : g_iv A (g_pi A p z) = true → A 1 (g_pi A p z) 0 = 0 := fun hi => by
    have hj : g_pi A p z = 10 * p + (g_pi A p z - 10 * p) := by omega
    rw [hj, g_iv_pj (by omega)] at hi
    have hlt := of_decide_eq_true hi
    rw [e]
    have := g_fst_at (g_un A) (g_ln A p) (10 * p) (by omega)
    exact of_decide_eq_true this
  refine ⟨by omega, by omega, ?_, k0⟩
  cases f : g_fu A (g_pi A p z) with
  | false => rfl
  | true =>
    have := g_fu_iv f
    rw [k0 this.1] at this
    exact absurd this.2 (by decide)
theorem g_fp_f {A : g_A} {z : Int32} (hl : g_wl A) (h : g_fp A z < 60) : g_fp A z % 10 ≤ g_ln A (g_fp A z / 10) ∧ g_fu A (g_fp A z) = false ∧ (g_iv A (g_fp A z) = true → A 1 (g_fp A z) 0 = 0) := by
  have e : ∃ p, p < 6 ∧ g_fp A z = g_pi A p z := by
    unfold g_fp at h ⊢
    by_cases c : g_fst (fun p => decide (g_pi A p z < 60)) 0 6 < 6
    · rw [if_pos c]; exact ⟨_, c, rfl⟩
    · rw [if_neg c] at h; omega
  obtain ⟨p, hp, e⟩ := e
  rw [e] at h ⊢
  obtain ⟨a, b, c, d⟩ := g_pi_f hl hp h
  rw [a]
  exact ⟨b, c, d⟩
theorem g_fil_row {A : g_A} {s : Nat} {v row key val size maker light : Int32} (hs : s < 60) : g_fil (g_au A 0 3 0 v) s row key val size maker light = g_au (g_fil A s row key val size maker light) 0 3 0 v := by
  have e8 : g_au A 0 3 0 v 0 8 0 = A 0 8 0 := g_au_ne (by omega)
  have e11 : g_au A 0 3 0 v 0 11 0 = A 0 11 0 := g_au_ne (by omega)
  have el : g_au A 0 3 0 v 0 (17 + s / 10) 0 = A 0 (17 + s / 10) 0 := g_au_ne (by omega)
  have en : g_ln (g_au A 0 3 0 v) (s / 10) = g_ln A (s / 10) := by unfold g_ln; rw [el]
  funext g i w
  by_cases e : g = 0 ∧ i = 3 ∧ w = 0
  · obtain ⟨rfl, rfl, rfl⟩ := e
    rw [g_au_eq, g_fil_o (by omega) (by omega), g_au_eq]
  · rw [g_au_ne e]
    unfold g_fil
    rw [e8, e11, el, en, g_au_ne e]
theorem r_row {b : Nat} {S : g_S} {A : g_A} (hR : g_R b S A) : g_R b (g_su S 0 7 0 (A 0 3 0 + 1)) (g_row A) := by
  obtain ⟨rg, rt, rh, rp, rn, ri, rl, rf, rm⟩ := hR
  have ro : ∀ {g i w : Nat}, ¬ (g = 0 ∧ i = 3 ∧ w = 0) → g_row A g i w = A g i w := fun h => g_row_o h
  have So : ∀ t f i, ¬ (t = 0 ∧ f = 7 ∧ i = 0) → (g_su S 0 7 0 (A 0 3 0 + 1)).1 t f i = S.1 t f i := fun t f i h => g_su_t h
  have hft : g_ft A (g_row A) := ⟨fun t i => ro (by omega), ro (by omega)⟩
  have iv : ∀ x, g_iv (g_row A) x = g_iv A x := fun x => by unfold g_iv g_ln; rw [ro (by omega)]
  have fu : ∀ x, g_fu (g_row A) x = g_fu A x := fun x => by unfold g_fu; rw [iv, ro (by omega)]
  refine ⟨⟨?_, ?_, ?_, ?_⟩, r_t_ft rt (fun t f i a b => So t f i (by omega)) rfl hft (fun t => ro (by omega)), ?_, fun x hx => ⟨?_, ?_, fun j hj => ?_⟩, ?_, r_i_eq ri (fun t f i a b => So t f i (by omega)) (ro (by omega)) (fun i w => ro (by omega)), ⟨?_, fun i hi => ?_, fun j hj => ?_⟩, r_f_eq rf (fun t f i a b => So t f i (by omega)) (ro (by omega)) (fun i w => ro (by omega)), ?_⟩
  · rw [So 1 4 0 (by omega), ro (by omega)]; exact rg.1
  · rw [So 0 5 0 (by omega), ro (by omega)]; exact rg.2.1
  · rw [So 0 6 0 (by omega), ro (by omega)]; exact rg.2.2.1
  · rw [g_su_e]; unfold g_row; rw [g_au_eq]
  · unfold r_h
    rw [So 6 5 0 (by omega), g_ft_hz hft]; exact rh
  · rw [So 4 0 x (by omega), ro (by omega)]; exact (rp x hx).1
  · rw [So 5 0 x (by omega), ro (by omega)]; exact (rp x hx).2.1
  · exact r_s_eq ((rp x hx).2.2 j hj) (fun f => So 3 f _ (by omega)) (iv _) (fun w => ro (by omega))
  · unfold r_n
    simp only [fun f => So 3 f 60 (by omega)]
    exact rn
  · rw [So 15 3 0 (by omega), ro (by omega)]; exact rl.1
  · have hn : g_nv (g_row A) = g_nv A := by unfold g_nv; rw [ro (by omega)]
    rw [hn] at hi
    rw [So 16 0 i (by omega), So 17 0 i (by omega), ro (by omega), ro (by omega)]; exact rl.2.1 i hi
  · rw [So 18 0 j (by omega), ro (by omega)]; exact rl.2.2 j hj
  · obtain ⟨⟨x, y, h1, h2, h3, h4, h5⟩, h6⟩ := rm
    have co : ∀ x', g_cm (g_su S 0 7 0 (A 0 3 0 + 1)) x' = g_cm S x' := fun x' => by unfold g_cm; rw [So 3 9 x' (by omega)]
    have mo : ∀ x', g_mm (g_row A) x' = g_mm A x' := fun x' => by unfold g_mm; rw [ro (by omega)]
    refine ⟨⟨x, y, by rw [So 0 8 0 (by omega)]; exact h1, by rw [ro (by omega)]; exact h2, h3, h4, fun s' hs' f => ?_⟩, fun a c ha hc fa fc => ?_⟩
    · rw [fu] at f
      rw [co, mo, So 3 9 s' (by omega), ro (by omega)]
      exact h5 s' hs' f
    · rw [fu] at fa fc
      rw [co, co, mo, mo]
      exact h6 a c ha hc fa fc
theorem g_row_ne {A : g_A} : g_ne (g_row A) = g_ne A := by unfold g_ne; rw [g_row_o (by omega)]
/-- a row comes in -/
theorem c_addRow {b : Nat} {H : q_H} {A : g_A} {s t : Nat} {key val size : Int32} (hW : g_W A) (hR : g_R b (g_st H 0) A) (hb : b < 2 ^ 30) (hs : s < 60) (hf : g_fu A s = false) (hk : g_iv A s = true → A 1 s 0 = 0) (hv : s % 10 ≤ g_ln A (s / 10)) (ht : g_tn A t) (hkey : 0 ≤ key) (ho : A 3 t 0 = 0 ∨ ∀ a, a < 60 → g_fu A a = true → g_en A a ≠ t) (hr : g_nr A < 40) (hn : g_ne A < 60) :
    ∃ S', St_addRow 0 (nI s) key val size (nI t) H = some (A 0 3 0, g_cw H 0 S') ∧ g_R (b + 1) S' (g_ent (g_fil (g_row A) s (A 0 3 0) key val size (nI t) 0) key s) ∧ g_W (g_ent (g_fil (g_row A) s (A 0 3 0) key val size (nI t) 0) key s) := by
  have r7 : H.1 0 7 0 0 = A 0 3 0 := hR.1.2.2.2
  have hR1 := r_row hR
  have hWB := g_W_ins (key := key) (val := val) (size := size) hW (r_m_wM hR.2.2.2.2.2.2.2.2) hs hb hf hk hv ht hkey hr ho
  have ro : ∀ {g i w : Nat}, ¬ (g = 0 ∧ i = 3 ∧ w = 0) → g_row A g i w = A g i w := fun h => g_row_o h
  have lnr : ∀ p, g_ln (g_row A) p = g_ln A p := fun p => by unfold g_ln; rw [ro (by omega)]
  have wl : g_wl (g_row A) := fun p hp => by rw [lnr, ro (by omega)]; exact hW.1.2.2.1 p hp
  have iv : ∀ x, g_iv (g_row A) x = g_iv A x := fun x => by unfold g_iv g_ln; rw [ro (by omega)]
  have fu : g_fu (g_row A) s = false := by unfold g_fu at hf ⊢; rw [iv, ro (by omega)]; exact hf
  have wg : g_wg (g_row A) := by unfold g_wg g_nv; rw [ro (by omega)]; exact hW.2.2.1
  have hRB := r_fil (row := A 0 3 0) (key := key) (val := val) (size := size) (maker := nI t) (light := 0) hR1 hs wl wg fu (by rw [lnr]; exact hv) hb (Or.inl rfl)
  obtain ⟨fs, _⟩ := g_fil_fu (row := A 0 3 0) (key := key) (val := val) (size := size) (maker := nI t) (light := 0) hs wl (by rw [lnr]; exact hv)
  have neB : g_ne (g_fil (g_row A) s (A 0 3 0) key val size (nI t) 0) = g_ne A := by unfold g_ne; rw [g_fil_o (by omega) (by omega), ro (by omega)]
  have wiB := hWB.2.1.1
  unfold St_addRow
  rw [r7, g_si_cw]
  have hP : r_p (g_st (g_cw H 0 (g_su (g_st H 0) 0 7 0 (A 0 3 0 + 1))) 0) (g_row A) (s / 10) := by rw [g_st_cw]; exact hR1.2.2.2.1 _ (by omega)
  rw [c_addV hs hP wl (Or.inl rfl), if_neg (fun q => q rfl), g_st_cw, g_cw_cw]
  have hri : r_i (g_st (g_cw H 0 (g_aS (g_su (g_st H 0) 0 7 0 (A 0 3 0 + 1)) s (g_ln (g_row A) (s / 10)) (A 0 3 0) key val size (nI t) 0)) 0) (g_fil (g_row A) s (A 0 3 0) key val size (nI t) 0) := by rw [g_st_cw]; exact hRB.2.2.2.2.2.1
  rw [c_add hs hri wiB (by rw [neB]; exact hn), g_st_cw, g_cw_cw]
  refine ⟨_, rfl, r_ent hRB hs wiB (by rw [neB]; exact hn), ?_⟩
  exact g_W_ent hWB (by rw [neB]; exact hn) hs fs (by rw [g_fil_s (by omega)]; rfl)
theorem m_inserts {A : g_A} {h : q_H} {t : Nat} {key val size : Int32} (hW : g_W A) (hp : g_fp A size < 60) (hn : g_ne A < 60) (ht : g_tn A t) (hr : g_nr A < 40) (ho : A 3 t 0 = 0 ∨ ∀ a, a < 60 → g_fu A a = true → g_en A a ≠ t) {b : Nat} (hM : g_wM b A) (hb : b < 2 ^ 30) :
    Mo_inserts (nI t) key val size (g_ma h 31 A) = some (A 0 3 0, g_ma h 31 (g_ent (g_fil (g_row A) (g_fp A size) (A 0 3 0) key val size (nI t) 0) key (g_fp A size))) := by
  have wl := hW.1.2.2.1
  obtain ⟨f1, f2, f3⟩ := g_fp_f wl hp
  have wr := hW.2.2.2.2.1
  unfold Mo_inserts
  rw [m_firstPlace wl]
  simp only [Option.bind_some]
  have e : g_pp (g_fp A size) = nI (g_fp A size) := if_pos hp
  rw [e, m_g (by omega), m_fills hp wl (Or.inl rfl)]
  simp only [Option.bind_some]
  have o2 : ∀ i w, g_fil A (g_fp A size) (A 0 3 0) key val size (nI t) 0 2 i w = A 2 i w := fun i w => g_fil_o (by omega) (by omega)
  have o5 : g_fil A (g_fp A size) (A 0 3 0) key val size (nI t) 0 0 5 0 = A 0 5 0 := g_fil_o (by omega) (by omega)
  have nB : g_ne (g_fil A (g_fp A size) (A 0 3 0) key val size (nI t) 0) = g_ne A := by unfold g_ne; rw [o5]
  have wi : g_wi (g_fil A (g_fp A size) (A 0 3 0) key val size (nI t) 0) := by
    have w := hW.2.1.1
    refine ⟨by rw [nB, o5]; exact w.1, by rw [nB]; exact w.2.1, fun i hi => ?_⟩
    rw [nB] at hi
    rw [o2, o2, o2]; exact w.2.2 i hi
  rw [m_enters hp wi (by rw [nB]; exact hn)]
  simp only [Option.bind_some]
  have e3 : g_ent (g_fil A (g_fp A size) (A 0 3 0) key val size (nI t) 0) key (g_fp A size) 0 3 0 = A 0 3 0 := by
    rw [(g_ent_f wi (by rw [nB]; exact hn)).2.2.2.2.2 _ _ _ (by omega) (by omega), g_fil_o (by omega) (by omega)]
  rw [m_g (by omega), e3, g_w0 (by omega), m_g (by omega), g_au_eq]
  unfold g_row
  rw [g_fil_row hp, g_ent_au (by omega) (by omega), wr.1, nI_1, g_sub1 (by omega)]
  rfl
theorem act_insert {b : Nat} {A : g_A} {H : q_H} {a key val size : Int32} (hW : g_W A) (hR : g_R b (g_st H 0) A) (hb : b < 2 ^ 30) : g_act (b + 1) A H (Rp_insert a key val size H) (Mo_insertNow a key val size) := by
  have wt := hW.1.1
  have wr := hW.2.2.2.2.1
  have wi := hW.2.1.1
  have hR' := g_R_mono hR (Nat.le_succ b)
  have mo : ∀ h, Mo_insertNow a key val size (g_ma h 31 A) = if g_vl key val size = true then (if g_tx A a = true then (if A 0 3 0 = 40 then some (-1, q_si (g_ma h 31 A) 30 6 7 0 3) else (if ¬ A 0 5 0 = 60 then (if g_opn A a = 0 then (if ¬ 0 < A 6 a.toNatClampNeg 0 then (if g_fp A size < 60 then (Mo_inserts a key val size (g_ma h 31 A)).bind fun x13 => some (x13.1, x13.2) else some (-1, q_si (g_ma h 31 A) 30 6 7 0 5)) else some (-1, q_si (g_ma h 31 A) 30 6 7 0 11)) else some (-1, q_si (g_ma h 31 A) 30 6 7 0 4)) else some (-1, q_si (g_ma h 31 A) 30 6 7 0 3))) else some (-1, q_si (g_ma h 31 A) 30 6 7 0 2)) else some (-1, q_si (g_ma h 31 A) 30 6 7 0 1) := fun h => by
    unfold Mo_insertNow
    rw [m_isValue, m_isTxn wt, m_firstPlace hW.1.2.2.1, m_g (by omega), m_g (by omega)]
    simp only [Option.bind_some]
    cases g_vl key val size with
    | false => rw [if_neg (by decide), if_neg (by decide)]; rfl
    | true =>
      rw [if_pos (by decide), if_pos rfl]
      unfold g_opn
      cases c : g_tx A a with
      | false => rw [if_neg (by decide), if_neg (by decide)]; rfl
      | true =>
        obtain ⟨t, e, t1, t2⟩ := g_tx_t wt c
        have ht : a.toNatClampNeg = t := by rw [e]; exact g_cl (by have := wt.2.2; omega)
        have t61 : t < 61 := by have := wt.2.2; omega
        rw [if_pos (by decide), if_pos rfl, if_pos rfl, ht]
        by_cases c3 : A 0 3 0 = 40
        · rw [if_pos c3, if_pos c3]; rfl
        · rw [if_neg c3, if_neg c3]
          by_cases c5 : A 0 5 0 = 60
          · rw [if_neg (fun q => q c5), if_neg (fun q => q c5)]; rfl
          · rw [if_pos c5, if_pos c5, e, m_isOpen t61]
            simp only [Option.bind_some]
            unfold g_op
            by_cases o : A 3 t 0 = 0
            · rw [decide_eq_true o, if_pos (by decide), m_isWaiting t61, if_pos o, if_pos rfl]
              simp only [Option.bind_some]
              by_cases w : 0 < A 6 t 0
              · rw [decide_eq_true w, if_neg (by decide), if_neg (fun q => q w)]; rfl
              · rw [decide_eq_false w, if_pos (by rfl), if_pos w]
                by_cases p : g_fp A size < 60
                · rw [if_pos (g_ppP.mpr p), if_pos p]
                · rw [if_neg (fun q => p (g_ppP.mp q)), if_neg p]; rfl
            · rw [decide_eq_false o, if_neg (by decide), if_neg o, if_neg (by decide)]; rfl
  unfold Rp_insert
  rw [c_isVersion, c_has hR.2.1 wt, c_asFree hR.2.1 wt, show H.1 0 7 0 0 = _ from hR.1.2.2.2, show H.1 11 3 0 0 = _ from hR.2.2.2.2.2.1.1]
  simp only [Option.bind_some]
  cases cv : g_vl key val size with
  | false =>
    rw [if_neg (by decide), e_refuse]
    exact act_ref hR' hW (by decide) (fun h => by rw [mo, cv, if_neg (by decide)])
  | true =>
    rw [if_pos (by decide)]
    cases ct : g_tx A a with
    | false =>
      rw [if_neg (by decide), e_refuse]
      exact act_ref hR' hW (by decide) (fun h => by rw [mo, cv, ct, if_pos rfl, if_neg (by decide)])
    | true =>
      rw [if_pos (by decide)]
      by_cases c3 : A 0 3 0 = 40
      · rw [if_pos (by rw [c3]; decide), e_refuse]
        exact act_ref hR' hW (by decide) (fun h => by rw [mo, cv, ct, if_pos rfl, if_pos rfl, if_pos c3])
      · have nr : g_nr A < 40 := by
          rcases Nat.lt_or_ge (g_nr A) 40 with q | q
          · exact q
          · have : g_nr A = 40 := by have := wr.2.1; omega
            exact absurd (by rw [wr.1, this]; rfl) c3
        rw [if_neg (by rw [wr.1]; exact fun q => absurd ((nI_leI (a := 40) (by decide) (by omega)).mp q) (by omega))]
        by_cases c5 : A 0 5 0 = 60
        · rw [if_neg (by rw [c5]; decide), e_refuse]
          exact act_ref hR' hW (by decide) (fun h => by rw [mo, cv, ct, if_pos rfl, if_pos rfl, if_neg c3, if_neg (fun q => q c5)])
        · have ne : g_ne A < 60 := by
            rcases Nat.lt_or_ge (g_ne A) 60 with q | q
            · exact q
            · have : g_ne A = 60 := by have := wi.2.1; omega
              exact absurd (by rw [wi.1, this]; rfl) c5
          rw [if_pos (by rw [wi.1]; exact nI_lt (b := 60) ne (by decide))]
          by_cases cf : g_free A a = 0
          · obtain ⟨t, e, t1, t2, t3, t4, t5⟩ := g_free_t wt cf
            have co : g_opn A a = 0 := by
              unfold g_free at cf
              by_cases z : g_opn A a = 0
              · exact z
              · rw [if_neg z] at cf; exact absurd cf z
            rw [if_pos cf, c_firstPlace hR.1.1 hR.2.2.2.1 hW.1.2.2.1]
            simp only [Option.bind_some]
            by_cases p : g_fp A size < 60
            · obtain ⟨f1, f2, f3⟩ := g_fp_f hW.1.2.2.1 p
              have ep : g_pp (g_fp A size) = nI (g_fp A size) := if_pos p
              obtain ⟨S', e1, e2, e3⟩ := c_addRow (key := key) (val := val) (size := size) hW hR hb p f2 f3 f1 t1 (g_vl_key cv) (Or.inl t2) nr ne
              rw [if_pos (fun q => g_pp1.mp q p), ep, e, e1]
              simp only [Option.bind_some]
              rw [e_answer]
              refine act_ans e2 e3 (by rw [wr.1]; exact nI_pos' (by omega)) (fun q => c1_ent (c1_fil p (c1_row q))) (fun h => ?_)
              rw [← e, mo, cv, ct, if_pos rfl, if_pos rfl, if_neg c3, if_pos c5, if_pos co, t3, if_pos t5, if_pos p, e, m_inserts hW p ne t1 nr (Or.inl t2) (r_m_wM hR.2.2.2.2.2.2.2.2) hb]
              rfl
            · rw [if_neg (fun q => q (g_pp1.mpr p)), e_refuse]
              exact act_ref hR' hW (by decide) (fun h => by rw [mo, cv, ct, if_pos rfl, if_pos rfl, if_neg c3, if_pos c5, if_pos co, t3, if_pos t5, if_neg p])
          · rw [if_neg cf, e_refuse]
            refine act_ref hR' hW cf (fun h => ?_)
            rw [mo, cv, ct, if_pos rfl, if_pos rfl, if_neg c3, if_pos c5]
            unfold g_free at cf ⊢
            by_cases co : g_opn A a = 0
            · rw [if_pos co] at cf ⊢
              rw [if_pos co]
              by_cases w : 0 < A 6 a.toNatClampNeg 0
              · rw [if_pos w, if_neg (fun q => q w)]
              · rw [if_neg w] at cf; exact absurd rfl cf
            · rw [if_neg co, if_neg co]
              unfold g_opn at co ⊢
              rw [ct, if_pos rfl] at co ⊢
              by_cases o : A 3 a.toNatClampNeg 0 = 0
              · rw [if_pos o] at co; exact absurd rfl co
              · rw [if_neg o]
