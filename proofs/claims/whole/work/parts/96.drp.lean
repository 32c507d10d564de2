/-! loops over places and pages; unused slots at a page's end go -/
def g_i6 (f : Nat → g_A → g_A) (A : g_A) (n : Nat) : g_A := match n with | 0 => A | n + 1 => f n (g_i6 f A n)
theorem g_i6_s (f : Nat → g_A → g_A) (A : g_A) (n : Nat) : g_i6 f A (n + 1) = f n (g_i6 f A n) := rfl
theorem c_six {ρ : Type} {H : q_H} {k bb n : Nat} {A : g_A} {f : Nat → g_A → g_A} {B : Int32 × q_H → Option ((Int32 × q_H) ⊕ ρ)} {rr : q_H → ρ} (I : g_A → Prop) (hn : n < q_fu) (hI : I A) (hR : g_R bb (g_st H k) A) (step : ∀ p, p < n → ∀ H' A', I A' → g_R bb (g_st H' k) A' → (∃ S', B (nI p, H') = some (.inl (nI p + 1, g_cw H' k S')) ∧ g_R bb S' (f p A')) ∧ I (f p A')) (fin : ∀ H', B (nI n, H') = some (.inr (rr H'))) : (∃ S', q_lp B q_fu ((0 : Int32), H) = some (rr (g_cw H k S')) ∧ g_R bb S' (g_i6 f A n)) ∧ I (g_i6 f A n) := by
  obtain ⟨r, e, S', er, h1, h2⟩ := g_lpH (body := B) (fun i z => ∃ S', z = (nI i, g_cw H k S') ∧ g_R bb S' (g_i6 f A i) ∧ I (g_i6 f A i)) (fun r => ∃ S', r = rr (g_cw H k S') ∧ g_R bb S' (g_i6 f A n) ∧ I (g_i6 f A n)) n (fun i z hi ⟨S', e, h1, h2⟩ => by
      subst e
      obtain ⟨⟨S2, e2, r2⟩, i2⟩ := step i hi (g_cw H k S') (g_i6 f A i) h2 (by rw [g_st_cw]; exact h1)
      rw [e2, g_cw_cw, nI_1]
      exact ⟨_, rfl, S2, rfl, r2, i2⟩)
    (fun z ⟨S', e, h1, h2⟩ => by
      subst e
      exact ⟨_, fin _, S', rfl, h1, h2⟩) ((0 : Int32), H) q_fu hn ⟨g_st H k, by rw [g_cw_st]; rfl, hR, hI⟩
  exact ⟨⟨S', by rw [← er]; exact e, h1⟩, h2⟩
theorem m_six {ρ : Type} {hh : q_H} {n : Nat} {A : g_A} {f : Nat → g_A → g_A} {B : Int32 × q_H → Option ((Int32 × q_H) ⊕ ρ)} {rr : q_H → ρ} (I : g_A → Prop) (hn : n < q_fu) (hI : I A) (step : ∀ p, p < n → ∀ A', I A' → B (nI p, g_ma hh 31 A') = some (.inl (nI p + 1, g_ma hh 31 (f p A'))) ∧ I (f p A')) (fin : ∀ A', I A' → B (nI n, g_ma hh 31 A') = some (.inr (rr (g_ma hh 31 A')))) : q_lp B q_fu ((0 : Int32), g_ma hh 31 A) = some (rr (g_ma hh 31 (g_i6 f A n))) ∧ I (g_i6 f A n) := by
  obtain ⟨r, e, er, h2⟩ := g_lpH (body := B) (fun i z => z = (nI i, g_ma hh 31 (g_i6 f A i)) ∧ I (g_i6 f A i)) (fun r => r = rr (g_ma hh 31 (g_i6 f A n)) ∧ I (g_i6 f A n)) n (fun i z hi ⟨e, h2⟩ => by
      subst e
      obtain ⟨e2, i2⟩ := step i hi (g_i6 f A i) h2
      rw [e2, nI_1]
      exact ⟨_, rfl, rfl, i2⟩)
    (fun z ⟨e, h2⟩ => by
      subst e
      exact ⟨_, fin _ h2, rfl, h2⟩) ((0 : Int32), g_ma hh 31 A) q_fu hn ⟨rfl, hI⟩
  exact ⟨by rw [← er]; exact e, h2⟩
/-- how long a page is without its unused end -/
def g_dn (A : g_A) (p : Nat) (n : Nat) : Nat := match n with | 0 => 0 | n + 1 => if A 1 (10 * p + n) 0 = 0 then g_dn A p n else n + 1
theorem g_dn_s (A : g_A) (p n : Nat) : g_dn A p (n + 1) = if A 1 (10 * p + n) 0 = 0 then g_dn A p n else n + 1 := rfl
theorem g_dn_le {A : g_A} {p : Nat} : ∀ n, g_dn A p n ≤ n := by
  intro n
  induction n with
  | zero => exact Nat.le_refl _
  | succ n ih =>
    rw [g_dn_s]
    split
    · omega
    · omega
theorem g_dn_un {A : g_A} {p : Nat} : ∀ n j, g_dn A p n ≤ j → j < n → A 1 (10 * p + j) 0 = 0 := by
  intro n
  induction n with
  | zero => intro j _ h; omega
  | succ n ih =>
    intro j h1 h2
    rw [g_dn_s] at h1
    by_cases c : A 1 (10 * p + n) 0 = 0
    · rw [if_pos c] at h1
      by_cases d : j = n
      · subst d; exact c
      · exact ih j h1 (by omega)
    · rw [if_neg c] at h1; omega
def g_dr (p : Nat) (A : g_A) : g_A := g_au A 0 (17 + p) 0 (nI (g_dn A p (g_ln A p)))
theorem g_dr_o {p : Nat} {A : g_A} {g i w : Nat} (h : ¬ (g = 0 ∧ i = 17 + p ∧ w = 0)) : g_dr p A g i w = A g i w := g_au_ne h
theorem g_dr_ln {p q : Nat} {A : g_A} (hl : g_wl A) (hp : p < 6) (hq : q < 6) : g_ln (g_dr p A) q = if q = p then g_dn A p (g_ln A p) else g_ln A q := by
  have := g_dn_le (A := A) (p := p) (g_ln A p)
  have := (hl p hp).2
  by_cases c : q = p
  · subst c
    rw [if_pos rfl]
    unfold g_dr
    show (g_au A 0 (17 + q) 0 _ 0 (17 + q) 0).toNatClampNeg = _
    rw [g_au_eq, g_cl (by omega)]
  · rw [if_neg c]
    show (g_dr p A 0 (17 + q) 0).toNatClampNeg = _
    rw [g_dr_o (by omega)]; rfl
theorem g_dr_iv {p s : Nat} {A : g_A} (hl : g_wl A) (hp : p < 6) (hs : s < 60) : (g_iv (g_dr p A) s = true → g_iv A s = true) ∧ (A 1 s 0 ≠ 0 → g_iv A s = true → g_iv (g_dr p A) s = true) := by
  have hq : s / 10 < 6 := by omega
  unfold g_iv
  rw [g_dr_ln hl hp hq, decide_eq_true_iff, decide_eq_true_iff]
  by_cases c : s / 10 = p
  · rw [if_pos c, c]
    have h1 := g_dn_le (A := A) (p := p) (g_ln A p)
    refine ⟨fun q => by omega, fun hk hi => ?_⟩
    rcases Nat.lt_or_ge (s % 10) (g_dn A p (g_ln A p)) with q | q
    · exact q
    · have := g_dn_un (g_ln A p) (s % 10) q hi
      rw [show 10 * p + s % 10 = s by omega] at this
      exact absurd this hk
  · rw [if_neg c]
    exact ⟨id, fun _ => id⟩
theorem g_dr_fv {p : Nat} {A : g_A} (hW : g_W A) (hp : p < 6) : g_fv A (g_dr p A) := by
  obtain ⟨wt, wq, wl, wv, wc, wL, wT, wE, wF⟩ := hW.1
  have e1 : ∀ s w, g_dr p A 1 s w = A 1 s w := fun s w => g_dr_o (by omega)
  refine ⟨⟨fun t i => g_dr_o (by omega), g_dr_o (by omega)⟩, fun t i => g_dr_o (by omega), fun i hi => g_dr_o (by omega), fun q hq => ?_, fun s hs => ?_, fun s hs f => ⟨fun w _ _ => e1 s w, by rw [e1]; exact (wv s hs f).2.2.2.2.2, fun e => wF s hs f (by rw [← e1]; exact e)⟩, fun s hs i k => ⟨(g_dr_iv wl hp hs).1 i, by rw [← e1]; exact k, e1 s 1⟩⟩
  · rw [g_dr_ln wl hp hq]
    by_cases c : q = p
    · subst c
      rw [if_pos rfl]
      have h1 := g_dn_le (A := A) (p := q) (g_ln A q)
      have h2 := (wl q hq).2
      exact ⟨g_au_eq, by omega⟩
    · rw [if_neg c, g_dr_o (by omega)]
      exact wl q hq
  · unfold g_fu
    rw [e1]
    by_cases k : A 1 s 0 = 1
    · rw [decide_eq_true k, Bool.and_true, Bool.and_true]
      obtain ⟨a, b⟩ := g_dr_iv (A := A) wl hp hs
      cases c : g_iv A s with
      | true => exact b (by rw [k]; decide) c
      | false =>
        cases d : g_iv (g_dr p A) s with
        | true => rw [a d] at c; cases c
        | false => rfl
    · rw [decide_eq_false k, Bool.and_false, Bool.and_false]
theorem g_dr_W {p : Nat} {A : g_A} (hW : g_W A) (hp : p < 6) : g_W (g_dr p A) := by
  have hfv := g_dr_fv hW hp
  obtain ⟨hI, ⟨wi, we, wO⟩, wg, ww, wr, wb, wd, wI⟩ := id hW
  have ene : g_ne (g_dr p A) = g_ne A := by unfold g_ne; rw [g_dr_o (by omega)]
  have eep : ∀ i, g_ep (g_dr p A) i = g_ep A i := fun i => by unfold g_ep; rw [g_dr_o (by omega), g_dr_o (by omega)]
  refine fv_W hfv hW ⟨?_, by rw [ene]; exact wi.2.1, fun i hi => ?_⟩ (fun i hi => ?_) ?_ ?_
  · rw [ene, g_dr_o (by omega)]; exact wi.1
  · rw [ene] at hi
    rw [g_dr_o (by omega), g_dr_o (by omega), g_dr_o (by omega)]
    exact wi.2.2 i hi
  · rw [ene] at hi
    rw [eep, g_dr_o (by omega), g_dr_o (by omega)]
    obtain ⟨w1, w2⟩ := we i hi
    refine ⟨(g_dr_iv hI.2.2.1 hp (g_ep_lt wi hi).1).2 ?_ w1, w2⟩
    rcases w2 with w2 | w2 | w2
    · rw [w2.1]; decide
    · rw [w2]; decide
    · rw [w2]; decide
  · unfold g_wg g_nv
    rw [g_dr_o (by omega)]; exact wg
  · have hn : g_nf (g_dr p A) = g_nf A := by unfold g_nf; rw [g_dr_o (by omega)]
    refine ⟨by rw [hn, g_dr_o (by omega)]; exact wd.1, by rw [hn]; exact wd.2.1, fun i hi => ?_⟩
    rw [hn] at hi
    rw [g_dr_o (by omega), g_dr_o (by omega)]
    exact wd.2.2 i hi
theorem g_dr_R {bb p : Nat} {A : g_A} {S : g_S} (hW : g_W A) (hR : g_R bb S A) (hp : p < 6) : g_R bb (g_su S 4 0 p (nI (g_dn A p (g_ln A p)))) (g_dr p A) := by
  have hfv := g_dr_fv hW hp
  have wl := hW.1.2.2.1
  obtain ⟨rg, rt, rh, rp, rn, ri, rl, rf, rm⟩ := hR
  have eS : ∀ t f i, t ≠ 4 → (g_su S 4 0 p (nI (g_dn A p (g_ln A p)))).1 t f i = S.1 t f i := fun t f i h => g_su_t (by omega)
  refine ⟨⟨?_, ?_, ?_, ?_⟩, r_t_ft rt (fun t f i a c => eS t f i (by omega)) rfl hfv.1 (fun t => hfv.2.1 t 0), ?_, fun q hq => ⟨?_, ?_, fun j hj => ?_⟩, ?_, r_i_eq ri (fun t f i a c => eS t f i (by omega)) (g_dr_o (by omega)) (fun i w => g_dr_o (by omega)), ?_, r_f_eq rf (fun t f i a c => eS t f i (by omega)) (g_dr_o (by omega)) (fun i w => g_dr_o (by omega)), fv_m hfv (g_dr_o (by omega)) (eS _ _ _ (by omega)) (fun s hs f => eS _ _ _ (by omega)) rm⟩
  · rw [eS _ _ _ (by omega), g_dr_o (by omega)]; exact rg.1
  · rw [eS _ _ _ (by omega), g_dr_o (by omega)]; exact rg.2.1
  · rw [eS _ _ _ (by omega), g_dr_o (by omega)]; exact rg.2.2.1
  · rw [eS _ _ _ (by omega), g_dr_o (by omega)]; exact rg.2.2.2
  · unfold r_h
    rw [eS _ _ _ (by omega), g_ft_hz hfv.1]; exact rh
  · by_cases c : q = p
    · subst c
      rw [g_su_e]
      exact g_au_eq.symm
    · rw [g_su_t (by omega), g_dr_o (by omega)]; exact (rp q hq).1
  · rw [eS _ _ _ (by omega), g_dr_o (by omega)]; exact (rp q hq).2.1
  · have hs : 10 * q + j < 60 := by omega
    have h0 := (rp q hq).2.2 j hj
    generalize hx : 10 * q + j = x at h0 hs ⊢
    obtain ⟨a, b⟩ := g_dr_iv (A := A) wl hp hs
    by_cases c : g_iv (g_dr p A) x = g_iv A x
    · exact r_s_eq h0 (fun f => eS _ _ _ (by omega)) c (fun w => g_dr_o (by omega))
    · have iA : g_iv A x = true := by
        cases d : g_iv A x with
        | true => rfl
        | false =>
          cases e : g_iv (g_dr p A) x with
          | true => rw [a e] at d; cases d
          | false => rw [d, e] at c; exact absurd rfl c
      have iB : g_iv (g_dr p A) x = false := by
        cases e : g_iv (g_dr p A) x with
        | true => rw [e, iA] at c; exact absurd rfl c
        | false => rfl
      have k0 : A 1 x 0 = 0 := by
        by_cases d : A 1 x 0 = 0
        · exact d
        · rw [b d iA] at iB; cases iB
      have fA : g_fu A x = false := by unfold g_fu; rw [k0, iA]; decide
      have fB : g_fu (g_dr p A) x = false := by unfold g_fu; rw [iB]; rfl
      obtain ⟨r0, r1, r2⟩ := h0.2 fA
      rw [if_pos iA, k0] at r0
      rw [if_neg (fun y => by rw [k0] at y; exact absurd y.2 (by decide))] at r1
      refine ⟨fun y => absurd (fB.symm.trans y) (by decide), fun _ => ?_⟩
      simp only [eS _ _ _ (show (3 : Nat) ≠ 4 by decide)]
      rw [if_neg (by rw [iB]; decide), if_neg (fun y => by rw [iB] at y; exact absurd y.1 (by decide))]
      exact ⟨r0, r1, r2⟩
  · unfold r_n
    simp only [eS _ _ _ (show (3 : Nat) ≠ 4 by decide)]
    exact rn
  · exact (r_l_eq ⟨rl, hW.2.2.1⟩ (fun t f i h => eS _ _ _ (by omega)) (g_dr_o (by omega)) (fun i w => g_dr_o (by omega)) (fun j hj => g_dr_o (by omega))).1
section g_MM
variable {h : q_H}
theorem m_drop {A : g_A} {p : Nat} (hl : g_wl A) (hp : p < 6) : q_lp (fun s23 : q_H => (bif q_in ((17 : Int32) + nI p) 1644 then (if (s23.1 31 0 7 ((17 : Int32) + nI p).toNatClampNeg) ≤ 0 then (some (.inr (s23))) else (bif q_in ((17 : Int32) + nI p) 1644 then ((Mo_of ((((10 : Int32) * nI p) + (s23.1 31 0 7 ((17 : Int32) + nI p).toNatClampNeg)) - (1 : Int32)) (0 : Int32) s23).bind fun x31 => if ¬ x31 = 0 then (some (.inr (s23))) else (bif q_in ((17 : Int32) + nI p) 1644 then (bif q_in ((17 : Int32) + nI p) 1644 then (some (.inl (q_si s23 31 0 7 ((17 : Int32) + nI p).toNatClampNeg ((s23.1 31 0 7 ((17 : Int32) + nI p).toNatClampNeg) - (1 : Int32))))) else none) else none)) else none)) else none : Option ((q_H) ⊕ (q_H)))) q_fu (g_ma h 31 A : q_H) = some (g_ma h 31 (g_dr p A)) := by
  have h17 : (17 : Int32) + nI p = nI (17 + p) := nI_add 17 p
  have h10 := (hl p hp).2
  rw [h17, g_inN (show 17 + p < 1644 by omega) (by decide), g_cl (show 17 + p < 2 ^ 31 by omega)]
  simp only [cond_true]
  obtain ⟨r, e, er⟩ := g_lpX (body := fun s23 : q_H => (if (s23.1 31 0 7 (17 + p)) ≤ 0 then (some (.inr (s23))) else ((Mo_of ((((10 : Int32) * nI p) + (s23.1 31 0 7 (17 + p))) - (1 : Int32)) (0 : Int32) s23).bind fun x31 => if ¬ x31 = 0 then (some (.inr (s23))) else (some (.inl (q_si s23 31 0 7 (17 + p) ((s23.1 31 0 7 (17 + p)) - (1 : Int32))))) ) : Option ((q_H) ⊕ (q_H)))) (fun i z => ∃ n, n + i = g_ln A p ∧ z = g_ma h 31 (g_au A 0 (17 + p) 0 (nI n)) ∧ g_dn A p n = g_dn A p (g_ln A p)) (fun r => r = g_ma h 31 (g_dr p A)) (g_ln A p) (fun i z hi ⟨n, hn, e, hd⟩ => by
      subst e
      rw [m_g (by omega), g_au_eq, if_neg (nI_nle (by omega) (by omega)), show (10 : Int32) = nI 10 from rfl, pk_mul, nI_add, g_sub1 (by omega), m_of0 (by omega), g_au_ne (by omega)]
      simp only [Option.bind_some]
      obtain ⟨m, rfl⟩ : ∃ m, n = m + 1 := ⟨n - 1, by omega⟩
      rw [g_dn_s] at hd
      have ej : 10 * p + (m + 1) - 1 = 10 * p + m := by omega
      rw [ej]
      by_cases c : A 1 (10 * p + m) 0 = 0
      · rw [if_pos c] at hd
        rw [if_neg (fun y => y c), g_sub1 (by omega), g_w0 (by omega)]
        refine Or.inl ⟨_, rfl, m, by omega, ?_, hd⟩
        congr 1
        funext g i w
        unfold g_au
        by_cases d : g = 0 ∧ i = 17 + p ∧ w = 0
        · rw [if_pos d, if_pos d]; rfl
        · rw [if_neg d, if_neg d, if_neg d]
      · rw [if_neg c] at hd
        rw [if_pos c]
        refine Or.inr ⟨_, rfl, ?_⟩
        unfold g_dr
        rw [← hd])
    (fun z ⟨n, hn, e, hd⟩ => by
      subst e
      have : n = 0 := by omega
      subst this
      rw [m_g (by omega), g_au_eq, if_pos (show nI 0 ≤ 0 from Int32.le_refl _)]
      refine ⟨_, rfl, ?_⟩
      unfold g_dr
      rw [← hd]; rfl) (g_ma h 31 A) q_fu (by unfold q_fu; omega) ⟨g_ln A p, rfl, by
        congr 1
        funext g i w
        unfold g_au
        by_cases d : g = 0 ∧ i = 17 + p ∧ w = 0
        · rw [if_pos d, d.1, d.2.1, d.2.2]; exact (hl p hp).1
        · rw [if_neg d], rfl⟩
  rw [e, er]
end g_MM
theorem c_dropUnused {bb : Nat} {H : q_H} {k p : Nat} {A : g_A} (hW : g_W A) (hR : g_R bb (g_st H k) A) (hp : p < 6) : ∃ S', Pg_dropUnusedBehind k (nI p) H = some (g_cw H k S') ∧ g_R bb S' (g_dr p A) := by
  refine ⟨_, ?_, g_dr_R hW hR hp⟩
  have wl := hW.1.2.2.1
  have h10 := (wl p hp).2
  obtain ⟨rg, rt, rh, rp, rn, ri, rl, rf, rm⟩ := hR
  unfold Pg_dropUnusedBehind
  obtain ⟨r, e, er⟩ := g_lpX (body := fun s1 : Int32 × q_H => (if s1.1 < 0 then (some (.inr (s1.2))) else ((Pg_lengthOf k (nI p) s1.2).bind fun x9 => Option.bind (α := (q_H) ⊕ ((Int32 × q_H) ⊕ q_H)) (if s1.1 < x9 then ((Pg_at k ((nI p * (10 : Int32)) + s1.1) s1.2).bind fun x15 => if (s1.2.1 3 0 k x15) = 0 then ((Rp_put 4 k (nI p) s1.1 s1.2).bind fun x17 => some (.inl x17)) else (some (.inr (.inr (s1.2))))) else (some (.inl s1.2))) (fun z11 => match z11 with | .inl p21 => some (.inl ((s1.1 + (-1 : Int32)), p21)) | .inr z11 => some z11)) : Option ((Int32 × q_H) ⊕ q_H))) (fun i z => ∃ n m, m + i = 10 ∧ n ≤ m ∧ n ≤ g_ln A p ∧ z = (nI m + (-1), g_cw H k (g_su (g_st H k) 4 0 p (nI n))) ∧ g_dn A p n = g_dn A p (g_ln A p)) (fun r => r = g_cw H k (g_su (g_st H k) 4 0 p (nI (g_dn A p (g_ln A p))))) 10 (fun i z hi ⟨n, m, hm, hn, hnl, e, hd⟩ => by
      subst e
      dsimp only
      obtain ⟨m, rfl⟩ : ∃ m', m = m' + 1 := ⟨m - 1, by omega⟩
      have elen : Pg_lengthOf k (nI p) (g_cw H k (g_su (g_st H k) 4 0 p (nI n))) = some (nI n) := by
        unfold Pg_lengthOf
        rw [c_pick (n := 6) rfl rfl hp (by decide), g_cw_rd, g_su_e]
        rfl
      rw [pk_m1, if_neg (nI_pos (by omega)), elen]
      simp only [Option.bind_some]
      by_cases c : m < n
      · have hnm : n = m + 1 := by omega
        subst hnm
        rw [if_pos (nI_lt c (by omega)), show (10 : Int32) = nI 10 from rfl, pk_mul, nI_add, c_at (by omega)]
        simp only [Option.bind_some]
        rw [g_cw_rd, g_su_t (by omega), show p * 10 + m = 10 * p + m by omega]
        have hr := (rp p hp).2.2 m (by omega)
        have hiv : g_iv A (10 * p + m) = true := by rw [g_iv_pj (by omega)]; exact decide_eq_true (by omega)
        have hk : (g_st H k).1 3 0 (10 * p + m) = A 1 (10 * p + m) 0 := by
          cases f : g_fu A (10 * p + m) with
          | true => rw [(hr.1 f).1, (g_fu_iv f).2]
          | false => rw [(hr.2 f).1, if_pos hiv]
        rw [hk]
        rw [g_dn_s] at hd
        by_cases d : A 1 (10 * p + m) 0 = 0
        · rw [if_pos d] at hd
          rw [if_pos d, c_put (n := 6) rfl rfl hp (by decide), g_cw_si]
          simp only [Option.bind_some]
          refine Or.inl ⟨_, rfl, m, m, by omega, Nat.le_refl _, by omega, ?_, hd⟩
          have : g_su (g_su (g_st H k) 4 0 p (nI (m + 1))) 4 0 p (nI m) = g_su (g_st H k) 4 0 p (nI m) := by
            unfold g_su
            congr 1
            funext t f j
            dsimp only
            by_cases y : t = 4 ∧ f = 0 ∧ j = p
            · rw [if_pos y, if_pos y]
            · rw [if_neg y, if_neg y, if_neg y]
          rw [this]
        · rw [if_neg d] at hd
          rw [if_neg d]
          refine Or.inr ⟨_, rfl, ?_⟩
          rw [← hd]
      · rw [if_neg (nI_nlt (by omega) (by omega))]
        exact Or.inl ⟨_, rfl, n, m, by omega, by omega, hnl, rfl, hd⟩)
    (fun z ⟨n, m, hm, hn, hnl, e, hd⟩ => by
      subst e
      dsimp only
      have : n = 0 := by omega
      subst this
      have : m = 0 := by omega
      subst this
      rw [if_pos (show nI 0 + (-1 : Int32) < 0 by decide)]
      refine ⟨_, rfl, ?_⟩
      rw [← hd]; rfl) ((9 : Int32), H) q_fu (by unfold q_fu; omega) ⟨g_ln A p, 10, rfl, h10, Nat.le_refl _, by
        have : g_su (g_st H k) 4 0 p (nI (g_ln A p)) = g_st H k := by
          have e4 : (g_st H k).1 4 0 p = nI (g_ln A p) := (rp p hp).1.trans (wl p hp).1
          unfold g_su
          refine Prod.ext ?_ rfl
          funext t f j
          dsimp only
          by_cases y : t = 4 ∧ f = 0 ∧ j = p
          · rw [if_pos y, y.1, y.2.1, y.2.2, e4]
          · rw [if_neg y]
        rw [this, g_cw_st]; rfl, rfl⟩
  rw [← er]
  exact g_bs e
