/-! the vacuum, whole -/
def g_ff (p : Nat) (A : g_A) : g_A := g_au A 0 (23 + p) 0 (q_bi (g_cL (g_hz A) A p))
theorem g_ff_o {p g i w : Nat} {A : g_A} (h : ¬ (g = 0 ∧ i = 23 + p ∧ w = 0)) : g_ff p A g i w = A g i w := g_au_ne h
theorem g_ff_fv {p : Nat} {A : g_A} (hW : g_W A) : g_fv A (g_ff p A) := by
  obtain ⟨wt, wq, wl, wv, wc, wL, wT, wE, wF⟩ := hW.1
  have hiv : ∀ x, x < 60 → g_iv (g_ff p A) x = g_iv A x := fun x hx => by unfold g_iv g_ln; rw [g_ff_o (by omega)]
  refine ⟨⟨fun t i => g_ff_o (by omega), g_ff_o (by omega)⟩, fun t i => g_ff_o (by omega), fun i hi => g_ff_o (by omega), fun q hq => ?_, fun x hx => ?_, fun x hx f => ⟨fun w _ _ => g_ff_o (by omega), ?_, fun e => ?_⟩, fun x hx i k => ?_⟩
  · unfold g_ln
    rw [g_ff_o (by omega)]; exact wl q hq
  · unfold g_fu
    rw [hiv x hx, g_ff_o (by omega)]
  · rw [g_ff_o (by omega)]; exact (wv x hx f).2.2.2.2.2
  · rw [g_ff_o (by omega)] at e; exact wF x hx f e
  · rw [hiv x hx] at i
    rw [g_ff_o (by omega)] at k
    exact ⟨i, k, g_ff_o (by omega)⟩
theorem g_ff_W {p : Nat} {A : g_A} (hW : g_W A) : g_W (g_ff p A) := by
  have hiv : ∀ x, x < 60 → g_iv (g_ff p A) x = g_iv A x := fun x hx => by unfold g_iv g_ln; rw [g_ff_o (by omega)]
  have wg : g_wg (g_ff p A) := by unfold g_wg g_nv; rw [g_ff_o (by omega)]; exact hW.2.2.1
  exact g_same_W (g_ff_fv hW) hW wg (fun i w => g_ff_o (by omega)) (g_ff_o (by omega)) hiv (fun x hx => ⟨g_ff_o (by omega), g_ff_o (by omega)⟩) (fun i w => g_ff_o (by omega)) (g_ff_o (by omega))
theorem g_ff_R {bb p : Nat} {A : g_A} {S : g_S} (hW : g_W A) (hR : g_R bb S A) (hp : p < 6) : g_R bb (g_su S 5 0 p (q_bi (g_cL (g_hz A) A p))) (g_ff p A) := by
  have hfv := g_ff_fv (p := p) hW
  obtain ⟨rg, rt, rh, rp, rn, ri, rl, rf, rm⟩ := hR
  have eS : ∀ t f i, t ≠ 5 → (g_su S 5 0 p (q_bi (g_cL (g_hz A) A p))).1 t f i = S.1 t f i := fun t f i h => g_su_t (by omega)
  have hiv : ∀ x, x < 60 → g_iv (g_ff p A) x = g_iv A x := fun x hx => by unfold g_iv g_ln; rw [g_ff_o (by omega)]
  refine ⟨⟨?_, ?_, ?_, ?_⟩, r_t_ft rt (fun t f i a c => eS t f i (by omega)) rfl hfv.1 (fun t => hfv.2.1 t 0), ?_, fun q hq => ⟨?_, ?_, fun j hj => ?_⟩, ?_, r_i_eq ri (fun t f i a c => eS t f i (by omega)) (g_ff_o (by omega)) (fun i w => g_ff_o (by omega)), ?_, r_f_eq rf (fun t f i a c => eS t f i (by omega)) (g_ff_o (by omega)) (fun i w => g_ff_o (by omega)), fv_m hfv (g_ff_o (by omega)) (eS _ _ _ (by omega)) (fun s hs f => eS _ _ _ (by omega)) rm⟩
  · rw [eS _ _ _ (by omega), g_ff_o (by omega)]; exact rg.1
  · rw [g_ff_o (by omega), eS _ _ _ (by omega)]; exact rg.2.1
  · rw [eS _ _ _ (by omega), g_ff_o (by omega)]; exact rg.2.2.1
  · rw [eS _ _ _ (by omega), g_ff_o (by omega)]; exact rg.2.2.2
  · unfold r_h
    rw [eS _ _ _ (by omega), g_ft_hz hfv.1]; exact rh
  · rw [eS _ _ _ (by omega), g_ff_o (by omega)]; exact (rp q hq).1
  · by_cases c : q = p
    · subst c
      rw [g_su_e]
      exact g_au_eq.symm
    · rw [g_su_t (by omega), g_ff_o (by omega)]; exact (rp q hq).2.1
  · exact r_s_eq ((rp q hq).2.2 j hj) (fun f => eS _ _ _ (by omega)) (hiv _ (by omega)) (fun w => g_ff_o (by omega))
  · unfold r_n
    simp only [eS _ _ _ (show (3 : Nat) ≠ 5 by decide)]
    exact rn
  · exact (r_l_eq ⟨rl, hW.2.2.1⟩ (fun t f i h => eS _ _ _ (by omega)) (g_ff_o (by omega)) (fun i w => g_ff_o (by omega)) (fun j hj => g_ff_o (by omega))).1
theorem c_setClear {H : q_H} {k p : Nat} {b : Bool} (hp : p < 6) : Pg_setClear k (nI p) (q_bi b) H = some (g_cw H k (g_su (g_st H k) 5 0 p (q_bi b))) := by
  unfold Pg_setClear
  cases b with
  | false => rw [if_pos (show q_bi false = 0 by decide), c_put (n := 6) rfl rfl hp (by decide), g_si_cw]; rfl
  | true => rw [if_neg (show ¬ q_bi true = 0 by decide), c_put (n := 6) rfl rfl hp (by decide), g_si_cw]; rfl
/-- what is left when the passes are done -/
def g_v3 (B : g_A) : g_A := g_i6 g_ff (g_i6 (g_frz (g_hz B)) (g_i6 g_dr B 6) 60) 6
def g_v1 (A : g_A) : g_A := g_i6 (fun p A => g_pr A p) A 6
theorem g_i6_I {f : Nat → g_A → g_A} {A : g_A} {n : Nat} (I : g_A → Prop) (h0 : I A) (hs : ∀ p, p < n → ∀ B, I B → I (f p B)) : ∀ m, m ≤ n → I (g_i6 f A m) := by
  intro m
  induction m with
  | zero => intro _; exact h0
  | succ m ih => intro h; exact hs m (by omega) _ (ih (by omega))
theorem c_vacuumAll {bb b : Nat} {H : q_H} {k : Nat} {A B : g_A} (hW : g_W A) (hR : g_R bb (g_st H k) A) (hb : 1 ≤ b) (hb8 : b ≤ 8) (h01 : A 0 1 0 = nI b) (hB : g_pv (g_v1 A) b (g_Q b (g_sL (g_v1 A) 60).length) (g_sL (g_v1 A) 60) B) : (∃ S', St_vacuumAll k H = some (nI (g_sL (g_v1 A) 60).length, g_cw H k S') ∧ g_R bb S' (g_v3 B)) ∧ g_W (g_v3 B) := by
  unfold St_vacuumAll
  obtain ⟨⟨S1, e1, r1⟩, w1⟩ := c_six (H := H) (k := k) (bb := bb) (A := A) (n := 6) (f := fun p A => g_pr A p) (B := fun s1 : Int32 × q_H => (if (6 : Int32) ≤ s1.1 then (some (.inr (s1.2))) else ((St_prunePage k s1.1 s1.2).bind fun x9 => some (.inl ((s1.1 + (1 : Int32)), x9.2))) : Option ((Int32 × q_H) ⊕ (q_H)))) (rr := fun h => h) g_W (by unfold q_fu; omega) hW hR (fun p hp H' A' hW' hR' => by
      refine ⟨?_, (g_W_pr hW' hp).1⟩
      obtain ⟨S', e, r⟩ := c_prunePageR hW' hR' hp
      refine ⟨S', ?_, r⟩
      dsimp only
      rw [if_neg (show ¬ (6 : Int32) ≤ nI p from nI_ge (b := 6) hp (by decide)), e]; rfl) (fun H' => rfl)
  have e1' : g_i6 (fun p A => g_pr A p) A 6 = g_v1 A := rfl
  rw [e1'] at r1 w1
  rw [e1]
  simp only [Option.bind_some]
  have v01 : g_v1 A 0 1 0 = nI b := g_i6_I (n := 6) (fun B => g_W B ∧ B 0 1 0 = nI b) ⟨hW, h01⟩ (fun p hp B hB => ⟨(g_W_pr hB.1 hp).1, by rw [g_fk_0 (g_W_pr hB.1 hp).2.1 (by omega)]; exact hB.2⟩) 6 (Nat.le_refl _) |>.2
  obtain ⟨S2, e2, ck, cl, c3, co, c2⟩ := c_clearStubs (H := g_cw H k S1) (k := k) (b := b) (A := g_v1 A) w1.2.1.1 hb hb8 (by rw [g_cw_rd]; exact r1.1.2.1.trans v01) (fun s hs => by rw [g_st_cw]; exact r_ps r1.2.2.2.1 hs) (by rw [g_st_cw]; exact r1.2.2.2.2.2.1) (by rw [g_st_cw]; exact ⟨r1.2.2.2.2.2.2.1, w1.2.2.1⟩)
  rw [g_st_cw] at c3 co c2
  have hq := g_Q_ge (n := (g_sL (g_v1 A) 60).length) hb
  have wB := (g_pv_W w1 hB hq cl.2).2
  have rB := g_pv_R w1 r1 hB hq ck cl c3 co c2
  rw [e2, g_cw_cw]
  simp only [Option.bind_some]
  obtain ⟨⟨S3, e3, r3⟩, w3⟩ := c_six (H := g_cw H k S2) (k := k) (bb := bb) (A := B) (n := 6) (f := g_dr) (B := fun s15 : Int32 × q_H => (if (6 : Int32) ≤ s15.1 then (some (.inr (s15.2))) else ((Pg_dropUnusedBehind k s15.1 s15.2).bind fun x23 => some (.inl ((s15.1 + (1 : Int32)), x23))) : Option ((Int32 × q_H) ⊕ (q_H)))) (rr := fun h => h) g_W (by unfold q_fu; omega) wB (by rw [g_st_cw]; exact rB) (fun p hp H' A' hW' hR' => by
      refine ⟨?_, g_dr_W hW' hp⟩
      obtain ⟨S', e, r⟩ := c_dropUnused hW' hR' hp
      refine ⟨S', ?_, r⟩
      dsimp only
      rw [if_neg (show ¬ (6 : Int32) ≤ nI p from nI_ge (b := 6) hp (by decide)), e]; rfl) (fun H' => rfl)
  rw [e3, g_cw_cw]
  simp only [Option.bind_some]
  have hz3 : g_hz (g_i6 g_dr B 6) = g_hz B := g_i6_I (n := 6) (fun C => g_W C ∧ g_hz C = g_hz B) ⟨wB, rfl⟩ (fun p hp C hC => ⟨g_dr_W hC.1 hp, by rw [g_ft_hz (g_dr_fv hC.1 hp).1]; exact hC.2⟩) 6 (Nat.le_refl _) |>.2
  generalize hC : g_i6 g_dr B 6 = C at r3 w3 hz3
  unfold St_freezeOld
  obtain ⟨⟨S4, e4, r4⟩, w4⟩ := c_six (H := g_cw H k S3) (k := k) (bb := bb) (A := C) (n := 60) (f := g_frz (g_hz B)) (B := fun s1 : Int32 × q_H => (if (60 : Int32) ≤ s1.1 then (some (.inr (s1.2))) else ((Pg_at k s1.1 s1.2).bind fun x9 => Option.bind (α := q_H) (if ¬ (s1.2.1 3 0 k x9) = (1 : Int32) then (some (s1.2)) else (if ¬ (s1.2.1 3 11 k x9) = 0 then (some (s1.2)) else ((Tn_stateOf k (s1.2.1 3 6 k x9) s1.2).bind fun x15 => if x15 = (1 : Int32) then (if ((s1.2.1 6 5 k 0) - (s1.2.1 3 6 k x9)) ≤ (s1.2.1 0 6 k 0) then (some (s1.2)) else ((Lg_count k (5 : Int32) (1 : Int32) (q_si s1.2 3 11 k x9 (1 : Int32))).bind fun x17 => (Lg_tell k (5 : Int32) (x17.1 3 2 k x9) x17).bind fun x19 => some (x19))) else (some (s1.2))))) (fun p25 => some (.inl ((s1.1 + (1 : Int32)), p25)))) : Option ((Int32 × q_H) ⊕ q_H))) (rr := fun h => h) (fun D => g_W D ∧ g_hz D = g_hz B) (by unfold q_fu; omega) ⟨w3, hz3⟩ (by rw [g_st_cw]; exact r3) (fun p hp H' A' hW' hR' => by
      refine ⟨?_, (g_frz_W hW'.1 hp).1, by rw [g_ft_hz (g_frz_W hW'.1 hp).2]; exact hW'.2⟩
      obtain ⟨S', e, r⟩ := c_frz hW'.1 hR' hp
      rw [hW'.2] at r
      refine ⟨S', ?_, r⟩
      dsimp only
      rw [if_neg (show ¬ (60 : Int32) ≤ nI p from nI_ge (b := 60) hp (by decide))]
      exact e) (fun H' => rfl)
  rw [e4, g_cw_cw]
  simp only [Option.bind_some]
  generalize hD : g_i6 (g_frz (g_hz B)) C 60 = D at r4 w4
  obtain ⟨⟨S5, e5, r5⟩, w5⟩ := c_six (H := g_cw H k S4) (k := k) (bb := bb) (A := D) (n := 6) (f := g_ff) (B := fun s29 : Int32 × q_H => (if (6 : Int32) ≤ s29.1 then (some (.inr ((nI (g_sL (g_v1 A) 60).length, s29.2)))) else ((St_isClearNow k s29.1 s29.2).bind fun x37 => (Pg_setClear k s29.1 x37 s29.2).bind fun x39 => some (.inl ((s29.1 + (1 : Int32)), x39))) : Option ((Int32 × q_H) ⊕ (Int32 × q_H)))) (rr := fun h => (nI (g_sL (g_v1 A) 60).length, h)) g_W (by unfold q_fu; omega) w4.1 (by rw [g_st_cw]; exact r4) (fun p hp H' A' hW' hR' => by
      refine ⟨⟨_, ?_, g_ff_R hW' hR' hp⟩, g_ff_W hW'⟩
      dsimp only
      rw [if_neg (show ¬ (6 : Int32) ≤ nI p from nI_ge (b := 6) hp (by decide)), c_isClearNow hW' hR' hp]
      simp only [Option.bind_some]
      rw [c_setClear hp]; rfl) (fun H' => rfl)
  have ev : g_i6 g_ff D 6 = g_v3 B := by unfold g_v3; rw [hC, hD]
  rw [ev] at r5 w5
  refine ⟨⟨S5, ?_, r5⟩, w5⟩
  rw [g_cw_cw] at e5
  exact g_bs e5
