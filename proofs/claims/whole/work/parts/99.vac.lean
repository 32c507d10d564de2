/-! the vacuum, whole -/
def g_ff (p : Nat) (A : g_A) : g_A := g_au A 0 (23 + p) 0 (q_bi (g_cL (g_hz A) A p))
theorem g_ff_o {p g i w : Nat} {A : g_A} (h : ¬ (g = 0 ∧ i = 23 + p ∧ w = 0)) : g_ff p A g i w = A g i w := g_au_ne h
theorem g_ff_fv {p : Nat} {A : g_A} (hW : g_W A) : g_fv A (g_ff p A) := by
  obtain ⟨wt, wq, wl, wv, wc, wL, wT, wE, wF⟩ := hW.1
  have hiv : ∀ x, x < 60 → g_iv (g_ff p A) x = g_iv A x := fun x hx => by unfold g_iv g_ln; rw [g_ff_o (by omega)]
  refine ⟨⟨fun t i => g_ff_o (by omega), g_ff_o (by omega)⟩, fun t i => g_ff_o (by omega), fun i hi => g_ff_o (by omega), fun q hq => ?_, fun x hx => ?_, fun x hx f => ⟨fun w _ _ => g_ff_o (by omega), ?_, fun e => ?_⟩, fun x hx i k => ?_⟩
  · unfold g_ln
    rw [g_ff_o (by omega)]; exact wl q hq
  · unfold g_fu
    rw [hiv x hx, g_ff_o (by omega)]
  · rw [g_ff_o (by omega)]; exact (wv x hx f).2.2.2.2.2
  · rw [g_ff_o (by omega)] at e; exact wF x hx f e
  · rw [hiv x hx] at i
    rw [g_ff_o (by omega)] at k
    exact ⟨i, k, g_ff_o (by omega)⟩
theorem g_ff_W {p : Nat} {A : g_A} (hW : g_W A) : g_W (g_ff p A) := by
  have hiv : ∀ x, x < 60 → g_iv (g_ff p A) x = g_iv A x := fun x hx => by unfold g_iv g_ln; rw [g_ff_o (by omega)]
  have wg : g_wg (g_ff p A) := by unfold g_wg g_nv; rw [g_ff_o (by omega)]; exact hW.2.2.1
  exact g_same_W (g_ff_fv hW) hW wg (fun i w => g_ff_o (by omega)) (g_ff_o (by omega)) hiv (fun x hx => ⟨g_ff_o (by omega), g_ff_o (by omega)⟩) (fun i w => g_ff_o (by omega)) (g_ff_o (by omega))
theorem g_ff_R {bb p : Nat} {A : g_A} {S : g_S} (hW : g_W A) (hR : g_R bb S A) (hp : p < 6) : g_R bb (g_su S 5 0 p (q_bi (g_cL (g_hz A) A p))) (g_ff p A) := by
  have hfv := g_ff_fv (p := p) hW
  obtain ⟨rg, rt, rh, rp, rn, ri, rl, rf, rm⟩ := hR
  have eS : ∀ t f i, t ≠ 5 → (g_su S 5 0 p (q_bi (g_cL (g_hz A) A p))).1 t f i = S.1 t f i := fun t f i h => g_su_t (by omega)
  have hiv : ∀ x, x < 60 → g_iv (g_ff p A) x = g_iv A x := fun x hx => by unfold g_iv g_ln; rw [g_ff_o (by omega)]
  refine ⟨⟨?_, ?_, ?_, ?_⟩, r_t_ft rt (fun t f i a c => eS t f i (by omega)) rfl hfv.1 (fun t => hfv.2.1 t 0), ?_, fun q hq => ⟨?_, ?_, fun j hj => ?_⟩, ?_, r_i_eq ri (fun t f i a c => eS t f i (by omega)) (g_ff_o (by omega)) (fun i w => g_ff_o (by omega)), ?_, r_f_eq rf (fun t f i a c => eS t f i (by omega)) (g_ff_o (by omega)) (fun i w => g_ff_o (by omega)), fv_m hfv (g_ff_o (by omega)) (eS _ _ _ (by omega)) (fun s hs f => eS _ _ _ (by omega)) rm⟩
  · rw [eS _ _ _ (by omega), g_ff_o (by omega)]; exact rg.1
  · rw [g_ff_o (by omega), eS _ _ _ (by omega)]; exact rg.2.1
  · rw [eS _ _ _ (by omega), g_ff_o (by omega)]; exact rg.2.2.1
  · rw [eS _ _ _ (by omega), g_ff_o (by omega)]; exact rg.2.2.2
  · unfold r_h
    rw [eS _ _ _ (by omega), g_ft_hz hfv.1]; exact rh
  · rw [eS _ _ _ (by omega), g_ff_o (by omega)]; exact (rp q hq).1
  · by_cases c : q = p
    · subst c
      rw [g_su_e]
      exact g_au_eq.symm
    · rw [g_su_t (by omega), g_ff_o (by omega)]; exact (rp q hq).2.1
  · exact r_s_eq ((rp q hq).2.2 j hj) (fun f => eS _ _ _ (by omega)) (hiv _ (by omega)) (fun w => g_ff_o (by omega))
  · unfold r_n
    simp only [eS _ _ _ (show (3 : Nat) ≠ 5 by decide)]
    exact rn
  · exact (r_l_eq ⟨rl, hW.2.2.1⟩ (fun t f i h => eS _ _ _ (by omega)) (g_ff_o (by omega)) (fun i w => g_ff_o (by omega)) (fun j hj => g_ff_o (by omega))).1
theorem c_setClear {H : q_H} {k p : Nat} {b : Bool} (hp : p < 6) : Pg_setClear k (nI p) (q_bi b) H = some (g_cw H k (g_su (g_st H k) 5 0 p (q_bi b))) := by
  unfold Pg_setClear
  cases b with
  | false => rw [if_pos (show q_bi false = 0 by decide), c_put (n := 6) rfl rfl hp (by decide), g_si_cw]; rfl
  | true => rw [if_neg (show ¬ q_bi true = 0 by decide), c_put (n := 6) rfl rfl hp (by decide), g_si_cw]; rfl
/-- what is left when the passes are done -/
def g_v3 (B : g_A) : g_A := g_i6 g_ff (g_i6 (g_frz (g_hz B)) (g_i6 g_dr B 6) 60) 6
def g_v1 (A : g_A) : g_A := g_i6 (fun p A => g_pr A p) A 6
theorem g_i6_I {f : Nat → g_A → g_A} {A : g_A} {n : Nat} (I : g_A → Prop) (h0 : I A) (hs : ∀ p, p < n → ∀ B, I B → I (f p B)) : ∀ m, m ≤ n → I (g_i6 f A m) := by
  intro m
  induction m with
  | zero => intro _; exact h0
  | succ m ih => intro h; exact hs m (by omega) _ (ih (by omega))
