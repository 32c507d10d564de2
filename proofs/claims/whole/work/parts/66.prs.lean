/-! pruneSlot, prunePage -/
theorem g_ls_goes {A : g_A} {s : Nat} (hs : s < 60) : g_ls A (g_goes A s) := ⟨g_fk_goes hs, fun x hx q => by
  have h2 := g_fu_iv q
  rw [g_fk_iv (g_fk_goes hs) hx, g_goes_k] at h2
  by_cases c : x = s ∧ (0 : Nat) = 0
  · rw [if_pos c] at h2; exact absurd h2.2 (by decide)
  · rw [if_neg c] at h2; exact g_fu_i h2.1 h2.2⟩
theorem c_cutloop {H : q_H} {k p s z : Nat} {A : g_A} (hI : g_PI A) (hz : z < 1000) (hs : s < 60) (hp : s / 10 = p) (hi : g_iv A s = true) (hk : A 1 s 0 = 2 ∨ (A 1 s 0 = 1 ∧ A 1 s 10 = 0)) (hR : r_t (g_st H k) A) (hr : ∀ j, j < 10 → r_s (g_st H k) A (10 * p + j)) (hh : H.1 6 5 k 0 = nI z) :
    q_lp (fun s12 : Int32 × Int32 × Int32 × q_H => (if (10 : Int32) ≤ s12.2.2.1 then (some (.inr ((s12.1, s12.2.1, s12.2.2.2)))) else (if s12.1 = (-1 : Int32) then (some (.inr ((s12.1, s12.2.1, s12.2.2.2)))) else ((Pg_at k s12.1 s12.2.2.2).bind fun x20 => (St_isDead k k x20 s12.2.2.2).bind fun x22 => if x22 = 0 then (some (.inr ((s12.1, s12.2.1, s12.2.2.2)))) else ((St_chainNext k s12.1 s12.2.2.2).bind fun x24 => (Pg_at k s12.1 s12.2.2.2).bind fun x26 => (Sl_empty k x26 (0 : Int32) s12.2.2.2).bind fun x28 => some (.inl (x24, (s12.2.1 + (1 : Int32)), (s12.2.2.1 + (1 : Int32)), x28))))) : Option ((Int32 × Int32 × Int32 × q_H) ⊕ (Int32 × Int32 × q_H)))) q_fu ((g_pp (g_ch A s), (0 : Int32), (0 : Int32), H) : Int32 × Int32 × Int32 × q_H)
    = some (g_pp (g_ck A z s), nI (g_cc A z s), g_cw H k (g_emv (g_st H k) A (g_ch A s) (g_cc A z s))) := by
  have hwh := (g_PI_wh hI hs hi).1
  obtain ⟨wt, wq, wl, wv, wc, wL, wT, wE, wF⟩ := id hI
  have ecc : g_fst (g_cp A z s) 0 10 = g_cc A z s := rfl
  have eck : g_ci A (g_ch A s) (g_cc A z s) = g_ck A z s := rfl
  refine (g_lpB (g_cp A z s) (fun i => (g_pp (g_ci A (g_ch A s) i), nI i, nI i, g_cw H k (g_emv (g_st H k) A (g_ch A s) i))) 0 10 (fun i => (g_pp (g_ci A (g_ch A s) i), nI i, g_cw H k (g_emv (g_st H k) A (g_ch A s) i))) ?_ (fun i a b => ?_) ?_ (by decide)).trans ?_
  · show _ = (g_pp (g_ch A s), nI 0, nI 0, g_cw H k (g_st H k))
    rw [g_cw_st]; rfl
  · dsimp only
    rw [if_neg (show ¬ (10 : Int32) ≤ nI i from nI_ge (b := 10) (by omega) (by decide))]
    by_cases c : g_ci A (g_ch A s) i < 60
    · have c0 : g_ch A s < 60 := by
        rcases Nat.eq_zero_or_pos i with q | q
        · subst q; exact c
        · by_cases d : g_ch A s < 60
          · exact d
          · rw [g_ci_60 d i q] at c; omega
      obtain ⟨p1, p2, p3⟩ := g_ci_in c0 (hwh c0) wv wc i c
      have pg : g_ch A s / 10 = s / 10 := by
        rcases hk with k2 | k1
        · obtain ⟨⟨x, hx, e⟩, _⟩ := wT s hs hi k2
          rw [g_ch_2 k2, e, g_cl (by omega)]; omega
        · rw [g_ch_1 k1.1]
      have hd : ∀ j, j < i → g_ci A (g_ch A s) j < 60 ∧ g_ci A (g_ch A s) j / 10 = p ∧ g_fu A (g_ci A (g_ch A s) j) = true := fun j hj => by
        have := g_ci_in c0 (hwh c0) wv wc j (p3 j hj).1
        exact ⟨(p3 j hj).1, by omega, this.2.1⟩
      obtain ⟨q1, q2⟩ := g_cI_rmv (c := g_ch A s) hr i hd
      have e : g_pp (g_ci A (g_ch A s) i) = nI (g_ci A (g_ch A s) i) := if_pos c
      have hR' : r_t (g_st (g_cw H k (g_emv (g_st H k) A (g_ch A s) i)) k) (g_rmv A (g_ch A s) i) := by rw [g_st_cw]; exact r_t_fk hR q1.2.1 q2.1
      have hsl : ∀ j, j < 10 → r_s (g_st (g_cw H k (g_emv (g_st H k) A (g_ch A s) i)) k) (g_rmv A (g_ch A s) i) (10 * p + j) := by rw [g_st_cw]; exact q1.1
      have hpi : 10 * p + g_ci A (g_ch A s) i % 10 = g_ci A (g_ch A s) i := by omega
      have hsi := hsl (g_ci A (g_ch A s) i % 10) (by omega)
      rw [hpi] at hsi
      have hfi : g_fu (g_rmv A (g_ch A s) i) (g_ci A (g_ch A s) i) = true := (g_rmv_fu c (fun j hj => (hd j hj).1)).mpr ⟨p2, fun ⟨j, hj, ee⟩ => by have := (p3 j hj).2; rw [← ee] at this; omega⟩
      have hh' : (g_cw H k (g_emv (g_st H k) A (g_ch A s) i)).1 6 5 k 0 = nI z := by rw [g_cw_rd, q1.2.1.1 6 5 0 (by omega) (by omega) (by omega) (by omega) (by omega) (by omega)]; exact hh
      rw [if_neg (fun q => g_pp1.mp q c), e, c_at c]
      simp only [Option.bind_some]
      rw [c_isDead hR' hsi (g_fk_wt q2.1 wt) (fun _ => g_fk_ws q2.1 (wv _ c p2)) hh' hz, hfi, g_fk_de q2.1]
      simp only [Option.bind_some]
      unfold g_cp
      rw [decide_eq_true c]
      cases g_de A z (g_ci A (g_ch A s) i) with
      | false => rw [if_pos (by rfl)]; rfl
      | true =>
        have hsl' : ∀ j, j < 10 → r_s (g_st (g_cw H k (g_emv (g_st H k) A (g_ch A s) i)) k) (g_rmv A (g_ch A s) i) (10 * (g_ci A (g_ch A s) i / 10) + j) := by
          have e2 : g_ci A (g_ch A s) i / 10 = p := by omega
          rw [e2]; exact hsl
        rw [if_neg (by decide), c_chainNext c hR' hsl' hfi (g_fk_wt q2.1 wt) (g_fk_wq q2.1 wq) (g_ls_v q2 wv), g_nn_rmv c0 (hwh c0) wv wc c]
        simp only [Option.bind_some]
        rw [c_empty, g_st_cw, g_cw_cw, nI_1, ← g_emv_s, g_ci_s, if_pos c]
        rfl
    · rw [if_pos (g_pp1.mpr c)]
      unfold g_cp
      rw [decide_eq_false c]; rfl
  · dsimp only
    rw [if_pos (show (10 : Int32) ≤ nI (0 + 10) by decide)]
  · rw [ecc, eck]
/-- what a cut makes in a store -/
def g_cuS (S : g_S) (A : g_A) (z s : Nat) : g_S := if g_cc A z s = 0 then S else g_tellS (g_su (g_emp (g_emv S A (g_ch A s) (g_cc A z s)) s (if g_ck A z s < 60 then 2 else 3)) 3 1 s (g_pp (g_ck A z s))) (if g_ck A z s < 60 then 2 else 1) (nI s)
theorem g_cI_cu {p s z : Nat} {S : g_S} {A : g_A} (hI : g_PI A) (hs : s < 60) (hp : s / 10 = p) (hi : g_iv A s = true) (hk : A 1 s 0 = 2 ∨ (A 1 s 0 = 1 ∧ A 1 s 10 = 0)) (hr : ∀ j, j < 10 → r_s S A (10 * p + j)) : g_cI p S A (g_cuS S A z s) (g_cu A z s) := by
  by_cases hn : g_cc A z s = 0
  · have e1 : g_cu A z s = A := if_pos hn
    have e2 : g_cuS S A z s = S := if_pos hn
    rw [e1, e2]; exact g_cI_rf hr
  · obtain ⟨c0, f0, pg, hD, hK, hL⟩ := g_cu_f hI hs hi hk hn
    obtain ⟨hfk, k0, k1, hx0, hx1, hxt, hfu⟩ := g_cu_k hI hs hi hk hn
    obtain ⟨q1, q2⟩ := g_cI_rmv (c := g_ch A s) hr (g_cc A z s) (fun j hj => ⟨(hD j hj).1, by have := (hD j hj).2.1; omega, (hD j hj).2.2⟩)
    have e2 : g_cuS S A z s = _ := if_neg hn
    have e1 : g_cu A z s = _ := if_neg hn
    have hiB : g_iv (g_cu A z s) s = true := by rw [g_fk_iv hfk hs]; exact hi
    have kn : ¬ g_cu A z s 1 s 0 = 1 := by
      rw [k0]
      by_cases y : g_ck A z s < 60
      · rw [if_pos y]; decide
      · rw [if_neg y]; decide
    have St : ∀ t f i, t ≠ 15 → t ≠ 16 → t ≠ 17 → ¬ (t = 3 ∧ i = s) → (g_cuS S A z s).1 t f i = (g_emv S A (g_ch A s) (g_cc A z s)).1 t f i := fun t f i a b c d => by
      rw [e2, g_tellS_t a b c, g_su_t (fun q => d ⟨q.1, q.2.2⟩)]
      unfold g_emp
      dsimp only
      rw [if_neg (fun q => d ⟨q.1, q.2.1⟩)]
    have Ss : ∀ f, f ≠ 1 → (g_cuS S A z s).1 3 f s = (g_emp (g_emv S A (g_ch A s) (g_cc A z s)) s (if g_ck A z s < 60 then 2 else 3)).1 3 f s := fun f hf => by
      rw [e2, g_tellS_t (by omega) (by omega) (by omega), g_su_t (by omega)]
    refine ⟨fun j hj => ?_, ⟨fun t f i a b c d e g => ?_, ?_⟩, fun f x hx => ?_, fun q => ?_, fun x hx f => ?_, fun q => ?_⟩
    · by_cases e : 10 * p + j = s
      · rw [e]
        have hf : g_fu (g_cu A z s) s = false := by unfold g_fu; rw [decide_eq_false kn]; simp
        obtain ⟨m0, m1, m2, m3, m4, m5, m6, m7, m8, m10, m11⟩ := g_emp_s (S := g_emv S A (g_ch A s) (g_cc A z s)) (i := s) (v := if g_ck A z s < 60 then 2 else 3)
        refine ⟨fun q => (by rw [hf] at q; cases q), fun _ => ⟨?_, ?_, ?_, ?_, ?_, ?_, ?_, ?_, ?_, ?_, ?_⟩⟩
        · rw [Ss 0 (by omega), m0, if_pos hiB, k0]
        · have : (g_cuS S A z s).1 3 1 s = g_pp (g_ck A z s) := by rw [e2, g_tellS_t (by omega) (by omega) (by omega), g_su_e]
          rw [this, k0, k1]
          by_cases y : g_ck A z s < 60
          · rw [if_pos y, if_pos y, if_pos ⟨hiB, rfl⟩, nI_add]
            have := (hK y).1
            have e3 : 10 * (s / 10) + g_ck A z s % 10 = g_ck A z s := by omega
            rw [e3]
            unfold g_pp
            rw [if_pos y]
          · rw [if_neg y, if_neg y, if_neg (fun q => absurd q.2 (by decide))]
            unfold g_pp
            rw [if_neg y]
        · rw [Ss 2 (by omega), m2]
        · rw [Ss 3 (by omega), m3]
        · rw [Ss 4 (by omega), m4]
        · rw [Ss 5 (by omega), m5]
        · rw [Ss 6 (by omega), m6]
        · rw [Ss 7 (by omega), m7]
        · rw [Ss 8 (by omega), m8]
        · rw [Ss 10 (by omega), m10]
        · rw [Ss 11 (by omega), m11]
      · refine r_s_eq (q1.1 j hj) (fun f => St 3 f _ (by omega) (by omega) (by omega) (fun q => e q.2)) ?_ (fun w => ?_)
        · rw [g_fk_iv hfk (by omega), g_fk_iv q2.1 (by omega)]
        · rw [e1, g_tell_1, g_au_ne (by omega), g_au_ne (by omega)]
    · rw [St t f i c d e (fun q => a q.1)]
      exact q1.2.1.1 t f i a b c d e g
    · rw [e2]; exact q1.2.1.2
    · rw [St 3 f x (by omega) (by omega) (by omega) (fun q => hx (by rw [q.2]; exact hp))]
      exact q1.2.2.1 f x hx
    · rw [St 5 0 q (by omega) (by omega) (by omega) (by omega)]
      exact q1.2.2.2.1 q
    · obtain ⟨f1, f2, f3⟩ := (hfu x hx).mp f
      rw [St 3 9 x (by omega) (by omega) (by omega) (fun q => f2 q.2)]
      exact q1.2.2.2.2.1 x hx ((g_rmv_fu hx (fun j hj => (hD j hj).1)).mpr ⟨f1, f3⟩)
    · rw [e1, e2]
      have a := q1.2.2.2.2.2 q
      have b := r_l_eq (S' := g_su (g_emp (g_emv S A (g_ch A s) (g_cc A z s)) s (if g_ck A z s < 60 then 2 else 3)) 3 1 s (g_pp (g_ck A z s))) (B := g_au (g_au (g_rmv A (g_ch A s) (g_cc A z s)) 1 s 0 (if g_ck A z s < 60 then 2 else 3)) 1 s 1 (if g_ck A z s < 60 then nI (g_ck A z s % 10) else -1)) a (fun t f i ht => by rw [g_su_t (by omega)]; exact g_emp_t (by omega)) (by rw [g_au_ne (by omega), g_au_ne (by omega)]) (fun i w => by rw [g_au_ne (by omega), g_au_ne (by omega)]) (fun j hj => by rw [g_au_ne (by omega), g_au_ne (by omega)])
      exact ⟨r_l_tell b.1 b.2, (g_tell_nv b.2).1⟩
theorem c_pruneSlot {H : q_H} {k p s z : Nat} {A : g_A} (hI : g_PI A) (hz : z < 1000) (hs : s < 60) (hp : s / 10 = p) (hi : g_iv A s = true) (hR : r_t (g_st H k) A) (hr : ∀ j, j < 10 → r_s (g_st H k) A (10 * p + j)) (hh : H.1 6 5 k 0 = nI z) (n : Nat) :
    St_pruneSlot k (nI s) H = some (nI ((g_p1f z s (n, A)).1 - n), g_cw H k (if A 1 s 0 = 2 ∨ (A 1 s 0 = 1 ∧ A 1 s 10 = 0) then g_cuS (g_st H k) A z s else g_st H k)) := by
  have es : 10 * p + s % 10 = s := by omega
  have hS : r_s (g_st H k) A s := by have := hr (s % 10) (by omega); rwa [es] at this
  have hsw := (g_PI_wh hI hs hi).2
  unfold St_pruneSlot
  rw [c_at hs]
  simp only [Option.bind_some]
  have e1 : (g_p1f z s (n, A)).1 - n = if A 1 s 0 = 2 ∨ (A 1 s 0 = 1 ∧ A 1 s 10 = 0) then g_cc A z s else 0 := by
    unfold g_p1f
    dsimp only
    by_cases c : A 1 s 0 = 2 ∨ (A 1 s 0 = 1 ∧ A 1 s 10 = 0)
    · rw [if_pos c, if_pos c]; dsimp only; omega
    · rw [if_neg c, if_neg c]; dsimp only; omega
  rw [e1]
  have goOn : (A 1 s 0 = 1 → A 1 s 10 = 0) → (if ¬ (H.1 3 0 k s) = (1 : Int32) then (some (Sum.inl ()) : Option (Unit ⊕ (Int32 × q_H))) else (if (H.1 3 10 k s) = 0 then (some (.inl ())) else (some (.inr (((0 : Int32), H)))))) = some (Sum.inl ()) := fun hl => by
    by_cases c : A 1 s 0 = 1
    · obtain ⟨s0, s1, s2, s3, s4, s5, s6, s7, s8, s10, s11⟩ := hS.1 (g_fu_i hi c)
      rw [if_neg (show ¬ ¬ H.1 3 0 k s = 1 from fun q => q s0), show H.1 3 10 k s = _ from s10, if_pos (hl c)]
    · rw [if_pos (show ¬ H.1 3 0 k s = 1 from fun q => c (g_fu_iv ((r_s_k1 hS).mp q)).2)]
  by_cases c : A 1 s 0 = 2 ∨ (A 1 s 0 = 1 ∧ A 1 s 10 = 0)
  · have hl : A 1 s 0 = 1 → A 1 s 10 = 0 := fun q => by
      rcases c with c | c
      · rw [c] at q; exact absurd q (by decide)
      · exact c.2
    rw [goOn hl, if_pos c, if_pos c]
    simp only [Option.bind_some]
    rw [c_chainFirst hs hS hi hsw]
    simp only [Option.bind_some]
    refine g_bd (c_cutloop hI hz hs hp hi c hR hr hh) ?_
    dsimp only
    unfold g_cuS
    have hcc := g_cc_le (A := A) (z := z) (s := s)
    by_cases c0 : g_cc A z s = 0
    · rw [if_pos c0, c0, if_neg (fun q => q (by rfl))]
      rfl
    · rw [if_neg c0, if_pos (nI_ne0 (by omega) (by omega))]
      by_cases y : g_ck A z s < 60
      · simp only [if_pos y, if_pos (show ¬ g_pp (g_ck A z s) = -1 from fun q => g_pp1.mp q y), Option.bind_some]
        rw [c_empty, g_st_cw, g_cw_cw]
        simp only [Option.bind_some]
        rw [g_cw_si, c_tell, g_st_cw, g_cw_cw]
        rfl
      · simp only [if_neg y, if_neg (show ¬ ¬ g_pp (g_ck A z s) = -1 from fun q => q (g_pp1.mpr y)), Option.bind_some]
        rw [c_empty, g_st_cw, g_cw_cw]
        simp only [Option.bind_some]
        rw [g_cw_si, c_tell, g_st_cw, g_cw_cw]
        rfl
  · rw [if_neg c, if_neg c, g_cw_st]
    by_cases d : A 1 s 0 = 1
    · obtain ⟨s0, s1, s2, s3, s4, s5, s6, s7, s8, s10, s11⟩ := hS.1 (g_fu_i hi d)
      rw [if_neg (show ¬ ¬ H.1 3 0 k s = 1 from fun q => q s0), show H.1 3 10 k s = _ from s10, if_neg (fun q => c (Or.inr ⟨d, q⟩))]; rfl
    · rw [goOn (fun q => absurd q d)]
      simp only [Option.bind_some]
      rw [c_chainFirst hs hS hi hsw]
      simp only [Option.bind_some]
      have : g_ch A s = 60 := by unfold g_ch; rw [if_neg d, if_neg (fun q => c (Or.inl q))]
      rw [this]
      rfl
theorem c_pruneSlot0 {H : q_H} {k s : Nat} {A : g_A} (hs : s < 60) (hi : g_iv A s = false) (hS : r_s (g_st H k) A s) : St_pruneSlot k (nI s) H = some (0, H) := by
  have hf : g_fu A s = false := by unfold g_fu; rw [hi]; rfl
  unfold St_pruneSlot
  rw [c_at hs]
  simp only [Option.bind_some]
  rw [if_pos (fun q => by have := (r_s_k1 hS).mp q; rw [hf] at this; cases this)]
  simp only [Option.bind_some]
  rw [c_chainFirst0 hs hS hi]
  rfl
