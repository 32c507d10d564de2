/-! all laid anew in the component -/
theorem c_take {H : q_H} {k s : Nat} {A : g_A} (hs : s < 60) (hP : r_p (g_st H k) A (s / 10)) (hl : g_wl A) : Pg_take k (nI s) H = some (if g_ln A (s / 10) ≤ s % 10 then 0 else 1, g_cw H k (g_aS1 (g_st H k) s (g_ln A (s / 10)))) := by
  have hp : s / 10 < 6 := by omega
  have h10 := (hl (s / 10) hp).2
  unfold Pg_take g_aS1
  rw [c_pageOf hs, c_slotOf hs]
  simp only [Option.bind_some]
  rw [c_lengthOf hp hP hl]
  simp only [Option.bind_some]
  by_cases c : g_ln A (s / 10) ≤ s % 10
  · rw [if_pos (nI_le c (by omega)), if_pos c, if_pos c]
    simp only [Option.bind_some]
    rw [if_neg (fun q => q trivial), c_put (n := 6) rfl rfl hp (by decide)]
    simp only [Option.bind_some]
    rw [c_at hs]
    simp only [Option.bind_some]
    rw [c_empty, g_si_cw, g_st_cw, g_cw_cw]
    simp only [Option.bind_some]
    rw [c_setClear0 hp, g_st_cw, g_cw_cw]
    rfl
  · rw [if_neg (nI_ge (by omega) (by omega)), if_neg c, if_neg c]
    simp only [Option.bind_some]
    rw [if_pos (by decide), c_at hs]
    simp only [Option.bind_some]
    rw [c_empty]
    simp only [Option.bind_some]
    rw [c_setClear0 hp, g_st_cw, g_cw_cw]
    rfl
def g_slo (D T : g_S) (x s : Nat) : g_S := (fun a b c => if a = 3 ∧ b < 12 ∧ c = x then T.1 3 b s else D.1 a b c, D.2)
theorem c_slo {H : q_H} {k k1 x s : Nat} {D : g_S} (hk : k1 ≠ k) (h10 : q_01 (H.1 3 10 k1 s) = true) (h11 : q_01 (H.1 3 11 k1 s) = true) : Sl_copyFrom k x k1 s (g_cw H k D) = some (g_cw H k (g_slo D (g_st H k1) x s)) := by
  unfold Sl_copyFrom
  simp only [Option.bind_some, g_rdn hk, g_cw_rn hk, h10, h11, cond_true]
  congr 1
  rw [g_cw_si, g_cw_si, g_cw_si, g_cw_si, g_cw_si, g_cw_si, g_cw_si, g_cw_si, g_cw_si, g_cw_si, g_cw_si, g_cw_si]
  congr 1
  refine Prod.ext ?_ rfl
  funext a b c
  unfold g_su g_slo g_st
  dsimp only
  by_cases e : a = 3 ∧ c = x
  · obtain ⟨rfl, rfl⟩ := e
    by_cases hb : b < 12
    · have : b = 0 ∨ b = 1 ∨ b = 2 ∨ b = 3 ∨ b = 4 ∨ b = 5 ∨ b = 6 ∨ b = 7 ∨ b = 8 ∨ b = 9 ∨ b = 10 ∨ b = 11 := by omega
      rcases this with rfl | rfl | rfl | rfl | rfl | rfl | rfl | rfl | rfl | rfl | rfl | rfl <;> simp
    · rw [if_neg (by omega), if_neg (by omega), if_neg (by omega), if_neg (by omega), if_neg (by omega), if_neg (by omega), if_neg (by omega), if_neg (by omega), if_neg (by omega), if_neg (by omega), if_neg (by omega), if_neg (by omega), if_neg (by omega)]
  · rw [if_neg (fun q => e ⟨q.1, q.2.2⟩), if_neg (fun q => e ⟨q.1, q.2.2⟩), if_neg (fun q => e ⟨q.1, q.2.2⟩), if_neg (fun q => e ⟨q.1, q.2.2⟩), if_neg (fun q => e ⟨q.1, q.2.2⟩), if_neg (fun q => e ⟨q.1, q.2.2⟩), if_neg (fun q => e ⟨q.1, q.2.2⟩), if_neg (fun q => e ⟨q.1, q.2.2⟩), if_neg (fun q => e ⟨q.1, q.2.2⟩), if_neg (fun q => e ⟨q.1, q.2.2⟩), if_neg (fun q => e ⟨q.1, q.2.2⟩), if_neg (fun q => e ⟨q.1, q.2.2⟩), if_neg (fun q => e ⟨q.1, q.2.2⟩)]
def g_l3 (S T : g_S) (x s : Nat) : g_S := g_su (g_su (g_su (g_slo (g_aS1 S x (x % 10)) T x s) 3 10 x 0) 3 7 x (-1)) 3 8 x (-1)
theorem g_l3_o {S T : g_S} {x s t f i : Nat} (h3 : ¬ (t = 3 ∧ i = x)) (h4 : ¬ (t = 4 ∧ i = x / 10)) (h5 : ¬ (t = 5 ∧ i = x / 10)) : (g_l3 S T x s).1 t f i = S.1 t f i := by
  unfold g_l3
  rw [g_su_t (by omega), g_su_t (by omega), g_su_t (by omega)]
  unfold g_slo
  dsimp only
  rw [if_neg (by omega), g_aS1_o h3 h4 h5]
theorem g_l3_s {S T : g_S} {x s : Nat} : (∀ f, f < 12 → f ≠ 7 → f ≠ 8 → f ≠ 10 → (g_l3 S T x s).1 3 f x = T.1 3 f s) ∧ (g_l3 S T x s).1 3 7 x = -1 ∧ (g_l3 S T x s).1 3 8 x = -1 ∧ (g_l3 S T x s).1 3 10 x = 0 ∧ (g_l3 S T x s).1 4 0 (x / 10) = nI (x % 10 + 1) ∧ (g_l3 S T x s).1 5 0 (x / 10) = 0 := by
  unfold g_l3
  refine ⟨fun f hf a b c => ?_, ?_, ?_, ?_, ?_, ?_⟩
  · rw [g_su_t (by omega), g_su_t (by omega), g_su_t (by omega)]
    unfold g_slo; dsimp only; rw [if_pos ⟨rfl, hf, rfl⟩]
  · rw [g_su_t (by omega), g_su_e]
  · rw [g_su_e]
  · rw [g_su_t (by omega), g_su_t (by omega), g_su_e]
  · rw [g_su_t (by omega), g_su_t (by omega), g_su_t (by omega)]
    unfold g_slo; dsimp only; rw [if_neg (by omega)]
    unfold g_aS1
    rw [g_su_t (by omega), g_emp_t (by omega), if_pos (Nat.le_refl _), g_su_e]
    exact nI_1 _
  · rw [g_su_t (by omega), g_su_t (by omega), g_su_t (by omega)]
    unfold g_slo; dsimp only; rw [if_neg (by omega)]
    unfold g_aS1
    rw [g_su_e]
theorem g_l3_2 {S T : g_S} {x s : Nat} : (g_l3 S T x s).2 = S.2 := by
  unfold g_l3 g_su g_slo g_aS1 g_su g_emp
  dsimp only
  by_cases c : x % 10 ≤ x % 10
  · rw [if_pos c]
  · exact absurd (Nat.le_refl _) c
/-- a store with nothing laid -/
def g_sS (S : g_S) (n m : Nat) : g_S := (fun t f j => if t = 3 ∧ j < n ∧ f ≤ 11 then (if f = 0 then 0 else if f = 5 ∨ f = 10 ∨ f = 11 then 0 else -1) else if (t = 4 ∨ t = 5) ∧ f = 0 ∧ j < m then 0 else S.1 t f j, S.2)
theorem c_strip {H : q_H} {k : Nat} : Pg_strip k H = some (g_cw H k (g_sS (g_st H k) 60 6)) := by
  unfold Pg_strip
  have l1 : q_lp (fun s1 : Int32 × q_H => (if (60 : Int32) ≤ s1.1 then (some (.inr (s1.2))) else ((Pg_at k s1.1 s1.2).bind fun x9 => (Sl_empty k x9 (0 : Int32) s1.2).bind fun x11 => some (.inl ((s1.1 + (1 : Int32)), x11))) : Option ((Int32 × q_H) ⊕ (q_H)))) q_fu (((0 : Int32), H) : Int32 × q_H) = some (g_cw H k (g_sS (g_st H k) 60 0)) := by
    have e0 : (((0 : Int32), H) : Int32 × q_H) = (nI 0, g_cw H k (g_sS (g_st H k) 0 0)) := by
      have : g_sS (g_st H k) 0 0 = g_st H k := by
        unfold g_sS
        refine Prod.ext ?_ rfl
        funext t f j
        dsimp only
        rw [if_neg (by omega), if_neg (by omega)]
      rw [this, g_cw_st]; rfl
    rw [e0]
    refine g_lp (fun i => (nI i, g_cw H k (g_sS (g_st H k) i 0))) _ 60 (fun i hi => ?_) ?_ q_fu (by decide)
    · dsimp only
      rw [if_neg (show ¬ (60 : Int32) ≤ nI i from nI_ge (b := 60) (by omega) (by decide)), c_at hi]
      simp only [Option.bind_some]
      rw [c_empty, g_st_cw, g_cw_cw]
      simp only [Option.bind_some]
      rw [show nI i + (1 : Int32) = nI (i + 1) from nI_1 i]
      have : g_emp (g_sS (g_st H k) i 0) i 0 = g_sS (g_st H k) (i + 1) 0 := by
        unfold g_emp g_sS
        refine Prod.ext ?_ rfl
        funext t f j
        dsimp only
        by_cases a : t = 3 ∧ j = i ∧ f ≤ 11
        · rw [if_pos a, if_pos (show t = 3 ∧ j < i + 1 ∧ f ≤ 11 by omega)]
        · rw [if_neg a]
          by_cases b : t = 3 ∧ j < i ∧ f ≤ 11
          · rw [if_pos b, if_pos (show t = 3 ∧ j < i + 1 ∧ f ≤ 11 by omega)]
          · rw [if_neg b, if_neg (show ¬ (t = 3 ∧ j < i + 1 ∧ f ≤ 11) by omega)]
      rw [this]
    · dsimp only
      rw [if_pos (show (60 : Int32) ≤ nI 60 by decide)]
  rw [l1]
  simp only [Option.bind_some]
  refine g_bs ?_
  have e0 : (((0 : Int32), g_cw H k (g_sS (g_st H k) 60 0)) : Int32 × q_H) = (nI 0, g_cw H k (g_sS (g_st H k) 60 0)) := rfl
  rw [e0]
  refine g_lp (fun i => (nI i, g_cw H k (g_sS (g_st H k) 60 i))) _ 6 (fun i hi => ?_) ?_ q_fu (by decide)
  · dsimp only
    rw [if_neg (show ¬ (6 : Int32) ≤ nI i from nI_ge (b := 6) (by omega) (by decide)), c_put (n := 6) rfl rfl hi (by decide)]
    simp only [Option.bind_some]
    rw [c_put (n := 6) rfl rfl hi (by decide)]
    simp only [Option.bind_some]
    rw [show nI i + (1 : Int32) = nI (i + 1) from nI_1 i, g_cw_si, g_cw_si]
    have : g_su (g_su (g_sS (g_st H k) 60 i) 4 0 i 0) 5 0 i 0 = g_sS (g_st H k) 60 (i + 1) := by
      unfold g_su g_sS
      refine Prod.ext ?_ rfl
      funext t f j
      dsimp only
      by_cases a : t = 5 ∧ f = 0 ∧ j = i
      · rw [if_pos a, if_neg (by omega), if_pos (by omega)]
      · rw [if_neg a]
        by_cases b : t = 4 ∧ f = 0 ∧ j = i
        · rw [if_pos b, if_neg (by omega), if_pos (by omega)]
        · rw [if_neg b]
          by_cases c : t = 3 ∧ j < 60 ∧ f ≤ 11
          · rw [if_pos c, if_pos c]
          · rw [if_neg c, if_neg c]
            by_cases d : (t = 4 ∨ t = 5) ∧ f = 0 ∧ j < i
            · rw [if_pos d, if_pos (by omega)]
            · rw [if_neg d, if_neg (by omega)]
    rw [this]
  · dsimp only
    rw [if_pos (show (6 : Int32) ≤ nI 6 by decide)]
/-- how the component holds what is laid -/
def g_JS (S0 : g_S) (L : List Nat) (X : g_A × (Nat → Nat)) (S : g_S) : Prop :=
  (∀ t f j, t ≠ 3 → t ≠ 4 → t ≠ 5 → t ≠ 11 → t ≠ 12 → t ≠ 13 → t ≠ 14 → S.1 t f j = S0.1 t f j) ∧ S.2 = S0.2 ∧ (∀ f, S.1 3 f 60 = S0.1 3 f 60) ∧
  (∀ p, p < 6 → S.1 4 0 p = X.1 0 (17 + p) 0 ∧ S.1 5 0 p = 0) ∧ r_i S X.1 ∧
  (∀ x, x < 60 → g_fu X.1 x = false → S.1 3 0 x = 0 ∧ S.1 3 1 x = -1 ∧ S.1 3 2 x = -1 ∧ S.1 3 3 x = -1 ∧ S.1 3 4 x = -1 ∧ S.1 3 5 x = 0 ∧ S.1 3 6 x = -1 ∧ S.1 3 7 x = -1 ∧ S.1 3 8 x = -1 ∧ S.1 3 10 x = 0 ∧ S.1 3 11 x = 0) ∧
  (∀ x, x < 60 → g_fu X.1 x = true → (∀ f, f < 12 → f ≠ 7 → f ≠ 8 → f ≠ 10 → S.1 3 f x = S0.1 3 f (g_el L (X.2 x))) ∧ S.1 3 7 x = -1 ∧ S.1 3 8 x = -1 ∧ S.1 3 10 x = 0)
theorem g_JS_p {A : g_A} {b i : Nat} {S0 S : g_S} {L : List Nat} {X : g_A × (Nat → Nat)} (hW : g_W A) (hR : g_R b S0 A) (hL : g_sl2 A 60 L) (hi : i ≤ L.length) (hB : g_JB A L i X) (h : g_JS S0 L X S) : ∀ p, p < 6 → r_p S X.1 p := fun p hp => by
  obtain ⟨h1, h2, h3, h4, h5, h6, h7⟩ := h
  refine ⟨(h4 p hp).1, (h4 p hp).2.trans (hB.2.2.1 p hp).symm, fun j hj => ⟨fun f => ?_, fun f => ?_⟩⟩
  · have hx : 10 * p + j < 60 := by omega
    obtain ⟨q1, q2, q3, q4, q5, q6⟩ := hB.2.2.2.2.2.2.1 _ hx f
    obtain ⟨s60, sf, sl⟩ := g_sl2_e hL (i := X.2 (10 * p + j)) (by omega)
    obtain ⟨r0, r1, r2, r3, r4, r5, r6, r7, r8, r10, r11⟩ := (r_ps hR.2.2.2.1 s60).1 sf
    obtain ⟨e1, e2, e3, e4⟩ := h7 _ hx f
    refine ⟨?_, ?_, ?_, ?_, ?_, ?_, ?_, e2.trans q3.symm, ?_, e4.trans q6.symm, ?_⟩
    · rw [e1 0 (by omega) (by omega) (by omega) (by omega)]; exact r0
    · rw [e1 1 (by omega) (by omega) (by omega) (by omega)]; exact r1
    · rw [e1 2 (by omega) (by omega) (by omega) (by omega), q2 2 (by omega)]; exact r2
    · rw [e1 3 (by omega) (by omega) (by omega) (by omega), q2 3 (by omega)]; exact r3
    · rw [e1 4 (by omega) (by omega) (by omega) (by omega), q2 4 (by omega)]; exact r4
    · rw [e1 5 (by omega) (by omega) (by omega) (by omega), q2 5 (by omega)]; exact r5
    · rw [e1 6 (by omega) (by omega) (by omega) (by omega), q2 6 (by omega)]; exact r6
    · rw [e3, q4]; rfl
    · rw [e1 11 (by omega) (by omega) (by omega) (by omega), q2 11 (by omega)]; exact r11
  · have hx : 10 * p + j < 60 := by omega
    have hv : g_iv X.1 (10 * p + j) = false := by
      cases q : g_iv X.1 (10 * p + j) with
      | false => rfl
      | true => rw [hB.2.2.2.2.1 _ hx q] at f; cases f
    obtain ⟨e0, e1, e2, e3, e4, e5, e6, e7, e8, e10, e11⟩ := h6 _ hx f
    rw [hv]
    exact ⟨e0, e1, e2, e3, e4, e5, e6, e7, e8, e10, e11⟩
theorem g_JS_R {A : g_A} {b i : Nat} {S0 S : g_S} {L : List Nat} {X : g_A × (Nat → Nat)} (hW : g_W A) (hR : g_R b S0 A) (hL : g_sl2 A 60 L) (hi : i ≤ L.length) (hB : g_JB A L i X) (h : g_JS S0 L X S) : g_R (b + 60) S X.1 := by
  have hP := g_JS_p hW hR hL hi hB h
  have h60 := hL.2.2
  obtain ⟨B, σ⟩ := X
  obtain ⟨h1, h2, h3, h4, h5, h6, h7⟩ := h
  obtain ⟨b1, bl, b3, b4, b5, ⟨bw, bn, be⟩, b7, b8⟩ := hB
  dsimp only at b1 bl b3 b4 b5 bw bn be b7 b8 h5 h7 hP ⊢
  obtain ⟨rg, rt, rh, rp, rn, ri, rl, rf, ⟨⟨x, y, m1, m2, m3, m4, m5⟩, m6⟩⟩ := id hR
  have hft : g_ft A B := ⟨fun t j => b1 3 t j (by omega) (by omega) (by omega), b1 0 4 0 (by omega) (by omega) (by omega)⟩
  have f0 : ∀ f j, S.1 0 f j = S0.1 0 f j := fun f j => h1 0 f j (by omega) (by omega) (by omega) (by omega) (by omega) (by omega) (by omega)
  have c0 : ∀ j, ¬ (j = 5 ∨ j = 8 ∨ (17 ≤ j ∧ j < 29)) → B 0 j 0 = A 0 j 0 := fun j hj => b1 0 j 0 (by omega) (by omega) (by omega)
  refine ⟨⟨?_, ?_, ?_, ?_⟩, r_t_ft rt (fun t f j u v => h1 t f j (by omega) (by omega) (by omega) (by omega) (by omega) (by omega) (by omega)) h2 hft (fun t => b1 6 t 0 (by omega) (by omega) (by omega)), ?_, hP, ?_, h5, ?_, r_f_eq rf (fun t f j u v => h1 t f j (by omega) (by omega) (by omega) (by omega) (by omega) (by omega) (by omega)) (c0 7 (by omega)) (fun j w => b1 5 j w (by omega) (by omega) (by omega)), ?_⟩
  · rw [h1 1 4 0 (by omega) (by omega) (by omega) (by omega) (by omega) (by omega) (by omega), c0 0 (by omega)]; exact rg.1
  · rw [f0, c0 1 (by omega)]; exact rg.2.1
  · rw [f0, c0 2 (by omega)]; exact rg.2.2.1
  · rw [f0, c0 3 (by omega)]; exact rg.2.2.2
  · unfold r_h
    rw [h1 6 5 0 (by omega) (by omega) (by omega) (by omega) (by omega) (by omega) (by omega), g_ft_hz hft]; exact rh
  · unfold r_n
    simp only [h3]
    exact rn
  · exact (r_l_eq ⟨rl, hW.2.2.1⟩ (fun t f j u => h1 t f j (by omega) (by omega) (by omega) (by omega) (by omega) (by omega) (by omega)) (c0 6 (by omega)) (fun j w => b1 4 j w (by omega) (by omega) (by omega)) (fun j hj => c0 (9 + j) (by omega))).1
  · have src : ∀ z, z < 60 → g_fu B z = true → g_el L (σ z) < 60 ∧ g_fu A (g_el L (σ z)) = true := fun z hz hf => by
      have := g_sl2_e hL (i := σ z) (by have := (b7 z hz hf).1; omega)
      exact ⟨this.1, this.2.1⟩
    have ce : ∀ z, z < 60 → g_fu B z = true → S.1 3 9 z = S0.1 3 9 (g_el L (σ z)) := fun z hz hf => (h7 z hz hf).1 9 (by omega) (by omega) (by omega) (by omega)
    have me : ∀ z, z < 60 → g_fu B z = true → B 1 z 12 = A 1 (g_el L (σ z)) 12 := fun z hz hf => (b7 z hz hf).2.1 12 (by omega)
    have cme : ∀ z, z < 60 → g_fu B z = true → g_cm S z = g_cm S0 (g_el L (σ z)) := fun z hz hf => by unfold g_cm; rw [ce z hz hf]
    have mme : ∀ z, z < 60 → g_fu B z = true → g_mm B z = g_mm A (g_el L (σ z)) := fun z hz hf => by unfold g_mm; rw [me z hz hf]
    refine ⟨⟨x, y + i, by rw [f0]; exact m1, by rw [b4, m2, nI_add], by omega, by omega, fun z hz hf => ?_⟩, fun z z' hz hz' hf hf' => ?_⟩
    · obtain ⟨s60, sf⟩ := src z hz hf
      obtain ⟨n1, n2, n3, n4⟩ := m5 _ s60 sf
      rw [cme z hz hf, mme z hz hf, ce z hz hf, me z hz hf]
      exact ⟨n1, n2, n3, by omega⟩
    · obtain ⟨s60, sf⟩ := src z hz hf
      obtain ⟨s60', sf'⟩ := src z' hz' hf'
      rw [cme z hz hf, mme z hz hf, cme z' hz' hf', mme z' hz' hf']
      exact m6 _ _ s60 s60' sf sf'
