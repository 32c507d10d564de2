/-! repack -/
theorem g_sl2_u {A : g_A} {L L' : List Nat} (hW : g_W A) (ex : ∀ key row, ∃ c, g_sel A key row 60 c) (hL : g_sl2 A 60 L) (hL' : g_sl2 A 60 L') : L' = L := by
  have in_ : ∀ {M : List Nat} {i : Nat}, g_sl2 A 60 M → (i < M.length ↔ g_el M i < 60) := fun {M i} hM => by
    constructor
    · intro h; exact (g_sl2_e hM h).1
    · intro h
      by_cases d : i < M.length
      · exact d
      · rw [g_el_ge (by omega)] at h; omega
  have e : ∀ i, g_el L' i = g_el L i := by
    intro i
    induction i with
    | zero =>
      obtain ⟨c, hc⟩ := ex (-1) (-1)
      rw [← g_sel_0 hW hL hc, ← g_sel_0 hW hL' hc]
    | succ i ih =>
      by_cases d : i < L.length
      · have d' : i < L'.length := (in_ hL').mpr (by rw [ih]; exact (in_ hL).mp d)
        obtain ⟨c, hc⟩ := ex (A 1 (g_el L i) 3) (A 1 (g_el L i) 2)
        have hc' := hc
        rw [← ih] at hc'
        rw [← g_sel_s hL d hc, ← g_sel_s hL' d' hc']
      · have d' : ¬ i < L'.length := fun q => d ((in_ hL).mpr (by rw [← ih]; exact (in_ hL').mp q))
        rw [g_el_ge (by omega), g_el_ge (by omega)]
  have el : L'.length = L.length := by
    rcases Nat.lt_trichotomy L'.length L.length with q | q | q
    · have := (in_ hL).mp q
      rw [← e, g_el_ge (Nat.le_refl _)] at this; omega
    · exact q
    · have := (in_ hL').mp q
      rw [e, g_el_ge (Nat.le_refl _)] at this; omega
  refine List.ext_getElem el (fun i h1 h2 => ?_)
  rw [← g_el_lt h1, ← g_el_lt h2, e]
theorem c_layDown {H : q_H} {x s : Nat} {key : Int32} {B1 : g_A} (hx : x < 60) (h10 : q_01 (H.1 3 10 1 s) = true) (h11 : q_01 (H.1 3 11 1 s) = true) (hri : r_i (g_l3 (g_st H 0) (g_st H 1) x s) B1) (hw : g_wi B1) (hn : g_ne B1 < 60) (hk : H.1 3 3 1 s = key) : St_layDown 0 1 s (nI x) (g_cw H 0 (g_aS1 (g_st H 0) x (x % 10))) = some (g_cw H 0 (g_efS (g_eshS (g_l3 (g_st H 0) (g_st H 1) x s) (g_ne B1) (g_es B1 key x)) (g_ne B1 - g_es B1 key x) key x)) := by
  unfold St_layDown
  rw [c_at hx]
  simp only [Option.bind_some]
  rw [c_slo (by decide) h10 h11]
  simp only [Option.bind_some]
  rw [g_cw_si, g_cw_si, g_cw_si]
  have e : g_su (g_su (g_su (g_slo (g_aS1 (g_st H 0) x (x % 10)) (g_st H 1) x s) 3 10 x 0) 3 7 x (-1)) 3 8 x (-1) = g_l3 (g_st H 0) (g_st H 1) x s := rfl
  rw [e, g_cw_rn (by decide), hk, c_add hx (by rw [g_st_cw]; exact hri) hw hn, g_st_cw, g_cw_cw]
  rfl
theorem g_JS_s {A : g_A} {b i : Nat} {S0 S T : g_S} {L : List Nat} {X : g_A × (Nat → Nat)} (hW : g_W A) (hR : g_R b S0 A) (hT : ∀ f s, f < 12 → s < 60 → T.1 3 f s = S0.1 3 f s) (hL : g_sl2 A 60 L) (hi : i < L.length) (hB : g_JB A L i X) (h : g_JS S0 L X S) (hx : g_fp X.1 (A 1 (g_el L i) 5) < 60) :
    r_i (g_l3 S T (g_fp X.1 (A 1 (g_el L i) 5)) (g_el L i)) (g_l1 A (g_el L i) (g_fp X.1 (A 1 (g_el L i) 5)) X.1) ∧
    g_JS S0 L (g_lX A L i X) (g_efS (g_eshS (g_l3 S T (g_fp X.1 (A 1 (g_el L i) 5)) (g_el L i)) (g_ne (g_l1 A (g_el L i) (g_fp X.1 (A 1 (g_el L i) 5)) X.1)) (g_es (g_l1 A (g_el L i) (g_fp X.1 (A 1 (g_el L i) 5)) X.1) (A 1 (g_el L i) 3) (g_fp X.1 (A 1 (g_el L i) 5)))) (g_ne (g_l1 A (g_el L i) (g_fp X.1 (A 1 (g_el L i) 5)) X.1) - g_es (g_l1 A (g_el L i) (g_fp X.1 (A 1 (g_el L i) 5)) X.1) (A 1 (g_el L i) 3) (g_fp X.1 (A 1 (g_el L i) 5))) (A 1 (g_el L i) 3) (g_fp X.1 (A 1 (g_el L i) 5))) := by
  obtain ⟨xv, xf⟩ := g_JB_x hB hx
  have h60 := hL.2.2
  obtain ⟨s60, sf, sl⟩ := g_sl2_e hL hi
  obtain ⟨B, σ⟩ := X
  unfold g_lX
  dsimp only at xv xf hx ⊢
  generalize g_fp B (A 1 (g_el L i) 5) = x at xv xf hx ⊢
  obtain ⟨b1, bl, b3, b4, b5, ⟨bw, bn, be⟩, b7, b8⟩ := hB
  obtain ⟨h1, h2, h3, h4, h5, h6, h7⟩ := h
  dsimp only at b1 bl b3 b4 b5 bw bn be b7 b8 h4 h5 h6 h7
  have hn' : g_ne B < 60 := by omega
  obtain ⟨w1, w2, w3⟩ := g_l1_wi (A := A) (s := g_el L i) hx bw
  obtain ⟨e2, e5⟩ := g_l1_5 (A := A) (B := B) (s := g_el L i) hx
  have hri : r_i (g_l3 S T x (g_el L i)) (g_l1 A (g_el L i) x B) := r_i_eq h5 (fun t f j u v => g_l3_o (by omega) (by omega) (by omega)) e5 e2
  refine ⟨hri, ?_⟩
  obtain ⟨a1, a2, a3⟩ := r_i_add (key := A 1 (g_el L i) 3) hx hri w1 (by rw [w2]; exact hn')
  generalize g_efS (g_eshS (g_l3 S T x (g_el L i)) (g_ne (g_l1 A (g_el L i) x B)) (g_es (g_l1 A (g_el L i) x B) (A 1 (g_el L i) 3) x)) (g_ne (g_l1 A (g_el L i) x B) - g_es (g_l1 A (g_el L i) x B) (A 1 (g_el L i) 3) x) (A 1 (g_el L i) 3) x = S' at a1 a2 a3 ⊢
  obtain ⟨k1, k2, k3, k4, k5, k6, k7, k8, k9⟩ := g_l2_f (A := A) (s := g_el L i) hx bl bw hn' xv
  obtain ⟨l1, l2, l3, l4, l5, l6⟩ := g_l3_s (S := S) (T := T) (x := x) (s := g_el L i)
  have p6 : x / 10 < 6 := by omega
  unfold g_JS
  dsimp only
  refine ⟨fun t f j u3 u4 u5 u11 u12 u13 u14 => ?_, ?_, fun f => ?_, fun p hp => ?_, a1, fun y hy hf => ?_, fun y hy hf => ?_⟩
  · rw [a2 t f j u11 u12 u13 u14, g_l3_o (by omega) (by omega) (by omega)]; exact h1 t f j u3 u4 u5 u11 u12 u13 u14
  · rw [a3, g_l3_2]; exact h2
  · rw [a2 3 f 60 (by omega) (by omega) (by omega) (by omega), g_l3_o (by omega) (by omega) (by omega)]; exact h3 f
  · rw [a2 4 0 p (by omega) (by omega) (by omega) (by omega), a2 5 0 p (by omega) (by omega) (by omega) (by omega)]
    by_cases d : p = x / 10
    · subst d; exact ⟨l5.trans k8.symm, l6⟩
    · rw [g_l3_o (by omega) (by omega) (by omega), g_l3_o (by omega) (by omega) (by omega), (k7 p hp d).1]; exact h4 p hp
  · have d : y ≠ x := fun q => by rw [q, k3] at hf; cases hf
    rw [(k4 y hy d).2.1] at hf
    have e : ∀ f, S'.1 3 f y = S.1 3 f y := fun f => by rw [a2 3 f y (by omega) (by omega) (by omega) (by omega), g_l3_o (by omega) (by omega) (by omega)]
    simp only [e]
    exact h6 y hy hf
  · by_cases d : y = x
    · subst d
      rw [if_pos rfl]
      refine ⟨fun f u1 u2 u3 u4 => ?_, ?_, ?_, ?_⟩
      · rw [a2 3 f y (by omega) (by omega) (by omega) (by omega), l1 f u1 u2 u3 u4]; exact hT f _ u1 s60
      · rw [a2 3 7 y (by omega) (by omega) (by omega) (by omega)]; exact l2
      · rw [a2 3 8 y (by omega) (by omega) (by omega) (by omega)]; exact l3
      · rw [a2 3 10 y (by omega) (by omega) (by omega) (by omega)]; exact l4
    · rw [(k4 y hy d).2.1] at hf
      have e : ∀ f, S'.1 3 f y = S.1 3 f y := fun f => by rw [a2 3 f y (by omega) (by omega) (by omega) (by omega), g_l3_o (by omega) (by omega) (by omega)]
      rw [if_neg d]
      simp only [e]
      exact h7 y hy hf
theorem g_JS_0 {A : g_A} {b : Nat} {S0 : g_S} {L : List Nat} (hR : g_R b S0 A) : g_JS S0 L (g_lB A L 0) (g_su (g_sS S0 60 6) 11 3 0 0) := by
  have e : g_lB A L 0 = (g_str A, fun _ => 0) := rfl
  have o : ∀ t f j, t ≠ 3 → t ≠ 4 → t ≠ 5 → ¬ (t = 11 ∧ f = 3 ∧ j = 0) → (g_su (g_sS S0 60 6) 11 3 0 0).1 t f j = S0.1 t f j := fun t f j a b c d => by
    rw [g_su_t d]; unfold g_sS; dsimp only; rw [if_neg (by omega), if_neg (by omega)]
  have z3 : ∀ f x, x < 60 → f ≤ 11 → (g_su (g_sS S0 60 6) 11 3 0 0).1 3 f x = if f = 0 then 0 else if f = 5 ∨ f = 10 ∨ f = 11 then 0 else -1 := fun f x hx hf => by
    rw [g_su_t (by omega)]; unfold g_sS; dsimp only; rw [if_pos ⟨rfl, hx, hf⟩]
  rw [e]
  refine ⟨fun t f j a b c d _ _ _ => o t f j a b c (by omega), rfl, fun f => ?_, fun p hp => ⟨?_, ?_⟩, ⟨?_, fun i hi => ?_⟩, fun x hx _ => ⟨z3 0 x hx (by omega), z3 1 x hx (by omega), z3 2 x hx (by omega), z3 3 x hx (by omega), z3 4 x hx (by omega), z3 5 x hx (by omega), z3 6 x hx (by omega), z3 7 x hx (by omega), z3 8 x hx (by omega), z3 10 x hx (by omega), z3 11 x hx (by omega)⟩, fun x hx hf => ?_⟩
  · rw [g_su_t (by omega)]; unfold g_sS; dsimp only; rw [if_neg (by omega), if_neg (by omega)]
  · rw [g_su_t (by omega)]; unfold g_sS; dsimp only; rw [if_neg (by omega), if_pos ⟨Or.inl rfl, rfl, hp⟩, g_str_z (by omega)]
  · rw [g_su_t (by omega)]; unfold g_sS; dsimp only; rw [if_neg (by omega), if_pos ⟨Or.inr rfl, rfl, hp⟩]
  · rw [g_su_e]; exact (g_str_z (A := A) (i := 5) (by omega)).symm
  · have hi' : i < g_ne (g_str A) := hi
    rw [g_str_ne] at hi'
    omega
  · have hf' : g_fu (g_str A) x = true := hf
    rw [g_str_fu hx] at hf'; cases hf'
theorem c_layAnew {b : Nat} {H : q_H} {A : g_A} {L : List Nat} (hW : g_W A) (hR : g_R b (g_st H 0) A) (hR1 : g_R b (g_st H 1) A) (hT : ∀ f s, f < 12 → s < 60 → (g_st H 1).1 3 f s = (g_st H 0).1 3 f s) (hL : g_sl2 A 60 L) : ∃ S, r_n S ∧ (((∀ j, j < L.length → g_kP A L j) ∧ St_layAnew 0 1 H = some (1, g_cw H 0 S) ∧ g_R (b + 60) S (g_lB A L L.length).1 ∧ g_W (g_lB A L L.length).1) ∨ (¬ (∀ j, j < L.length → g_kP A L j) ∧ St_layAnew 0 1 H = some (0, g_cw H 0 S))) := by
  have h60 := hL.2.2
  have rn : ∀ {X : g_A × (Nat → Nat)} {S : g_S}, g_JS (g_st H 0) L X S → r_n S := fun h => by
    unfold r_n
    simp only [h.2.2.1]
    exact hR.2.2.2.2.1
  unfold St_layAnew
  rw [c_strip]
  simp only [Option.bind_some]
  rw [g_cw_si]
  have st1 : ∀ S, g_st (g_cw H 0 S) 1 = g_st H 1 := fun S => g_st_cn (by decide)
  obtain ⟨c0, ec0, hc0⟩ := c_lastingBehind (H := g_cw H 0 (g_su (g_sS (g_st H 0) 60 6) 11 3 0 0)) (k := 1) (key := -1) (row := -1) hW (by rw [st1]; exact hR1.2.1) (by rw [st1]; exact hR1.2.2.2.1)
  rw [ec0, g_sel_0 hW hL hc0]
  simp only [Option.bind_some]
  obtain ⟨r, er, S, hn, hr⟩ := g_lpX (body := fun s5 : Int32 × Int32 × q_H => (if (60 : Int32) ≤ s5.2.1 then (some (.inr (((1 : Int32), s5.2.2)))) else (if s5.1 = (-1 : Int32) then (some (.inr (((1 : Int32), s5.2.2)))) else ((Pg_at 1 s5.1 s5.2.2).bind fun x13 => (Pg_firstPlace 0 (s5.2.2.1 3 5 1 x13) s5.2.2).bind fun x15 => if ¬ x15 = (-1 : Int32) then ((Pg_take 0 x15 s5.2.2).bind fun x17 => (St_layDown 0 1 x13 x15 x17.2).bind fun x19 => (St_lastingBehind 1 (x19.1 3 3 1 x13) (x19.1 3 2 1 x13) x19).bind fun x21 => some (.inl (x21, (s5.2.1 + (1 : Int32)), x19))) else (some (.inr (((0 : Int32), s5.2.2)))))) : Option ((Int32 × Int32 × q_H) ⊕ (Int32 × q_H))))
    (fun i y => ∃ S, y = (g_pp (g_el L i), nI i, g_cw H 0 S) ∧ g_JB A L i (g_lB A L i) ∧ g_JS (g_st H 0) L (g_lB A L i) S ∧ ∀ j, j < i → g_kP A L j)
    (fun r => ∃ S, r_n S ∧ (((∀ j, j < L.length → g_kP A L j) ∧ r = (1, g_cw H 0 S) ∧ g_R (b + 60) S (g_lB A L L.length).1 ∧ g_W (g_lB A L L.length).1) ∨ (¬ (∀ j, j < L.length → g_kP A L j) ∧ r = (0, g_cw H 0 S)))) L.length
    (fun i y hi ⟨S, ey, hB, hS, hk⟩ => by
      subst ey
      dsimp only
      obtain ⟨s60, sf, sl⟩ := g_sl2_e hL hi
      have ep : g_pp (g_el L i) = nI (g_el L i) := if_pos s60
      have nn : ∀ n, n < 60 → ¬ nI n = -1 := fun n hn q => absurd (q ▸ nI_pos' (n := n) (by omega)) (by decide)
      rw [if_neg (show ¬ (60 : Int32) ≤ nI i from nI_ge (b := 60) (by omega) (by decide)), ep, if_neg (nn _ s60), c_at s60]
      simp only [Option.bind_some]
      obtain ⟨r0, r1, r2, r3, r4, r5, r6, r7, r8, r10, r11⟩ := (r_ps hR1.2.2.2.1 s60).1 sf
      have rd : ∀ f, ∀ S, (g_cw H 0 S).1 3 f 1 (g_el L i) = H.1 3 f 1 (g_el L i) := fun f S => g_cw_rn (by decide)
      have hP := g_JS_p hW hR hL (by omega) hB hS
      have hu : (g_cw H 0 S).1 1 4 0 0 = (g_lB A L i).1 0 0 0 := by
        rw [g_cw_rd, hS.1 1 4 0 (by omega) (by omega) (by omega) (by omega) (by omega) (by omega) (by omega), hB.1 0 0 0 (by omega) (by omega) (by omega)]
        exact hR.1.1
      rw [rd, show H.1 3 5 1 (g_el L i) = A 1 (g_el L i) 5 from r5, c_firstPlace hu (by rw [g_st_cw]; exact hP) hB.2.1]
      simp only [Option.bind_some]
      by_cases c : g_kP A L i
      · have c' : g_fp (g_lB A L i).1 (A 1 (g_el L i) 5) < 60 := c
        obtain ⟨xv, xf⟩ := g_JB_x hB c'
        have ex : g_pp (g_fp (g_lB A L i).1 (A 1 (g_el L i) 5)) = nI (g_fp (g_lB A L i).1 (A 1 (g_el L i) 5)) := if_pos c'
        obtain ⟨hri, hS'⟩ := g_JS_s (T := g_st H 1) hW hR hT hL hi hB hS c'
        have hB' := g_JB_s hL hi hB c'
        obtain ⟨w1, w2, w3⟩ := g_l1_wi (A := A) (s := g_el L i) c' hB.2.2.2.2.2.1.1
        have hn := hB.2.2.2.2.2.1.2.1
        have h01 := g_R_01 hR1 hW.1.2.2.2.1 (g_el L i) s60
        rw [ex, if_pos (nn _ c'), c_take c' (by rw [g_st_cw]; exact hP _ (by omega)) hB.2.1, g_st_cw, g_cw_cw, ← xv]
        simp only [Option.bind_some]
        have ld := c_layDown (H := g_cw H 0 S) (x := g_fp (g_lB A L i).1 (A 1 (g_el L i) 5)) (s := g_el L i) (key := A 1 (g_el L i) 3) (B1 := g_l1 A (g_el L i) (g_fp (g_lB A L i).1 (A 1 (g_el L i) 5)) (g_lB A L i).1) c' (by rw [rd]; exact h01.1) (by rw [rd]; exact h01.2) (by rw [g_st_cw, st1]; exact hri) w1 (by rw [w2]; omega) (by rw [rd]; exact r3)
        rw [g_st_cw, st1, g_cw_cw, g_cw_cw] at ld
        rw [ld]
        simp only [Option.bind_some]
        rw [rd, rd, show H.1 3 3 1 (g_el L i) = A 1 (g_el L i) 3 from r3, show H.1 3 2 1 (g_el L i) = A 1 (g_el L i) 2 from r2]
        generalize (g_efS (g_eshS (g_l3 S (g_st H 1) (g_fp (g_lB A L i).1 (A 1 (g_el L i) 5)) (g_el L i)) (g_ne (g_l1 A (g_el L i) (g_fp (g_lB A L i).1 (A 1 (g_el L i) 5)) (g_lB A L i).1)) (g_es (g_l1 A (g_el L i) (g_fp (g_lB A L i).1 (A 1 (g_el L i) 5)) (g_lB A L i).1) (A 1 (g_el L i) 3) (g_fp (g_lB A L i).1 (A 1 (g_el L i) 5)))) (g_ne (g_l1 A (g_el L i) (g_fp (g_lB A L i).1 (A 1 (g_el L i) 5)) (g_lB A L i).1) - g_es (g_l1 A (g_el L i) (g_fp (g_lB A L i).1 (A 1 (g_el L i) 5)) (g_lB A L i).1) (A 1 (g_el L i) 3) (g_fp (g_lB A L i).1 (A 1 (g_el L i) 5))) (A 1 (g_el L i) 3) (g_fp (g_lB A L i).1 (A 1 (g_el L i) 5))) = S' at hS' ⊢
        obtain ⟨c1, ec1, hc1⟩ := c_lastingBehind (H := g_cw H 0 S') (k := 1) (key := A 1 (g_el L i) 3) (row := A 1 (g_el L i) 2) hW (by rw [st1]; exact hR1.2.1) (by rw [st1]; exact hR1.2.2.2.1)
        rw [ec1, g_sel_s hL hi hc1]
        simp only [Option.bind_some]
        refine Or.inl ⟨_, rfl, S', by rw [show nI i + (1 : Int32) = nI (i + 1) from nI_1 i], hB', hS', fun j hj => ?_⟩
        by_cases d : j = i
        · rw [d]; exact c
        · exact hk j (by omega)
      · rw [if_neg (fun q => q (g_pp1.mpr c))]
        exact Or.inr ⟨_, rfl, S, rn hS, Or.inr ⟨fun q => c (q i hi), rfl⟩⟩)
    (fun y ⟨S, ey, hB, hS, hk⟩ => by
      subst ey
      dsimp only
      have e1 : g_pp (g_el L L.length) = -1 := by rw [g_el_ge (Nat.le_refl _)]; rfl
      have both : (if (60 : Int32) ≤ nI L.length then (some (.inr (((1 : Int32), g_cw H 0 S)))) else (if g_pp (g_el L L.length) = (-1 : Int32) then (some (.inr (((1 : Int32), g_cw H 0 S)))) else ((Pg_at 1 (g_pp (g_el L L.length)) (g_cw H 0 S)).bind fun x13 => (Pg_firstPlace 0 ((g_cw H 0 S).1 3 5 1 x13) (g_cw H 0 S)).bind fun x15 => if ¬ x15 = (-1 : Int32) then ((Pg_take 0 x15 (g_cw H 0 S)).bind fun x17 => (St_layDown 0 1 x13 x15 x17.2).bind fun x19 => (St_lastingBehind 1 (x19.1 3 3 1 x13) (x19.1 3 2 1 x13) x19).bind fun x21 => some (.inl (x21, (nI L.length + (1 : Int32)), x19))) else (some (.inr (((0 : Int32), g_cw H 0 S)))))) : Option ((Int32 × Int32 × q_H) ⊕ (Int32 × q_H))) = some (.inr ((1 : Int32), g_cw H 0 S)) := by
        by_cases d : (60 : Int32) ≤ nI L.length
        · rw [if_pos d]
        · rw [if_neg d, if_pos e1]
      rw [both]
      exact ⟨_, rfl, S, rn hS, Or.inl ⟨hk, rfl, g_JS_R hW hR hL (Nat.le_refl _) hB hS, g_JB_W hW hL (Nat.le_refl _) hB⟩⟩) (g_pp (g_el L 0), (0 : Int32), g_cw H 0 (g_su (g_sS (g_st H 0) 60 6) 11 3 0 0)) q_fu (by unfold q_fu; omega) ⟨_, rfl, g_JB_0, g_JS_0 hR, fun j hj => absurd hj (Nat.not_lt_zero j)⟩
  rw [er]
  simp only [Option.bind_some]
  refine ⟨S, hn, ?_⟩
  rcases hr with ⟨a1, a2, a3, a4⟩ | ⟨a1, a2⟩
  · exact Or.inl ⟨a1, by rw [a2], a3, a4⟩
  · exact Or.inr ⟨a1, by rw [a2]⟩
theorem g_f37_M {h hh : q_H} (x : g_f37 h hh) : g_fM h hh := ⟨fun t f k i n => x.1 t f k i (fun q => n ⟨q.2.2, Or.inl ⟨q.2.1, by omega⟩⟩), x.2⟩
theorem c1_lB {A : g_A} {L : List Nat} : ∀ i, (∀ j, j < i → g_kP A L j) → g_c1 (g_lB A L i).1 := fun i => by
  induction i with
  | zero =>
    intro _ p hp
    have : (g_lB A L 0).1 0 (23 + p) 0 = 0 := if_pos ⟨rfl, rfl, by omega⟩
    rw [this]; exact Or.inl rfl
  | succ i ih =>
    intro hk
    have hi := ih (fun j hj => hk j (by omega))
    have := hk i (by omega)
    exact c1_ent (c1_eq (fun x hx => Or.inr (by unfold g_l1; rw [g_au_ne (by omega), g_au_ne (by omega)])) (c1_fil this hi))
theorem act_repack {b : Nat} {A : g_A} {H : q_H} (hW : g_W A) (hR : g_R b (g_st H 0) A) (hn : r_n (g_st H 1)) : g_act (b + 60) A H (Rp_repack H) Mo_repackNow := by
  have hR' := g_R_mono hR (show b ≤ b + 60 by omega)
  have wt := hW.1.1
  unfold Rp_repack
  rw [c_openMany hR.2.1 wt]
  simp only [Option.bind_some]
  cases ho : g_ao A with
  | true =>
    rw [if_neg (fun q => by rw [(g_ao_om wt).mp q] at ho; cases ho), e_refuse]
    refine act_ref hR' hW (by decide) (fun h => ?_)
    unfold Mo_repackNow
    rw [m_isAnyOpen wt, ho]; rfl
  | false =>
    rw [if_pos ((g_ao_om wt).mpr ho), c_copyFrom (by decide) (g_R_01 hR hW.1.2.2.2.1)]
    simp only [Option.bind_some]
    have hS1 : g_R b (g_cpS (g_st H 1) (g_st H 0)) A := g_R_cp hR hn hW
    have f1H : g_f1 H (g_cw H 1 (g_cpS (g_st H 1) (g_st H 0))) := g_f1_cw (fun q => r_n_cp q)
    have st0 : g_st (g_cw H 1 (g_cpS (g_st H 1) (g_st H 0))) 0 = g_st H 0 := g_st_cn (by decide)
    have st1 : g_st (g_cw H 1 (g_cpS (g_st H 1) (g_st H 0))) 1 = g_cpS (g_st H 1) (g_st H 0) := g_st_cw
    generalize g_cw H 1 (g_cpS (g_st H 1) (g_st H 0)) = H1 at f1H st0 st1 ⊢
    have hR0 : g_R b (g_st H1 0) A := by rw [st0]; exact hR
    have hR1 : g_R b (g_st H1 1) A := by rw [st1]; exact hS1
    have hT : ∀ f s, f < 12 → s < 60 → (g_st H1 1).1 3 f s = (g_st H1 0).1 3 f s := fun f s hf hs => by rw [st1, st0]; exact g_cpS_r.1 f s hf hs
    obtain ⟨L, _, _, hL, _⟩ := m_repackNow (h := H) hW ho
    have ex : ∀ key row, ∃ c, g_sel A key row 60 c := fun key row => by
      obtain ⟨c, _, hc⟩ := c_lastingBehind (H := H) (k := 0) (key := key) (row := row) hW hR.2.1 hR.2.2.2.1
      exact ⟨c, hc⟩
    have hM : ∀ h, ∃ hh, g_f37 h hh ∧ (((∀ j, j < L.length → g_kP A L j) ∧ Mo_repackNow (g_ma h 31 A) = some (g_phs (g_lB A L L.length).1, g_ma (g_ma hh 32 A) 31 (g_lB A L L.length).1)) ∨ (¬ (∀ j, j < L.length → g_kP A L j) ∧ Mo_repackNow (g_ma h 31 A) = some (-1, q_si (g_ma (g_ma hh 32 A) 31 A) 30 6 7 0 5))) := fun h => by
      obtain ⟨L', hh, hf, hL', hr⟩ := m_repackNow (h := h) hW ho
      have := g_sl2_u hW ex hL hL'
      subst this
      exact ⟨hh, hf, hr⟩
    obtain ⟨S, rn, hc⟩ := c_layAnew hW hR0 hR1 hT hL
    rcases hc with ⟨hk, e, hR2, hW2⟩ | ⟨hk, e⟩
    · rw [e]
      simp only [Option.bind_some]
      rw [if_pos (by decide), c_howManyHaveSlots (A := (g_lB A L L.length).1) (by rw [g_st_cw]; exact hR2.2.2.2.1) hW2.1.2.2.1]
      simp only [Option.bind_some]
      rw [e_answer]
      obtain ⟨c, c1, c2, c3⟩ := g_cnt (P := fun p => decide (0 < g_ln (g_lB A L L.length).1 p)) (i0 := 0) (n := 6) (by decide)
      refine act_ans2 f1H hR2 hW2 ?_ (fun _ => c1_lB _ hk) (fun h => ?_)
      · unfold g_phs
        rw [c2]; exact nI_pos' (by omega)
      · obtain ⟨hh, hf, hr⟩ := hM h
        rcases hr with ⟨_, q⟩ | ⟨q, _⟩
        · exact ⟨_, q, g_fM_tr (g_f37_M hf) (g_fM_a (Or.inl rfl)), by rw [g_ma_ne (by decide)]; exact hf.1 _ _ _ _ (by omega)⟩
        · exact absurd hk q
    · rw [e]
      simp only [Option.bind_some]
      have r1 : g_R b (g_st (g_cw H1 0 S) 1) A := by rw [g_st_cn (by decide)]; exact hR1
      rw [if_neg (by decide), c_copyFrom (by decide) (g_R_01 r1 hW.1.2.2.2.1), g_st_cw, g_st_cn (by decide), g_cw_cw]
      simp only [Option.bind_some]
      rw [e_refuse]
      refine act_ref2 f1H (g_R_mono (g_R_cp hR1 rn hW) (show b ≤ b + 60 by omega)) hW (by decide) (fun h => ?_)
      obtain ⟨hh, hf, hr⟩ := hM h
      rcases hr with ⟨q, _⟩ | ⟨_, q⟩
      · exact absurd q hk
      · exact ⟨_, q, g_fM_tr (g_f37_M hf) (g_fM_a (Or.inl rfl))⟩
