/-! all that holds of the rows; a store's whole picture -/
def g_we (A : g_A) : Prop := ∀ i, i < g_ne A → g_iv A (g_ep A i) = true ∧ ((A 1 (g_ep A i) 0 = 1 ∧ A 1 (g_ep A i) 10 = 0) ∨ A 1 (g_ep A i) 0 = 2 ∨ A 1 (g_ep A i) 0 = 3)
def g_n2 (A : g_A) (s : Nat) : Nat := 10 * (A 1 s 8).toNatClampNeg + (A 1 s 9).toNatClampNeg
def g_wO (A : g_A) : Prop := ∀ s, s < 60 → g_fu A s = true → g_en A s ≠ 0 → A 3 (g_en A s) 0 = 0 → A 1 s 8 ≠ -1 → g_fu A (g_n2 A s) = true ∧ A 1 (g_n2 A s) 6 = A 1 s 7
def g_PX (A : g_A) : Prop := g_wi A ∧ g_we A ∧ g_wO A
theorem g_n2_lt {A : g_A} {s : Nat} (hw : g_ws A s) (h : A 1 s 8 ≠ -1) : g_n2 A s < 60 := by
  rcases hw.2.2.2.1 with q | ⟨p, q, hp, hq, e8, e9⟩
  · exact absurd q.1 h
  · unfold g_n2; rw [e8, e9, g_cl (by omega), g_cl (by omega)]; omega
section g_FK
variable {A B : g_A}
theorem g_fk_ne (h : g_fk A B) : g_ne B = g_ne A := by unfold g_ne; rw [g_fk_0 h (by omega)]
theorem g_fk_ep (h : g_fk A B) {i : Nat} : g_ep B i = g_ep A i := by unfold g_ep; rw [g_fk_2 h, g_fk_2 h]
theorem g_fk_wi (h : g_fk A B) (w : g_wi A) : g_wi B := by
  refine ⟨by rw [g_fk_ne h, g_fk_0 h (by omega)]; exact w.1, by rw [g_fk_ne h]; exact w.2.1, fun i hi => ?_⟩
  rw [g_fk_ne h] at hi
  rw [g_fk_2 h, g_fk_2 h, g_fk_2 h]
  exact w.2.2 i hi
theorem g_fk_n2 (h : g_fk A B) {s : Nat} : g_n2 B s = g_n2 A s := by unfold g_n2; rw [g_fk_1 h (by omega), g_fk_1 h (by omega)]
end g_FK
/-- versions of one that is open are not dead -/
theorem g_alive {A : g_A} (hI : g_PI A) {s z : Nat} (hs : s < 60) (hf : g_fu A s = true) (ho : A 3 (g_mk A s) 0 = 0) : g_de A z s = false := by
  obtain ⟨wt, wq, wl, wv, wc, wL, wT, wE, wF⟩ := hI
  cases hd : g_de A z s with
  | false => rfl
  | true =>
    exfalso
    unfold g_de at hd
    simp only [Bool.or_eq_true, Bool.and_eq_true, decide_eq_true_iff] at hd
    rcases hd with hd | hd
    · rw [ho] at hd; exact absurd hd.1 (by decide)
    · rcases wE s hs hf hd.1 with y | y
      · rw [y, ho] at hd; exact absurd hd.2.1 (by decide)
      · rw [ho] at y; exact absurd y (by decide)
theorem g_PX_cu {A : g_A} (hI : g_PI A) (hX : g_PX A) {z s : Nat} (hs : s < 60) (hi : g_iv A s = true) (hk : A 1 s 0 = 2 ∨ (A 1 s 0 = 1 ∧ A 1 s 10 = 0)) : g_PX (g_cu A z s) := by
  by_cases hn : g_cc A z s = 0
  · have : g_cu A z s = A := if_pos hn
    rw [this]; exact hX
  obtain ⟨c0, f0, pg, hD, hK, hL⟩ := g_cu_f hI hs hi hk hn
  obtain ⟨hfk, k0, k1, hx0, hx1, hxt, hfu⟩ := g_cu_k hI hs hi hk hn
  obtain ⟨wi, we, wO⟩ := hX
  obtain ⟨wt, wq, wl, wv, wc, wL, wT, wE, wF⟩ := id hI
  refine ⟨g_fk_wi hfk wi, fun i hi2 => ?_, fun x hx f e0 eo e8 => ?_⟩
  · rw [g_fk_ne hfk] at hi2
    have h60 := (g_ep_lt wi hi2).1
    rw [g_fk_ep hfk, g_fk_iv hfk h60, g_fk_1 hfk (w := 10) (by omega)]
    obtain ⟨w1, w2⟩ := we i hi2
    refine ⟨w1, ?_⟩
    by_cases d : g_ep A i = s
    · rw [d, k0]
      by_cases y : g_ck A z s < 60
      · rw [if_pos y]; exact Or.inr (Or.inl rfl)
      · rw [if_neg y]; exact Or.inr (Or.inr rfl)
    · by_cases d2 : ∃ j, j < g_cc A z s ∧ g_ep A i = g_ci A (g_ch A s) j
      · exfalso
        obtain ⟨j, hj, e⟩ := d2
        have hfj := (hD j hj).2.2
        rw [← e] at hfj
        have kk := (g_fu_iv hfj).2
        rcases w2 with w2 | w2 | w2
        · rcases Nat.eq_zero_or_pos j with q | q
          · subst q
            have e : g_ep A i = g_ch A s := e
            rcases hk with k2 | k1
            · have := (wT s hs hi k2).2.2.1
              rw [← e, w2.2] at this; exact absurd this (by decide)
            · rw [g_ch_1 k1.1] at e; exact d e
          · have hj1 := g_cc_lt (A := A) (z := z) (s := s) (j := j - 1) (by omega)
            have enn : g_ep A i = g_nn A (g_ci A (g_ch A s) (j - 1)) := by
              have ej : j = j - 1 + 1 := by omega
              rw [e, ej, g_ci_s, if_pos hj1.1]; rfl
            have h60' := h60
            rw [enn] at h60'
            obtain ⟨m1, _, _, _, m5, _⟩ := g_nn_in h60'
            rw [← m1, ← enn, w2.2] at m5
            exact absurd m5 (by decide)
        · rw [kk] at w2; exact absurd w2 (by decide)
        · rw [kk] at w2; exact absurd w2 (by decide)
      · rw [hx1 _ d d2]; exact w2
  · obtain ⟨fx, d, d2⟩ := (hfu x hx).mp f
    rw [g_fk_en hfk] at e0 eo
    rw [g_fk_3 hfk] at eo
    rw [g_fk_1 hfk (by omega)] at e8
    rw [g_fk_n2 hfk, g_fk_1 hfk (by omega), g_fk_1 hfk (by omega)]
    obtain ⟨t1, t2⟩ := wO x hx fx e0 eo e8
    have n60 := g_n2_lt (wv x hx fx) e8
    have hmk : A 3 (g_mk A (g_n2 A x)) 0 = 0 := by
      have : g_mk A (g_n2 A x) = g_en A x := by unfold g_mk g_en; rw [t2]
      rw [this]; exact eo
    have hal := g_alive hI (z := z) n60 t1 hmk
    have nd : ¬ ∃ j, j < g_cc A z s ∧ g_n2 A x = g_ci A (g_ch A s) j := fun ⟨j, hj, e⟩ => by
      have := (g_cc_lt hj).2
      rw [← e, hal] at this; cases this
    refine ⟨(hfu _ n60).mpr ⟨t1, fun q => ?_, nd⟩, t2⟩
    rcases hk with k2 | k1
    · rw [q] at t1; have := (g_fu_iv t1).2; rw [k2] at this; exact absurd this (by decide)
    · exact nd ⟨0, by omega, by rw [q]; exact (g_ch_1 k1.1).symm⟩
theorem g_PX_go {A : g_A} (hI : g_PI A) (hX : g_PX A) {s : Nat} (hs : s < 60) (hf : g_fu A s = true) (hl : A 1 s 10 ≠ 0) (hg : A 3 (g_mk A s) 0 = 2) : g_PX (g_goes A s) := by
  have hfk := g_fk_goes (A := A) hs
  obtain ⟨wi, we, wO⟩ := hX
  obtain ⟨wt, wq, wl, wv, wc, wL, wT, wE, wF⟩ := id hI
  have hfu : ∀ x, x < 60 → g_fu A x = true → x ≠ s → g_fu (g_goes A s) x = true := fun x hx f d => by
    rw [g_fk_kd hfk hx (by rw [g_goes_k, if_neg (fun q => d q.1)])]; exact f
  refine ⟨g_fk_wi hfk wi, fun i hi2 => ?_, fun x hx f e0 eo e8 => ?_⟩
  · rw [g_fk_ne hfk] at hi2
    have h60 := (g_ep_lt wi hi2).1
    rw [g_fk_ep hfk, g_fk_iv hfk h60, g_fk_1 hfk (w := 10) (by omega)]
    obtain ⟨w1, w2⟩ := we i hi2
    refine ⟨w1, ?_⟩
    have d : g_ep A i ≠ s := fun q => by
      rw [q] at w2
      have kk := (g_fu_iv hf).2
      rcases w2 with w2 | w2 | w2
      · exact hl w2.2
      · rw [kk] at w2; exact absurd w2 (by decide)
      · rw [kk] at w2; exact absurd w2 (by decide)
    rw [g_goes_k, if_neg (fun q => d q.1)]; exact w2
  · have fx := (g_ls_goes (A := A) hs).2 x hx f
    rw [g_fk_en hfk] at e0 eo
    rw [g_fk_3 hfk] at eo
    rw [g_fk_1 hfk (by omega)] at e8
    rw [g_fk_n2 hfk, g_fk_1 hfk (by omega), g_fk_1 hfk (by omega)]
    obtain ⟨t1, t2⟩ := wO x hx fx e0 eo e8
    have n60 := g_n2_lt (wv x hx fx) e8
    refine ⟨hfu _ n60 t1 (fun q => ?_), t2⟩
    have : g_mk A (g_n2 A x) = g_en A x := by unfold g_mk g_en; rw [t2]
    rw [q, ] at this
    rw [this, eo] at hg; exact absurd hg (by decide)
theorem g_PX_eq {A B : g_A} (hX : g_PX A) (hv : g_wv A) (hk : g_fk A B) (h0 : ∀ s, B 1 s 0 = A 1 s 0) : g_PX B := by
  obtain ⟨wi, we, wO⟩ := hX
  have hfu : ∀ x, x < 60 → g_fu B x = g_fu A x := fun x hx => g_fk_kd hk hx (h0 x)
  refine ⟨g_fk_wi hk wi, fun i hi2 => ?_, fun x hx f e0 eo e8 => ?_⟩
  · rw [g_fk_ne hk] at hi2
    have h60 := (g_ep_lt wi hi2).1
    rw [g_fk_ep hk, g_fk_iv hk h60, g_fk_1 hk (w := 10) (by omega), h0]
    exact we i hi2
  · rw [hfu x hx] at f
    rw [g_fk_en hk] at e0 eo
    rw [g_fk_3 hk] at eo
    rw [g_fk_1 hk (by omega)] at e8
    rw [g_fk_n2 hk, g_fk_1 hk (by omega), g_fk_1 hk (by omega), hfu _ (g_n2_lt (hv x hx f) e8)]
    exact wO x hx f e0 eo e8
theorem g_PX_pr {A : g_A} (hI : g_PI A) (hX : g_PX A) {p : Nat} (hp : p < 6) : g_PX (g_pr A p) := by
  have h10 := (hI.2.2.1 p hp).2
  have l1 : ∀ i, i ≤ g_ln A p → g_PX (g_p1 A (g_hz A) p i).2 := by
    intro i
    induction i with
    | zero => intro _; exact hX
    | succ i ih =>
      intro hi
      have hc := ih (by omega)
      obtain ⟨a, b, c⟩ := g_p1_I hI (z := g_hz A) hp i (by omega)
      show g_PX (g_p1f (g_hz A) (10 * p + i) (g_p1 A (g_hz A) p i)).2
      unfold g_p1f
      by_cases d : (g_p1 A (g_hz A) p i).2 1 (10 * p + i) 0 = 2 ∨ ((g_p1 A (g_hz A) p i).2 1 (10 * p + i) 0 = 1 ∧ (g_p1 A (g_hz A) p i).2 1 (10 * p + i) 10 = 0)
      · rw [if_pos d]
        have hi' : g_iv (g_p1 A (g_hz A) p i).2 (10 * p + i) = true := by rw [g_fk_iv b.1 (by omega), g_iv_pj (by omega)]; exact decide_eq_true (by omega)
        exact g_PX_cu a hc (by omega) hi' d
      · rw [if_neg d]; exact hc
  obtain ⟨a1, b1, _⟩ := g_p1_I hI (z := g_hz A) hp (g_ln A p) (Nat.le_refl _)
  have l2 : ∀ i, i ≤ g_ln A p → g_PX (g_p2 (g_p1 A (g_hz A) p (g_ln A p)) p i).2 := by
    intro i
    induction i with
    | zero => intro _; exact l1 _ (Nat.le_refl _)
    | succ i ih =>
      intro hi
      have hc := ih (by omega)
      obtain ⟨a, b, c⟩ := g_p2_I hp h10 a1 b1 rfl i (by omega)
      show g_PX (g_p2f (10 * p + i) (g_p2 (g_p1 A (g_hz A) p (g_ln A p)) p i)).2
      generalize g_p2 (g_p1 A (g_hz A) p (g_ln A p)) p i = y at a b c hc ⊢
      unfold g_p2f
      by_cases d : y.2 1 (10 * p + i) 0 = 1 ∧ y.2 1 (10 * p + i) 10 ≠ 0 ∧ y.2 1 (10 * p + i) 11 ≠ 1 ∧ y.2 3 (g_mk y.2 (10 * p + i)) 0 = 2
      · rw [if_pos d]
        have hi' : g_iv y.2 (10 * p + i) = true := by rw [g_fk_iv b.1 (by omega), g_iv_pj (by omega)]; exact decide_eq_true (by omega)
        exact g_PX_go a hc (by omega) (g_fu_i hi' d.1) d.2.1 d.2.2.2
      · rw [if_neg d]; exact hc
  have h2 := l2 _ (Nat.le_refl _)
  obtain ⟨a2, _, _⟩ := g_pu_I hI hp
  unfold g_pr
  by_cases d : g_pn A p = 0
  · rw [if_pos d]; exact h2
  · rw [if_neg d]
    exact g_PX_eq h2 a2.2.2.2.1 (g_pt_f (p := p)).1 (fun s => (g_pt_f (p := p)).2 s 0)
/-- rows -/
def g_nr (A : g_A) : Nat := (A 0 3 0).toNatClampNeg
def g_wr (A : g_A) : Prop := A 0 3 0 = nI (g_nr A) ∧ g_nr A ≤ 40 ∧ ∀ s, s < 60 → g_fu A s = true → (∃ r, r < g_nr A ∧ A 1 s 2 = nI r) ∧ 0 ≤ A 1 s 3
def g_wb (A : g_A) : Prop := ∃ b, 1 ≤ b ∧ b ≤ 8 ∧ A 0 1 0 = nI b
def g_nf (A : g_A) : Nat := (A 0 7 0).toNatClampNeg
def g_wd (A : g_A) : Prop := A 0 7 0 = nI (g_nf A) ∧ g_nf A ≤ 60 ∧ ∀ i, i < g_nf A → ∃ p q, p < 6 ∧ q < 10 ∧ A 5 i 2 = nI p ∧ A 5 i 3 = nI q
/-- ended for good -/
def g_ed (A : g_A) (s : Nat) : Prop := g_en A s ≠ 0 ∧ A 3 (g_en A s) 0 = 1
def g_wI (A : g_A) : Prop := ∀ a b, a < 60 → b < 60 → g_fu A a = true → g_fu A b = true → A 1 a 2 = A 1 b 2 →
  (A 3 (g_mk A a) 0 = 1 → A 3 (g_mk A b) 0 = 1 → ¬ g_ed A a → ¬ g_ed A b → a = b) ∧
  (A 3 (g_mk A a) 0 ≠ 2 → A 3 (g_mk A b) 0 ≠ 2 → g_eo A a = 0 → g_eo A b = 0 → a = b) ∧
  (A 3 (g_mk A a) 0 = 0 → A 3 (g_mk A b) 0 = 1 → ¬ g_ed A b → g_en A b = g_mk A a) ∧
  (A 3 (g_mk A a) 0 = 0 → A 3 (g_mk A b) 0 = 0 → g_mk A a = g_mk A b)
def g_W (A : g_A) : Prop := g_PI A ∧ g_PX A ∧ g_wg A ∧ g_ww A ∧ g_wr A ∧ g_wb A ∧ g_wd A ∧ g_wI A
section g_LS
variable {A B : g_A}
theorem g_fk_ed (h : g_fk A B) {s : Nat} : g_ed B s ↔ g_ed A s := by unfold g_ed; rw [g_fk_en h, g_fk_3 h]
theorem g_ls_I (h : g_ls A B) (w : g_wI A) : g_wI B := fun a b ha hb fa fb e => by
  rw [g_fk_1 h.1 (by omega), g_fk_1 h.1 (by omega)] at e
  have := w a b ha hb (h.2 a ha fa) (h.2 b hb fb) e
  rw [g_fk_mk h.1, g_fk_mk h.1, g_fk_eo h.1, g_fk_eo h.1, g_fk_en h.1, g_fk_3 h.1, g_fk_3 h.1]
  unfold g_ed
  rw [g_fk_en h.1, g_fk_en h.1, g_fk_3 h.1, g_fk_3 h.1]
  exact this
theorem g_fk_nr (h : g_fk A B) : g_nr B = g_nr A := by unfold g_nr; rw [g_fk_0 h (by omega)]
theorem g_ls_r (h : g_ls A B) (w : g_wr A) : g_wr B := by
  refine ⟨by rw [g_fk_nr h.1, g_fk_0 h.1 (by omega)]; exact w.1, by rw [g_fk_nr h.1]; exact w.2.1, fun s hs f => ?_⟩
  rw [g_fk_nr h.1, g_fk_1 h.1 (by omega), g_fk_1 h.1 (by omega)]
  exact w.2.2 s hs (h.2 s hs f)
theorem g_fk_wb (h : g_fk A B) (w : g_wb A) : g_wb B := by unfold g_wb; rw [g_fk_0 h (by omega)]; exact w
theorem g_fk_nf (h : g_fk A B) : g_nf B = g_nf A := by unfold g_nf; rw [g_fk_0 h (by omega)]
theorem g_fk_wd (h : g_fk A B) (w : g_wd A) : g_wd B := by
  refine ⟨by rw [g_fk_nf h, g_fk_0 h (by omega)]; exact w.1, by rw [g_fk_nf h]; exact w.2.1, fun i hi => ?_⟩
  rw [g_fk_nf h] at hi
  rw [g_fk_5 h, g_fk_5 h]
  exact w.2.2 i hi
theorem g_fk_wn (h : g_fk A B) {t : Nat} : g_wn B t = g_wn A t := by unfold g_wn; rw [g_fk_6 h]
theorem g_fk_wp (h : g_fk A B) {t : Nat} : ∀ i, g_wp B t i = g_wp A t i := by
  intro i
  induction i with
  | zero => rfl
  | succ i ih => rw [g_wp_s, g_wp_s, ih, g_fk_wn h]
theorem g_fk_ww (h : g_fk A B) (w : g_ww A) : g_ww B := by
  refine ⟨fun t a b => ?_, fun t a b => ?_⟩
  · rw [g_fk_nx h] at b
    rw [g_fk_6 h, g_fk_wn h, g_fk_nx h]
    exact w.1 t a b
  · rw [g_fk_nx h] at b
    obtain ⟨n, hn⟩ := w.2 t a b
    exact ⟨n, by rw [g_fk_wp h]; exact hn⟩
end g_LS
