/-! what holds of links, and holds on as versions go -/
def g_lk (A : g_A) (a x : Nat) : Prop := (g_iv A a = true ∧ A 1 a 0 = 2 ∧ g_ch A a = x) ∨ (g_fu A a = true ∧ g_nn A a = x)
def g_wL (A : g_A) : Prop := ∀ a b x, a < 60 → b < 60 → x < 60 → g_lk A a x → g_lk A b x → a = b
def g_wT (A : g_A) : Prop := ∀ a, a < 60 → g_iv A a = true → A 1 a 0 = 2 → (∃ x, x < 10 ∧ A 1 a 1 = nI x) ∧ g_fu A (g_ch A a) = true ∧ A 1 (g_ch A a) 10 = 1 ∧ A 3 (g_mk A (g_ch A a)) 0 = 1
def g_wE (A : g_A) : Prop := ∀ s, s < 60 → g_fu A s = true → g_en A s ≠ 0 → g_en A s = g_mk A s ∨ A 3 (g_mk A s) 0 = 1
def g_wF (A : g_A) : Prop := ∀ s, s < 60 → g_fu A s = true → A 1 s 11 = 1 → A 3 (g_mk A s) 0 = 1
def g_PI (A : g_A) : Prop := g_wt A ∧ g_wq A ∧ g_wl A ∧ g_wv A ∧ g_wc A ∧ g_wL A ∧ g_wT A ∧ g_wE A ∧ g_wF A
theorem g_ch_2 {A : g_A} {a : Nat} (h : A 1 a 0 = 2) : g_ch A a = 10 * (a / 10) + (A 1 a 1).toNatClampNeg := by
  unfold g_ch
  rw [if_neg (by rw [h]; decide), if_pos h]
theorem g_ch_1 {A : g_A} {a : Nat} (h : A 1 a 0 = 1) : g_ch A a = a := by unfold g_ch; rw [if_pos h]
/-- less versions: B has of A's -/
def g_ls (A B : g_A) : Prop := g_fk A B ∧ ∀ s, s < 60 → g_fu B s = true → g_fu A s = true
section g_LS
variable {A B : g_A}
theorem g_ls_v (h : g_ls A B) (w : g_wv A) : g_wv B := fun s hs f => g_fk_ws h.1 (w s hs (h.2 s hs f))
theorem g_ls_nn (h : g_ls A B) (hv : g_wv A) {a : Nat} (ha : a < 60) (f : g_fu B a = true) (hn : g_nn B a < 60) : g_nn B a = g_nn A a := by
  obtain ⟨e, e0, e1, e2, e3, e4⟩ := g_nn_in hn
  have e1' : A 1 a 8 = nI (a / 10) := by rw [← g_fk_1 h.1 (by omega)]; exact e1
  have hw := hv a ha (h.2 a ha f)
  obtain ⟨p1, p2⟩ := g_n1_pg ha hw e1'
  rw [e, g_fk_n1 h.1]
  rw [g_fk_n1 h.1] at e2 e3 e4
  rw [g_fk_eo h.1] at e0 e4
  rw [g_fk_1 h.1 (by omega)] at e3 e4
  unfold g_nn
  rw [if_pos ⟨e0, e1', h.2 _ p2 e2, e3, e4⟩]
theorem g_ls_c (h : g_ls A B) (hv : g_wv A) (w : g_wc A) : g_wc B := fun s hs f e8 f2 => by
  rw [g_fk_1 h.1 (by omega)] at e8
  rw [g_fk_n1 h.1] at f2 ⊢
  rw [g_fk_mm h.1, g_fk_mm h.1]
  have f' := h.2 s hs f
  obtain ⟨p1, p2⟩ := g_n1_pg hs (hv s hs f') e8
  exact w s hs f' e8 (h.2 _ p2 f2)
theorem g_ls_E (h : g_ls A B) (w : g_wE A) : g_wE B := fun s hs f e => by
  rw [g_fk_en h.1] at e ⊢
  rw [g_fk_mk h.1, g_fk_3 h.1]
  exact w s hs (h.2 s hs f) e
theorem g_ls_F (h : g_ls A B) (w : g_wF A) : g_wF B := fun s hs f e => by
  rw [g_fk_1 h.1 (by omega)] at e
  rw [g_fk_mk h.1, g_fk_3 h.1]
  exact w s hs (h.2 s hs f) e
end g_LS
theorem g_PI_wh {A : g_A} (h : g_PI A) {s : Nat} (hs : s < 60) (hi : g_iv A s = true) : g_wh A s ∧ g_wtu A s := by
  obtain ⟨wt, wq, wl, wv, wc, wL, wT, wE, wF⟩ := h
  refine ⟨fun hc => ?_, fun h2 => (wT s hs hi h2).1⟩
  by_cases c : A 1 s 0 = 1
  · rw [g_ch_1 c]; exact g_fu_i hi c
  · by_cases d : A 1 s 0 = 2
    · exact (wT s hs hi d).2.1
    · unfold g_ch at hc; rw [if_neg c, if_neg d] at hc; omega
/-- facts of a cut -/
theorem g_cu_f {A : g_A} (h : g_PI A) {z s : Nat} (hs : s < 60) (hi : g_iv A s = true) (hk : A 1 s 0 = 2 ∨ (A 1 s 0 = 1 ∧ A 1 s 10 = 0)) (hn : g_cc A z s ≠ 0) :
    g_ch A s < 60 ∧ g_fu A (g_ch A s) = true ∧ g_ch A s / 10 = s / 10 ∧
    (∀ j, j < g_cc A z s → g_ci A (g_ch A s) j < 60 ∧ g_ci A (g_ch A s) j / 10 = s / 10 ∧ g_fu A (g_ci A (g_ch A s) j) = true) ∧
    (g_ck A z s < 60 → g_ck A z s / 10 = s / 10 ∧ g_fu A (g_ck A z s) = true ∧ g_ck A z s ≠ s ∧ (¬ ∃ j, j < g_cc A z s ∧ g_ck A z s = g_ci A (g_ch A s) j) ∧ A 1 (g_ck A z s) 10 = 1 ∧ A 3 (g_mk A (g_ck A z s)) 0 = 1 ∧ g_lk A (g_ci A (g_ch A s) (g_cc A z s - 1)) (g_ck A z s)) ∧
    (∀ a x, a < 60 → x < 60 → g_lk A a x → (∃ j, j < g_cc A z s ∧ x = g_ci A (g_ch A s) j) → a = s ∨ (∃ j, j < g_cc A z s ∧ a = g_ci A (g_ch A s) j)) := by
  have hwh := (g_PI_wh h hs hi).1
  obtain ⟨wt, wq, wl, wv, wc, wL, wT, wE, wF⟩ := h
  have c0 : g_ch A s < 60 := (g_cc_lt (A := A) (z := z) (s := s) (j := 0) (by omega)).1
  have f0 := hwh c0
  have pg : g_ch A s / 10 = s / 10 := by
    rcases hk with k2 | k1
    · obtain ⟨⟨x, hx, e⟩, _⟩ := wT s hs hi k2
      rw [g_ch_2 k2, e, g_cl (by omega)]; omega
    · rw [g_ch_1 k1.1]
  have hin := g_ci_in c0 f0 wv wc
  refine ⟨c0, f0, pg, fun j hj => ?_, fun hck => ?_, fun a x ha hx hl ⟨j, hj, e⟩ => ?_⟩
  · have := hin j (g_cc_lt hj).1
    exact ⟨(g_cc_lt hj).1, by omega, this.2.1⟩
  · have hi' := hin (g_cc A z s) hck
    have hk' : g_ci A (g_ch A s) (g_cc A z s) = g_ck A z s := rfl
    rw [hk'] at hi'
    obtain ⟨q1, q2, q3⟩ := hi'
    have em : g_cc A z s = g_cc A z s - 1 + 1 := by omega
    have hl1 := g_cc_lt (A := A) (z := z) (s := s) (j := g_cc A z s - 1) (by omega)
    have enn : g_ck A z s = g_nn A (g_ci A (g_ch A s) (g_cc A z s - 1)) := by
      have : g_ck A z s = g_ci A (g_ch A s) (g_cc A z s - 1 + 1) := by rw [← em]; rfl
      rw [this, g_ci_s, if_pos hl1.1]
    have hf1 := (hin _ hl1.1).2.1
    rw [enn] at hck
    obtain ⟨e, e0, e1, e2, e3, e4⟩ := g_nn_in hck
    rw [← e] at e2 e3 e4
    rw [← enn] at e2 e3 e4
    refine ⟨by omega, q2, fun q => ?_, fun ⟨j, hj, q⟩ => ?_, e3, ?_, Or.inr ⟨hf1, enn.symm⟩⟩
    · rcases hk with k2 | k1
      · rw [q] at q2; have := (g_fu_iv q2).2; rw [k2] at this; exact absurd this (by decide)
      · rw [q, k1.2] at e3; exact absurd e3 (by decide)
    · have := (q3 j hj).2
      rw [← q] at this; omega
    · have hw1 := wv _ hl1.1 hf1
      have e61 := g_eo_lt wt hw1
      have emk : g_mk A (g_ck A z s) = g_eo A (g_ci A (g_ch A s) (g_cc A z s - 1)) := by unfold g_mk; rw [e4, g_cl (by omega)]
      rw [emk]
      unfold g_eo at e0 ⊢
      by_cases c : g_en A (g_ci A (g_ch A s) (g_cc A z s - 1)) ≠ 0 ∧ A 3 (g_en A (g_ci A (g_ch A s) (g_cc A z s - 1))) 0 ≠ 2
      · rw [if_pos c]
        have hd := hl1.2
        unfold g_de at hd
        simp only [Bool.or_eq_true, Bool.and_eq_true, decide_eq_true_iff] at hd
        rcases hd with hd | hd
        · exfalso
          rcases wE _ hl1.1 hf1 c.1 with y | y
          · rw [y] at c; exact c.2 hd.1
          · rw [y] at hd; exact absurd hd.1 (by decide)
        · exact hd.2.1
      · rw [if_neg c] at e0; exact absurd rfl e0
  · rcases Nat.eq_zero_or_pos j with q | q
    · subst q
      have e : x = g_ch A s := e
      rcases hk with k2 | k1
      · exact Or.inl (wL a s x ha hs hx hl (Or.inl ⟨hi, k2, e.symm⟩))
      · exfalso
        rw [g_ch_1 k1.1] at e
        rcases hl with ⟨l1, l2, l3⟩ | ⟨l1, l2⟩
        · have := (wT a ha l1 l2).2.2.1
          rw [l3, e, k1.2] at this
          exact absurd this (by decide)
        · rw [← l2] at hx
          obtain ⟨n1, _, _, _, n5, _⟩ := g_nn_in hx
          rw [← n1, l2, e, k1.2] at n5
          exact absurd n5 (by decide)
    · have hj1 := g_cc_lt (A := A) (z := z) (s := s) (j := j - 1) (by omega)
      have f1 := (hin _ hj1.1).2.1
      have enn : x = g_nn A (g_ci A (g_ch A s) (j - 1)) := by
        have : j = j - 1 + 1 := by omega
        rw [e, this, g_ci_s, if_pos hj1.1]; rfl
      exact Or.inr ⟨j - 1, by omega, wL a _ x ha hj1.1 hx hl (Or.inr ⟨f1, enn.symm⟩)⟩
/-- what a cut makes -/
theorem g_cu_k {A : g_A} (h : g_PI A) {z s : Nat} (hs : s < 60) (hi : g_iv A s = true) (hk : A 1 s 0 = 2 ∨ (A 1 s 0 = 1 ∧ A 1 s 10 = 0)) (hn : g_cc A z s ≠ 0) :
    g_fk A (g_cu A z s) ∧ (g_cu A z s 1 s 0 = if g_ck A z s < 60 then 2 else 3) ∧ (g_cu A z s 1 s 1 = if g_ck A z s < 60 then nI (g_ck A z s % 10) else -1) ∧
    (∀ x, x ≠ s → (∃ j, j < g_cc A z s ∧ x = g_ci A (g_ch A s) j) → g_cu A z s 1 x 0 = 0) ∧
    (∀ x, x ≠ s → (¬ ∃ j, j < g_cc A z s ∧ x = g_ci A (g_ch A s) j) → g_cu A z s 1 x 0 = A 1 x 0) ∧
    (∀ x, x ≠ s → g_cu A z s 1 x 1 = A 1 x 1) ∧
    (∀ x, x < 60 → (g_fu (g_cu A z s) x = true ↔ g_fu A x = true ∧ x ≠ s ∧ ¬ ∃ j, j < g_cc A z s ∧ x = g_ci A (g_ch A s) j)) := by
  obtain ⟨c0, f0, pg, hD, hK, hL⟩ := g_cu_f h hs hi hk hn
  have e : g_cu A z s = _ := if_neg hn
  have k0 : g_cu A z s 1 s 0 = if g_ck A z s < 60 then 2 else 3 := by
    rw [e, g_tell_1, g_au_ne (by omega), g_au_eq]
  have k1 : g_cu A z s 1 s 1 = if g_ck A z s < 60 then nI (g_ck A z s % 10) else -1 := by
    rw [e, g_tell_1, g_au_eq]
  have kx : ∀ x w, x ≠ s → g_cu A z s 1 x w = g_rmv A (g_ch A s) (g_cc A z s) 1 x w := fun x w hx => by
    rw [e, g_tell_1, g_au_ne (by omega), g_au_ne (by omega)]
  have hfk : g_fk A (g_cu A z s) := by
    have h1 := g_fk_rmv (A := A) (c := g_ch A s) (g_cc A z s) (fun j hj => (hD j hj).1)
    refine g_fk_tr h1 ?_
    rw [e]
    refine g_fk_tr (fun g i w a b c d e => ?_) g_fk_tell
    rw [g_au_ne (by omega), g_au_ne (by omega)]
  have hx0 : ∀ x, x ≠ s → (∃ j, j < g_cc A z s ∧ x = g_ci A (g_ch A s) j) → g_cu A z s 1 x 0 = 0 := fun x hx d => by rw [kx x 0 hx]; exact (g_rmv_k (w := 0) _).2 d
  have hx1 : ∀ x, x ≠ s → (¬ ∃ j, j < g_cc A z s ∧ x = g_ci A (g_ch A s) j) → g_cu A z s 1 x 0 = A 1 x 0 := fun x hx d => by rw [kx x 0 hx]; exact (g_rmv_k _).1 (Or.inl d)
  refine ⟨hfk, k0, k1, hx0, hx1, fun x hx => ?_, fun x hx => ?_⟩
  · rw [kx x 1 hx]; exact (g_rmv_k _).1 (Or.inr (by omega))
  · by_cases d : x = s
    · refine ⟨fun q => ?_, fun q => absurd d q.2.1⟩
      have := (g_fu_iv q).2
      rw [d, k0] at this
      by_cases y : g_ck A z s < 60
      · rw [if_pos y] at this; exact absurd this (by decide)
      · rw [if_neg y] at this; exact absurd this (by decide)
    · by_cases d2 : ∃ j, j < g_cc A z s ∧ x = g_ci A (g_ch A s) j
      · refine ⟨fun q => ?_, fun q => absurd d2 q.2.2⟩
        have := (g_fu_iv q).2
        rw [hx0 x d d2] at this
        exact absurd this (by decide)
      · rw [g_fk_kd hfk hx (hx1 x d d2)]
        exact ⟨fun q => ⟨q, d, d2⟩, fun q => q.1⟩
theorem g_PI_cu {A : g_A} (h : g_PI A) {z s : Nat} (hs : s < 60) (hi : g_iv A s = true) (hk : A 1 s 0 = 2 ∨ (A 1 s 0 = 1 ∧ A 1 s 10 = 0)) : g_PI (g_cu A z s) ∧ g_ls A (g_cu A z s) := by
  by_cases hn : g_cc A z s = 0
  · have : g_cu A z s = A := if_pos hn
    rw [this]
    exact ⟨h, g_fk_rf, fun _ _ q => q⟩
  obtain ⟨c0, f0, pg, hD, hK, hL⟩ := g_cu_f h hs hi hk hn
  obtain ⟨hfk, k0, k1, hx0, hx1, hxt, hfu⟩ := g_cu_k h hs hi hk hn
  have ls : g_ls A (g_cu A z s) := ⟨hfk, fun x hx q => ((hfu x hx).mp q).1⟩
  obtain ⟨wt, wq, wl, wv, wc, wL, wT, wE, wF⟩ := id h
  have sch : g_ck A z s < 60 → g_ch (g_cu A z s) s = g_ck A z s := fun y => by
    rw [if_pos y] at k0 k1
    rw [g_ch_2 k0, k1, g_cl (by omega)]
    have := (hK y).1
    omega
  have och : ∀ a, a < 60 → a ≠ s → g_cu A z s 1 a 0 = 2 → A 1 a 0 = 2 ∧ g_ch (g_cu A z s) a = g_ch A a := fun a ha d k2 => by
    have kk : A 1 a 0 = 2 := by
      by_cases d2 : ∃ j, j < g_cc A z s ∧ a = g_ci A (g_ch A s) j
      · rw [hx0 a d d2] at k2; exact absurd k2 (by decide)
      · rw [← hx1 a d d2]; exact k2
    exact ⟨kk, by rw [g_ch_2 k2, g_ch_2 kk, hxt a d]⟩
  have olk : ∀ a x, a < 60 → x < 60 → g_lk (g_cu A z s) a x → (a = s ∧ x = g_ck A z s ∧ g_ck A z s < 60) ∨ (a ≠ s ∧ g_lk A a x ∧ ¬ ∃ j, j < g_cc A z s ∧ a = g_ci A (g_ch A s) j) := fun a x ha hx hl => by
    rcases hl with ⟨l1, l2, l3⟩ | ⟨l1, l2⟩
    · by_cases d : a = s
      · subst d
        by_cases y : g_ck A z a < 60
        · exact Or.inl ⟨rfl, by rw [← l3, sch y], y⟩
        · rw [if_neg y] at k0; rw [k0] at l2; exact absurd l2 (by decide)
      · obtain ⟨kk, ch⟩ := och a ha d l2
        refine Or.inr ⟨d, Or.inl ⟨by rw [← g_fk_iv hfk ha]; exact l1, kk, by rw [← ch]; exact l3⟩, fun d2 => ?_⟩
        rw [hx0 a d d2] at l2; exact absurd l2 (by decide)
    · obtain ⟨fa, d, d2⟩ := (hfu a ha).mp l1
      refine Or.inr ⟨d, Or.inr ⟨fa, ?_⟩, d2⟩
      rw [← g_ls_nn ls wv ha l1 (by omega)]; exact l2
  refine ⟨⟨g_fk_wt hfk wt, g_fk_wq hfk wq, g_fk_wl hfk wl, g_ls_v ls wv, g_ls_c ls wv wc, fun a b x ha hb hx la lb => ?_, fun a ha ia ka => ?_, g_ls_E ls wE, g_ls_F ls wF⟩, ls⟩
  · rcases olk a x ha hx la with ⟨a1, a2, a3⟩ | ⟨a1, a2, a3⟩
    · rcases olk b x hb hx lb with ⟨b1, b2, b3⟩ | ⟨b1, b2, b3⟩
      · rw [a1, b1]
      · exfalso
        have lk := (hK a3).2.2.2.2.2.2
        have := wL b _ x hb (hD (g_cc A z s - 1) (by omega)).1 hx b2 (by rw [a2]; exact lk)
        exact b3 ⟨g_cc A z s - 1, by omega, this⟩
    · rcases olk b x hb hx lb with ⟨b1, b2, b3⟩ | ⟨b1, b2, b3⟩
      · exfalso
        have lk := (hK b3).2.2.2.2.2.2
        have := wL a _ x ha (hD (g_cc A z s - 1) (by omega)).1 hx a2 (by rw [b2]; exact lk)
        exact a3 ⟨g_cc A z s - 1, by omega, this⟩
      · exact wL a b x ha hb hx a2 b2
  · by_cases d : a = s
    · subst d
      by_cases y : g_ck A z a < 60
      · obtain ⟨q1, q2, q3, q4, q5, q6, q7⟩ := hK y
        rw [sch y]
        rw [if_pos y] at k1
        refine ⟨⟨g_ck A z a % 10, by omega, k1⟩, (hfu _ y).mpr ⟨q2, q3, q4⟩, ?_, ?_⟩
        · rw [g_fk_1 hfk (by omega)]; exact q5
        · rw [g_fk_mk hfk, g_fk_3 hfk]; exact q6
      · rw [if_neg y] at k0; rw [k0] at ka; exact absurd ka (by decide)
    · obtain ⟨kk, ch⟩ := och a ha d ka
      have ia' : g_iv A a = true := by rw [← g_fk_iv hfk ha]; exact ia
      obtain ⟨⟨x, hx, e1⟩, t2, t3, t4⟩ := wT a ha ia' kk
      have hc60 : g_ch A a < 60 := by rw [g_ch_2 kk, e1, g_cl (by omega)]; omega
      rw [ch]
      refine ⟨⟨x, hx, by rw [hxt a d]; exact e1⟩, (hfu _ hc60).mpr ⟨t2, fun q => ?_, fun q => ?_⟩, ?_, ?_⟩
      · rcases hk with k2 | k1'
        · rw [q] at t2; have := (g_fu_iv t2).2; rw [k2] at this; exact absurd this (by decide)
        · rw [q, k1'.2] at t3; exact absurd t3 (by decide)
      · rcases hL a _ ha hc60 (Or.inl ⟨ia', kk, rfl⟩) q with r | ⟨j, hj, r⟩
        · exact d r
        · have := (g_fu_iv (hD j hj).2.2).2
          rw [← r, kk] at this
          exact absurd this (by decide)
      · rw [g_fk_1 hfk (by omega)]; exact t3
      · rw [g_fk_mk hfk, g_fk_3 hfk]; exact t4
/-- one goes whose maker is gone -/
theorem g_PI_go {A : g_A} (h : g_PI A) {s : Nat} (hs : s < 60) (hf : g_fu A s = true) (hg : A 3 (g_mk A s) 0 = 2) : g_PI (g_goes A s) ∧ g_ls A (g_goes A s) := by
  have hfk := g_fk_goes (A := A) hs
  have hfu : ∀ x, x < 60 → (g_fu (g_goes A s) x = true ↔ g_fu A x = true ∧ x ≠ s) := fun x hx => by
    by_cases d : x = s
    · refine ⟨fun q => ?_, fun q => absurd d q.2⟩
      have := (g_fu_iv q).2
      rw [g_goes_k, if_pos ⟨d, rfl⟩] at this; exact absurd this (by decide)
    · rw [g_fk_kd hfk hx (by rw [g_goes_k, if_neg (fun q => d q.1)])]
      exact ⟨fun q => ⟨q, d⟩, fun q => q.1⟩
  have ls : g_ls A (g_goes A s) := ⟨hfk, fun x hx q => ((hfu x hx).mp q).1⟩
  obtain ⟨wt, wq, wl, wv, wc, wL, wT, wE, wF⟩ := h
  have och : ∀ a, a < 60 → g_goes A s 1 a 0 = 2 → a ≠ s ∧ A 1 a 0 = 2 ∧ g_ch (g_goes A s) a = g_ch A a ∧ g_goes A s 1 a 1 = A 1 a 1 := fun a ha k2 => by
    have d : a ≠ s := fun q => by rw [g_goes_k, if_pos ⟨q, rfl⟩] at k2; exact absurd k2 (by decide)
    have e1 : g_goes A s 1 a 1 = A 1 a 1 := by rw [g_goes_k, if_neg (fun q => d q.1)]
    have kk : A 1 a 0 = 2 := by rw [g_goes_k, if_neg (fun q => d q.1)] at k2; exact k2
    exact ⟨d, kk, by rw [g_ch_2 k2, g_ch_2 kk, e1], e1⟩
  have olk : ∀ a x, a < 60 → x < 60 → g_lk (g_goes A s) a x → g_lk A a x := fun a x ha hx hl => by
    rcases hl with ⟨l1, l2, l3⟩ | ⟨l1, l2⟩
    · obtain ⟨_, kk, ch, _⟩ := och a ha l2
      exact Or.inl ⟨by rw [← g_fk_iv hfk ha]; exact l1, kk, by rw [← ch]; exact l3⟩
    · exact Or.inr ⟨((hfu a ha).mp l1).1, by rw [← g_ls_nn ls wv ha l1 (by omega)]; exact l2⟩
  refine ⟨⟨g_fk_wt hfk wt, g_fk_wq hfk wq, g_fk_wl hfk wl, g_ls_v ls wv, g_ls_c ls wv wc, fun a b x ha hb hx la lb => wL a b x ha hb hx (olk a x ha hx la) (olk b x hb hx lb), fun a ha ia ka => ?_, g_ls_E ls wE, g_ls_F ls wF⟩, ls⟩
  obtain ⟨d, kk, ch, e1⟩ := och a ha ka
  obtain ⟨⟨x, hx, e⟩, t2, t3, t4⟩ := wT a ha (by rw [← g_fk_iv hfk ha]; exact ia) kk
  have hc60 : g_ch A a < 60 := by rw [g_ch_2 kk, e, g_cl (by omega)]; omega
  rw [ch]
  refine ⟨⟨x, hx, by rw [e1]; exact e⟩, (hfu _ hc60).mpr ⟨t2, fun q => ?_⟩, ?_, ?_⟩
  · rw [q, hg] at t4; exact absurd t4 (by decide)
  · rw [g_fk_1 hfk (by omega)]; exact t3
  · rw [g_fk_mk hfk, g_fk_3 hfk]; exact t4
