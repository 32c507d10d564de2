/-! all is laid anew: the cells -/
def g_str (A : g_A) : g_A := fun g i w => if g = 0 ∧ w = 0 ∧ (i = 5 ∨ (17 ≤ i ∧ i < 29)) then 0 else A g i w
def g_l1 (A : g_A) (s x : Nat) (B : g_A) : g_A := g_au (g_au (g_fil B x (A 1 s 2) (A 1 s 3) (A 1 s 4) (A 1 s 5) (A 1 s 6) 0) 1 x 11 (A 1 s 11)) 1 x 12 (A 1 s 12)
def g_l2 (A : g_A) (s x : Nat) (B : g_A) : g_A := g_ent (g_l1 A s x B) (A 1 s 3) x
def g_lX (A : g_A) (L : List Nat) (i : Nat) (X : g_A × (Nat → Nat)) : g_A × (Nat → Nat) := (g_l2 A (g_el L i) (g_fp X.1 (A 1 (g_el L i) 5)) X.1, fun y => if y = g_fp X.1 (A 1 (g_el L i) 5) then i else X.2 y)
def g_lB (A : g_A) (L : List Nat) (i : Nat) : g_A × (Nat → Nat) := match i with | 0 => (g_str A, fun _ => 0) | i + 1 => g_lX A L i (g_lB A L i)
def g_JB (A : g_A) (L : List Nat) (i : Nat) (X : g_A × (Nat → Nat)) : Prop :=
  (∀ g j w, g ≠ 1 → g ≠ 2 → ¬ (g = 0 ∧ w = 0 ∧ (j = 5 ∨ j = 8 ∨ (17 ≤ j ∧ j < 29))) → X.1 g j w = A g j w) ∧
  g_wl X.1 ∧ (∀ p, p < 6 → X.1 0 (23 + p) 0 = 0) ∧ X.1 0 8 0 = A 0 8 0 + nI i ∧
  (∀ x, x < 60 → g_iv X.1 x = true → g_fu X.1 x = true) ∧
  (g_wi X.1 ∧ g_ne X.1 = i ∧ ∀ j, j < i → g_fu X.1 (g_ep X.1 j) = true) ∧
  (∀ x, x < 60 → g_fu X.1 x = true → X.2 x < i ∧ (∀ w, (2 ≤ w ∧ w ≤ 6) ∨ w = 11 ∨ w = 12 → X.1 1 x w = A 1 (g_el L (X.2 x)) w) ∧ X.1 1 x 7 = -1 ∧ X.1 1 x 8 = -1 ∧ X.1 1 x 9 = -1 ∧ X.1 1 x 10 = 0) ∧
  (∀ x y, x < 60 → y < 60 → g_fu X.1 x = true → g_fu X.1 y = true → X.2 x = X.2 y → x = y)
theorem g_str_o {A : g_A} {g i w : Nat} (h : ¬ (g = 0 ∧ w = 0 ∧ (i = 5 ∨ (17 ≤ i ∧ i < 29)))) : g_str A g i w = A g i w := by unfold g_str; rw [if_neg h]
theorem g_str_z {A : g_A} {i : Nat} (h : i = 5 ∨ (17 ≤ i ∧ i < 29)) : g_str A 0 i 0 = 0 := by unfold g_str; rw [if_pos ⟨rfl, rfl, h⟩]
theorem g_str_ln {A : g_A} {p : Nat} (hp : p < 6) : g_ln (g_str A) p = 0 := by unfold g_ln; rw [g_str_z (by omega)]; rfl
theorem g_str_iv {A : g_A} {x : Nat} (hx : x < 60) : g_iv (g_str A) x = false := by unfold g_iv; rw [g_str_ln (by omega)]; exact decide_eq_false (by omega)
theorem g_str_fu {A : g_A} {x : Nat} (hx : x < 60) : g_fu (g_str A) x = false := by unfold g_fu; rw [g_str_iv hx]; rfl
theorem g_str_ne {A : g_A} : g_ne (g_str A) = 0 := by unfold g_ne; rw [g_str_z (by omega)]; rfl
theorem g_str_wl {A : g_A} : g_wl (g_str A) := fun p hp => by rw [g_str_ln hp, g_str_z (by omega)]; exact ⟨rfl, by omega⟩
theorem g_str_wi {A : g_A} : g_wi (g_str A) := ⟨by rw [g_str_ne, g_str_z (by omega)]; rfl, by rw [g_str_ne]; omega, fun i hi => by rw [g_str_ne] at hi; omega⟩
theorem g_JB_0 {A : g_A} {L : List Nat} : g_JB A L 0 (g_lB A L 0) := by
  refine ⟨fun g j w h1 h2 h3 => g_str_o (by omega), g_str_wl, fun p hp => g_str_z (by omega), ?_, fun x hx hv => ?_, ⟨g_str_wi, g_str_ne, fun j hj => absurd hj (Nat.not_lt_zero j)⟩, fun x hx hf => ?_, fun x y hx hy hf => ?_⟩
  · show g_str A 0 8 0 = _
    rw [g_str_o (by omega), show nI 0 = 0 from rfl, Int32.add_zero]
  · have : g_iv (g_str A) x = true := hv
    rw [g_str_iv hx] at this; cases this
  · have : g_fu (g_str A) x = true := hf
    rw [g_str_fu hx] at this; cases this
  · have : g_fu (g_str A) x = true := hf
    rw [g_str_fu hx] at this; cases this
theorem g_l1_o {A B : g_A} {s x g i w : Nat} (h1 : ¬ (g = 1 ∧ i = x ∧ (w = 11 ∨ w = 12))) : g_l1 A s x B g i w = g_fil B x (A 1 s 2) (A 1 s 3) (A 1 s 4) (A 1 s 5) (A 1 s 6) 0 g i w := by
  unfold g_l1; rw [g_au_ne (by omega), g_au_ne (by omega)]
theorem g_l1_s {A B : g_A} {s x : Nat} : (∀ w, (2 ≤ w ∧ w ≤ 6) ∨ w = 11 ∨ w = 12 → g_l1 A s x B 1 x w = A 1 s w) ∧ g_l1 A s x B 1 x 0 = 1 ∧ g_l1 A s x B 1 x 7 = -1 ∧ g_l1 A s x B 1 x 8 = -1 ∧ g_l1 A s x B 1 x 9 = -1 ∧ g_l1 A s x B 1 x 10 = 0 := by
  refine ⟨fun w hw => ?_, ?_, ?_, ?_, ?_, ?_⟩
  · by_cases c : w = 12
    · subst c; unfold g_l1; rw [g_au_eq]
    · by_cases d : w = 11
      · subst d; unfold g_l1; rw [g_au_ne (by omega), g_au_eq]
      · rw [g_l1_o (by omega), g_fil_s (by omega)]
        have : w = 2 ∨ w = 3 ∨ w = 4 ∨ w = 5 ∨ w = 6 := by omega
        rcases this with rfl | rfl | rfl | rfl | rfl <;> rfl
  · rw [g_l1_o (by omega), g_fil_s (by omega)]; rfl
  · rw [g_l1_o (by omega), g_fil_s (by omega)]; rfl
  · rw [g_l1_o (by omega), g_fil_s (by omega)]; rfl
  · rw [g_l1_o (by omega), g_fil_s (by omega)]; rfl
  · rw [g_l1_o (by omega), g_fil_s (by omega)]; rfl
theorem g_l1_5 {A B : g_A} {s x : Nat} (hx : x < 60) : (∀ i w, g_l1 A s x B 2 i w = B 2 i w) ∧ g_l1 A s x B 0 5 0 = B 0 5 0 := ⟨fun i w => by rw [g_l1_o (by omega), g_fil_o (by omega) (by omega)], by rw [g_l1_o (by omega), g_fil_o (by omega) (by omega)]⟩
theorem g_l1_wi {A B : g_A} {s x : Nat} (hx : x < 60) (hw : g_wi B) : g_wi (g_l1 A s x B) ∧ g_ne (g_l1 A s x B) = g_ne B ∧ ∀ i, g_ep (g_l1 A s x B) i = g_ep B i := by
  obtain ⟨h2, h5⟩ := g_l1_5 (A := A) (B := B) (s := s) hx
  have hn : g_ne (g_l1 A s x B) = g_ne B := by unfold g_ne; rw [h5]
  refine ⟨⟨by rw [hn, h5]; exact hw.1, by rw [hn]; exact hw.2.1, fun i hi => ?_⟩, hn, fun i => by unfold g_ep; rw [h2, h2]⟩
  rw [hn] at hi
  rw [h2, h2, h2]; exact hw.2.2 i hi
theorem g_l2_o {A B : g_A} {s x g i w : Nat} (hx : x < 60) (hw : g_wi B) (hn : g_ne B < 60) (h2 : g ≠ 2) (h5 : ¬ (g = 0 ∧ i = 5 ∧ w = 0)) : g_l2 A s x B g i w = g_l1 A s x B g i w := by
  obtain ⟨w1, w2, _⟩ := g_l1_wi (A := A) (s := s) hx hw
  exact (g_ent_f (key := A 1 s 3) (s := x) w1 (by rw [w2]; exact hn)).2.2.2.2.2 g i w h2 h5
/-- one is laid -/
theorem g_l2_f {A B : g_A} {s x : Nat} (hx : x < 60) (hl : g_wl B) (hw : g_wi B) (hn : g_ne B < 60) (hv : x % 10 = g_ln B (x / 10)) :
    g_wl (g_l2 A s x B) ∧ g_iv (g_l2 A s x B) x = true ∧ g_fu (g_l2 A s x B) x = true ∧ (∀ y, y < 60 → y ≠ x → g_iv (g_l2 A s x B) y = g_iv B y ∧ g_fu (g_l2 A s x B) y = g_fu B y ∧ ∀ w, g_l2 A s x B 1 y w = B 1 y w) ∧
    g_l2 A s x B 0 (23 + x / 10) 0 = 0 ∧ g_l2 A s x B 0 8 0 = B 0 8 0 + 1 ∧ (∀ p, p < 6 → p ≠ x / 10 → g_l2 A s x B 0 (17 + p) 0 = B 0 (17 + p) 0 ∧ g_l2 A s x B 0 (23 + p) 0 = B 0 (23 + p) 0) ∧ g_l2 A s x B 0 (17 + x / 10) 0 = nI (x % 10 + 1) ∧
    (∀ g i w, g ≠ 1 → g ≠ 2 → ¬ (g = 0 ∧ w = 0 ∧ (i = 5 ∨ i = 8 ∨ (17 ≤ i ∧ i < 29))) → g_l2 A s x B g i w = B g i w) := by
  obtain ⟨fl1, fl2, fl3⟩ := g_fil_wl (row := A 1 s 2) (key := A 1 s 3) (val := A 1 s 4) (size := A 1 s 5) (maker := A 1 s 6) (light := 0) hx hl
  obtain ⟨fi1, fi2⟩ := g_fil_iv (row := A 1 s 2) (key := A 1 s 3) (val := A 1 s 4) (size := A 1 s 5) (maker := A 1 s 6) (light := 0) hx hl (Nat.le_of_eq hv)
  obtain ⟨ff1, ff2⟩ := g_fil_fu (row := A 1 s 2) (key := A 1 s 3) (val := A 1 s 4) (size := A 1 s 5) (maker := A 1 s 6) (light := 0) hx hl (Nat.le_of_eq hv)
  have o : ∀ {g i w : Nat}, g ≠ 2 → ¬ (g = 0 ∧ i = 5 ∧ w = 0) → ¬ (g = 1 ∧ i = x ∧ (w = 11 ∨ w = 12)) → g_l2 A s x B g i w = g_fil B x (A 1 s 2) (A 1 s 3) (A 1 s 4) (A 1 s 5) (A 1 s 6) 0 g i w := fun a b c => by rw [g_l2_o hx hw hn a b, g_l1_o c]
  have lne : ∀ p, g_ln (g_l2 A s x B) p = g_ln (g_fil B x (A 1 s 2) (A 1 s 3) (A 1 s 4) (A 1 s 5) (A 1 s 6) 0) p := fun p => by unfold g_ln; rw [o (by omega) (by omega) (by omega)]
  have ive : ∀ y, g_iv (g_l2 A s x B) y = g_iv (g_fil B x (A 1 s 2) (A 1 s 3) (A 1 s 4) (A 1 s 5) (A 1 s 6) 0) y := fun y => by unfold g_iv; rw [lne]
  have fue : ∀ y, g_fu (g_l2 A s x B) y = g_fu (g_fil B x (A 1 s 2) (A 1 s 3) (A 1 s 4) (A 1 s 5) (A 1 s 6) 0) y := fun y => by unfold g_fu; rw [ive, o (by omega) (by omega) (by omega)]
  have p6 : x / 10 < 6 := by omega
  refine ⟨fun p hp => by rw [lne, o (by omega) (by omega) (by omega)]; exact fl1 p hp, by rw [ive]; exact fi1, by rw [fue]; exact ff1, fun y hy d => ⟨by rw [ive]; exact fi2 y hy d, by rw [fue]; exact ff2 y hy d, fun w => by rw [o (by omega) (by omega) (by omega), g_fil_o (by omega) (by omega)]⟩, ?_, ?_, fun p hp d => ⟨?_, ?_⟩, ?_, fun g i w h1 h2 h3 => ?_⟩
  · rw [o (by omega) (by omega) (by omega), g_fil_c]
  · rw [o (by omega) (by omega) (by omega), g_fil_8]
  · rw [o (by omega) (by omega) (by omega), g_fil_o (by omega) (by omega)]
  · rw [o (by omega) (by omega) (by omega), g_fil_o (by omega) (by omega)]
  · rw [o (by omega) (by omega) (by omega), g_fil_n hx, if_pos hv, (hl _ p6).1, hv]; exact nI_1 _
  · by_cases c : g = 0 ∧ i = 11 ∧ w = 0
    · obtain ⟨rfl, rfl, rfl⟩ := c
      rw [o (by omega) (by omega) (by omega), g_fil_11, if_pos hv]
    · by_cases d : g = 0 ∧ w = 0
      · rw [o (by omega) (by omega) (by omega), g_fil_o (by omega) (by omega)]
      · rw [o (by omega) (by omega) (by omega)]
        unfold g_fil
        rw [if_neg (by omega), if_neg (by omega), if_neg (by omega), if_neg (by omega), if_neg (by omega)]
theorem g_JB_x {A : g_A} {L : List Nat} {i : Nat} {X : g_A × (Nat → Nat)} {z : Int32} (h : g_JB A L i X) (hx : g_fp X.1 z < 60) : g_fp X.1 z % 10 = g_ln X.1 (g_fp X.1 z / 10) ∧ g_fu X.1 (g_fp X.1 z) = false := by
  obtain ⟨_, hl, _, _, h5, _⟩ := h
  obtain ⟨f1, f2, f3⟩ := g_fp_f hl hx
  have hv : g_iv X.1 (g_fp X.1 z) = false := by
    cases q : g_iv X.1 (g_fp X.1 z) with
    | false => rfl
    | true => rw [h5 _ hx q] at f2; cases f2
  unfold g_iv at hv
  have := of_decide_eq_false hv
  exact ⟨by omega, f2⟩
theorem g_JB_s {A : g_A} {L : List Nat} {i : Nat} {X : g_A × (Nat → Nat)} (hL : g_sl2 A 60 L) (hi : i < L.length) (h : g_JB A L i X) (hx : g_fp X.1 (A 1 (g_el L i) 5) < 60) : g_JB A L (i + 1) (g_lX A L i X) := by
  obtain ⟨xv, xf⟩ := g_JB_x h hx
  have h60 := hL.2.2
  obtain ⟨B, σ⟩ := X
  unfold g_lX
  dsimp only at xv xf hx ⊢
  generalize g_fp B (A 1 (g_el L i) 5) = x at xv xf hx ⊢
  obtain ⟨h1, hl, h3, h4, h5, ⟨hw, hn, he⟩, h7, h8⟩ := h
  dsimp only at h1 hl h3 h4 h5 hw hn he h7 h8
  have hn' : g_ne B < 60 := by omega
  obtain ⟨k1, k2, k3, k4, k5, k6, k7, k8, k9⟩ := g_l2_f (A := A) (s := g_el L i) hx hl hw hn' xv
  have o1 : ∀ w, g_l2 A (g_el L i) x B 1 x w = g_l1 A (g_el L i) x B 1 x w := fun w => g_l2_o hx hw hn' (by omega) (by omega)
  obtain ⟨w1, w2, w3⟩ := g_l1_wi (A := A) (s := g_el L i) hx hw
  have hwi := g_ent_wi (key := A 1 (g_el L i) 3) w1 (by rw [w2]; exact hn') hx
  have hne : g_ne (g_l2 A (g_el L i) x B) = i + 1 := by
    have := (g_ent_f (key := A 1 (g_el L i) 3) (s := x) w1 (by rw [w2]; exact hn')).2.1
    rw [w2, hn] at this; exact this
  obtain ⟨s1, s2, s3, s4, s5, s6⟩ := g_l1_s (A := A) (B := B) (s := g_el L i) (x := x)
  unfold g_JB
  dsimp only
  refine ⟨fun g j w a b c => by rw [k9 g j w a b c]; exact h1 g j w a b c, k1, fun p hp => ?_, by rw [k6, h4, Int32.add_assoc, show nI i + 1 = nI (i + 1) from nI_1 i], fun y hy hv => ?_, ⟨hwi, hne, fun j hj => ?_⟩, fun y hy hf => ?_, fun y y' hy hy' hf hf' e => ?_⟩
  · by_cases d : p = x / 10
    · subst d; exact k5
    · rw [(k7 p hp d).2]; exact h3 p hp
  · by_cases d : y = x
    · subst d; exact k3
    · rw [(k4 y hy d).2.1]
      rw [(k4 y hy d).1] at hv
      exact h5 y hy hv
  · have ee : ∀ j', j' < i → g_fu (g_l2 A (g_el L i) x B) (g_ep B j') = true := fun j' hj' => by
      have e60 := (g_ep_lt hw (show j' < g_ne B by omega)).1
      by_cases d : g_ep B j' = x
      · rw [d]; exact k3
      · rw [(k4 _ e60 d).2.1]; exact he j' hj'
    have hj' : j < g_ne (g_l1 A (g_el L i) x B) + 1 := by rw [w2]; omega
    rcases g_ent_e (key := A 1 (g_el L i) 3) w1 (by rw [w2]; exact hn') hx hj' with ⟨q, q1, q2⟩ | ⟨q, q1⟩ | ⟨q, q1, q2⟩
    · rw [w2, hn] at q
      show g_fu (g_l2 A (g_el L i) x B) (g_ep (g_ent (g_l1 A (g_el L i) x B) (A 1 (g_el L i) 3) x) j) = true
      rw [q1, w3]; exact ee j (by omega)
    · show g_fu (g_l2 A (g_el L i) x B) (g_ep (g_ent (g_l1 A (g_el L i) x B) (A 1 (g_el L i) 3) x) j) = true
      rw [q1]; exact k3
    · show g_fu (g_l2 A (g_el L i) x B) (g_ep (g_ent (g_l1 A (g_el L i) x B) (A 1 (g_el L i) 3) x) j) = true
      rw [q1, w3]; exact ee (j - 1) (by omega)
  · by_cases d : y = x
    · subst d
      rw [if_pos rfl]
      exact ⟨Nat.lt_succ_self i, fun w hw => by rw [o1]; exact s1 w hw, by rw [o1]; exact s3, by rw [o1]; exact s4, by rw [o1]; exact s5, by rw [o1]; exact s6⟩
    · obtain ⟨q1, q2, q3⟩ := k4 y hy d
      rw [if_neg d]
      rw [q2] at hf
      obtain ⟨r1, r2, r3, r4, r5, r6⟩ := h7 y hy hf
      exact ⟨by omega, fun w hw => by rw [q3]; exact r2 w hw, by rw [q3]; exact r3, by rw [q3]; exact r4, by rw [q3]; exact r5, by rw [q3]; exact r6⟩
  · by_cases d : y = x
    · by_cases d' : y' = x
      · rw [d, d']
      · rw [if_pos d, if_neg d'] at e
        rw [(k4 y' hy' d').2.1] at hf'
        have := (h7 y' hy' hf').1
        omega
    · rw [(k4 y hy d).2.1] at hf
      by_cases d' : y' = x
      · rw [if_neg d, if_pos d'] at e
        have := (h7 y hy hf).1
        omega
      · rw [if_neg d, if_neg d'] at e
        rw [(k4 y' hy' d').2.1] at hf'
        exact h8 y y' hy hy' hf hf' e
/-- what is laid is well -/
theorem g_JB_W {A : g_A} {L : List Nat} {i : Nat} {X : g_A × (Nat → Nat)} (hW : g_W A) (hL : g_sl2 A 60 L) (hi : i ≤ L.length) (h : g_JB A L i X) : g_W X.1 := by
  obtain ⟨B, σ⟩ := X
  obtain ⟨h1, hl, h3, h4, h5, ⟨hw, hn, he⟩, h7, h8⟩ := h
  dsimp only at h1 hl h3 h4 h5 hw hn he h7 h8 ⊢
  obtain ⟨⟨wt, wq, wl, wv, wc, wL, wT, wE, wF⟩, ⟨wi, we, wO⟩, wg, ww, wr, wb, wd, wI⟩ := id hW
  have hft : g_ft A B := ⟨fun t j => h1 3 t j (by omega) (by omega) (by omega), h1 0 4 0 (by omega) (by omega) (by omega)⟩
  have hfz : g_fz A B := ⟨hft, fun t j => h1 6 t j (by omega) (by omega) (by omega), fun t j => h1 5 t j (by omega) (by omega) (by omega), h1 0 7 0 (by omega) (by omega) (by omega), h1 0 1 0 (by omega) (by omega) (by omega), h1 0 6 0 (by omega) (by omega) (by omega)⟩
  have src : ∀ x, x < 60 → g_fu B x = true → g_el L (σ x) < 60 ∧ g_fu A (g_el L (σ x)) = true ∧ g_la A (g_el L (σ x)) = true := fun x hx hf => g_sl2_e hL (by have := (h7 x hx hf).1; omega)
  have en0 : ∀ x, x < 60 → g_fu B x = true → g_en B x = 0 := fun x hx hf => by unfold g_en; rw [(h7 x hx hf).2.2.1]; rfl
  have eo0 : ∀ x, x < 60 → g_fu B x = true → g_eo B x = 0 := fun x hx hf => by unfold g_eo; rw [if_neg (fun q => q.1 (en0 x hx hf))]
  have nn0 : ∀ x, x < 60 → g_fu B x = true → g_nn B x = 60 := fun x hx hf => by unfold g_nn; rw [if_neg (fun q => q.1 (eo0 x hx hf))]
  have mke : ∀ x, x < 60 → g_fu B x = true → g_mk B x = g_mk A (g_el L (σ x)) := fun x hx hf => by unfold g_mk; rw [(h7 x hx hf).2.1 6 (by omega)]
  have no2 : ∀ x, x < 60 → g_iv B x = true → B 1 x 0 = 2 → False := fun x hx hv q => by
    have := (g_fu_iv (h5 x hx hv)).2
    rw [q] at this; exact absurd this (by decide)
  refine ⟨⟨g_ft_wt hft wt, g_ft_wq hft wq, hl, fun x hx hf => ?_, fun x hx hf e _ => ?_, fun a b x ha hb hx ka kb => ?_, fun a ha hv q => (no2 a ha hv q).elim, fun x hx hf q => absurd (en0 x hx hf) q, fun x hx hf q => ?_⟩, ⟨hw, fun j hj => ?_, fun x hx hf q => absurd (en0 x hx hf) q⟩, g_fz_wg hfz wg, g_fz_ww hfz ww, ⟨?_, ?_, fun x hx hf => ?_⟩, g_fz_wb hfz wb, g_fz_wd hfz wd, fun a b ha hb fa fb e => ?_⟩
  · obtain ⟨s60, sf, sl⟩ := src x hx hf
    obtain ⟨q1, q2, q3, q4, q5, q6⟩ := h7 x hx hf
    obtain ⟨v1, v2, v3, v4, v5, v6⟩ := wv _ s60 sf
    refine ⟨by rw [mke x hx hf, q2 6 (by omega)]; exact v1, by rw [mke x hx hf]; exact (g_ft_tn hft).mpr v2, Or.inl ⟨q3, en0 x hx hf⟩, Or.inl ⟨q4, q5⟩, Or.inl q6, by rw [q2 11 (by omega)]; exact v6⟩
  · rw [(h7 x hx hf).2.2.2.1] at e
    exact absurd (e ▸ nI_pos' (n := x / 10) (by omega)) (by decide)
  · exfalso
    rcases ka with ⟨hv, q, _⟩ | ⟨hf, q⟩
    · exact no2 a ha hv q
    · rw [nn0 a ha hf] at q; omega
  · obtain ⟨s60, sf, sl⟩ := src x hx hf
    rw [mke x hx hf, hft.1]
    rw [(h7 x hx hf).2.1 11 (by omega)] at q
    exact wF _ s60 sf q
  · have e60 := (g_ep_lt hw hj).1
    rw [hn] at hj
    have hf := he j hj
    exact ⟨(g_fu_iv hf).1, Or.inl ⟨(g_fu_iv hf).2, (h7 _ e60 hf).2.2.2.2.2⟩⟩
  · have e3 : B 0 3 0 = A 0 3 0 := h1 0 3 0 (by omega) (by omega) (by omega)
    have : g_nr B = g_nr A := by unfold g_nr; rw [e3]
    rw [this, e3]; exact wr.1
  · have : g_nr B = g_nr A := by unfold g_nr; rw [h1 0 3 0 (by omega) (by omega) (by omega)]
    rw [this]; exact wr.2.1
  · have : g_nr B = g_nr A := by unfold g_nr; rw [h1 0 3 0 (by omega) (by omega) (by omega)]
    obtain ⟨s60, sf, sl⟩ := src x hx hf
    rw [this, (h7 x hx hf).2.1 2 (by omega), (h7 x hx hf).2.1 3 (by omega)]
    exact wr.2.2 _ s60 sf
  · have ab : a = b := by
      obtain ⟨a1, a2, a3⟩ := src a ha fa
      obtain ⟨b1, b2, b3⟩ := src b hb fb
      rw [(h7 a ha fa).2.1 2 (by omega), (h7 b hb fb).2.1 2 (by omega)] at e
      have es := g_la_1 hW a1 b1 a2 b2 a3 b3 e
      refine h8 a b ha hb fa fb ?_
      have la := (h7 a ha fa).1
      have lb := (h7 b hb fb).1
      rcases Nat.lt_trichotomy (σ a) (σ b) with q | q | q
      · have := g_sl2_l hL q (by omega)
        rw [es, g_lt_ir] at this; cases this
      · exact q
      · have := g_sl2_l hL q (by omega)
        rw [es, g_lt_ir] at this; cases this
    subst ab
    exact ⟨fun _ _ _ _ => rfl, fun _ _ _ _ => rfl, fun q1 q2 _ => by rw [q1] at q2; exact absurd q2 (by decide), fun _ _ => rfl⟩
