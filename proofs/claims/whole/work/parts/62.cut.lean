/-! versions go: what stays as it is -/
/-- but for kinds, turns, clear pages, events, counts -/
def g_fk (A B : g_A) : Prop := ∀ g i w, ¬ (g = 1 ∧ w ≤ 1) → ¬ (g = 0 ∧ 23 ≤ i ∧ i < 29) → ¬ g = 4 → ¬ (g = 0 ∧ i = 6) → ¬ (g = 0 ∧ 9 ≤ i ∧ i ≤ 16) → B g i w = A g i w
theorem g_fk_rf {A : g_A} : g_fk A A := fun _ _ _ _ _ _ _ _ => rfl
theorem g_fk_tr {A B C : g_A} (h : g_fk A B) (h' : g_fk B C) : g_fk A C := fun g i w a b c d e => (h' g i w a b c d e).trans (h g i w a b c d e)
section g_FK
variable {A B : g_A}
theorem g_fk_3 (h : g_fk A B) (t i : Nat) : B 3 t i = A 3 t i := h 3 t i (by omega) (by omega) (by omega) (by omega) (by omega)
theorem g_fk_6 (h : g_fk A B) (t i : Nat) : B 6 t i = A 6 t i := h 6 t i (by omega) (by omega) (by omega) (by omega) (by omega)
theorem g_fk_2 (h : g_fk A B) (t i : Nat) : B 2 t i = A 2 t i := h 2 t i (by omega) (by omega) (by omega) (by omega) (by omega)
theorem g_fk_5 (h : g_fk A B) (t i : Nat) : B 5 t i = A 5 t i := h 5 t i (by omega) (by omega) (by omega) (by omega) (by omega)
theorem g_fk_1 (h : g_fk A B) {s w : Nat} (hw : 2 ≤ w) : B 1 s w = A 1 s w := h 1 s w (by omega) (by omega) (by omega) (by omega) (by omega)
theorem g_fk_0 (h : g_fk A B) {i : Nat} (hi : i ≤ 5 ∨ i = 7 ∨ i = 8 ∨ (17 ≤ i ∧ i ≤ 22)) : B 0 i 0 = A 0 i 0 := h 0 i 0 (by omega) (by omega) (by omega) (by omega) (by omega)
theorem g_fk_nx (h : g_fk A B) : g_nx B = g_nx A := by unfold g_nx; rw [g_fk_0 h (by omega)]
theorem g_fk_ln (h : g_fk A B) {p : Nat} (hp : p < 6) : g_ln B p = g_ln A p := by unfold g_ln; rw [g_fk_0 h (by omega)]
theorem g_fk_iv (h : g_fk A B) {s : Nat} (hs : s < 60) : g_iv B s = g_iv A s := by unfold g_iv; rw [g_fk_ln h (by omega)]
theorem g_fk_mk (h : g_fk A B) {s : Nat} : g_mk B s = g_mk A s := by unfold g_mk; rw [g_fk_1 h (by omega)]
theorem g_fk_en (h : g_fk A B) {s : Nat} : g_en B s = g_en A s := by unfold g_en; rw [g_fk_1 h (by omega)]
theorem g_fk_eo (h : g_fk A B) {s : Nat} : g_eo B s = g_eo A s := by unfold g_eo; rw [g_fk_en h, g_fk_3 h]
theorem g_fk_n1 (h : g_fk A B) {s : Nat} : g_n1 B s = g_n1 A s := by unfold g_n1; rw [g_fk_1 h (by omega)]
theorem g_fk_mm (h : g_fk A B) {s : Nat} : g_mm B s = g_mm A s := by unfold g_mm; rw [g_fk_1 h (by omega)]
theorem g_fk_de (h : g_fk A B) {z s : Nat} : g_de B z s = g_de A z s := by unfold g_de; rw [g_fk_mk h, g_fk_en h, g_fk_3 h, g_fk_3 h, g_fk_1 h (by omega)]
theorem g_fk_nt (h : g_fk A B) {t o : Nat} : g_nt B t o = g_nt A t o := by unfold g_nt; rw [g_fk_3 h]
theorem g_fk_kn (h : g_fk A B) {t o : Nat} : g_kn B t o = g_kn A t o := by unfold g_kn; rw [g_fk_3 h, g_fk_nt h]
theorem g_fk_se (h : g_fk A B) {t s : Nat} : g_se B t s = g_se A t s := by unfold g_se; rw [g_fk_mk h, g_fk_en h, g_fk_kn h, g_fk_kn h, g_fk_1 h (by omega)]
theorem g_fk_op (h : g_fk A B) {t : Nat} : g_op B t = g_op A t := by unfold g_op; rw [g_fk_3 h]
theorem g_fk_lo (h : g_fk A B) {t : Nat} : g_lo B t = g_lo A t := by unfold g_lo; exact g_fst_congr _ _ (fun j _ _ => g_fk_nt h)
theorem g_fk_hb (h : g_fk A B) {b : Nat} : g_hb B b = g_hb A b := by
  unfold g_hb
  rw [g_fk_nx h]
  exact g_it_congr _ _ _ (fun j _ _ x => by unfold g_hs; rw [g_fk_op h, g_fk_lo h])
theorem g_fk_hz (h : g_fk A B) : g_hz B = g_hz A := g_fk_hb h
theorem g_fk_wt (h : g_fk A B) (w : g_wt A) : g_wt B := by unfold g_wt; rw [g_fk_nx h, g_fk_0 h (by omega)]; exact w
theorem g_fk_wq (h : g_fk A B) (w : g_wq A) : g_wq B := fun t a b => by rw [g_fk_3 h]; exact w t a (by rw [← g_fk_nx h]; exact b)
theorem g_fk_wl (h : g_fk A B) (w : g_wl A) : g_wl B := fun p hp => by rw [g_fk_ln h hp, g_fk_0 h (by omega)]; exact w p hp
theorem g_fk_tn (h : g_fk A B) {t : Nat} : g_tn B t ↔ g_tn A t := by unfold g_tn; rw [g_fk_nx h]
theorem g_fk_ws (h : g_fk A B) {s : Nat} (w : g_ws A s) : g_ws B s := by
  unfold g_ws
  rw [g_fk_mk h, g_fk_en h, g_fk_tn h, g_fk_tn h, g_fk_1 h (by omega), g_fk_1 h (by omega), g_fk_1 h (by omega), g_fk_1 h (by omega), g_fk_1 h (by omega), g_fk_1 h (by omega)]
  exact w
theorem g_fk_kd (h : g_fk A B) {s : Nat} (hs : s < 60) (e : B 1 s 0 = A 1 s 0) : g_fu B s = g_fu A s := by unfold g_fu; rw [g_fk_iv h hs, e]
end g_FK
def g_goes (A : g_A) (s : Nat) : g_A := g_au (g_au A 1 s 0 0) 0 (23 + s / 10) 0 0
theorem g_au_eq {A : g_A} {g i w : Nat} {v : Int32} : g_au A g i w v g i w = v := by unfold g_au; rw [if_pos ⟨rfl, rfl, rfl⟩]
theorem g_au_ne {A : g_A} {g i w g' i' w' : Nat} {v : Int32} (h : ¬ (g' = g ∧ i' = i ∧ w' = w)) : g_au A g i w v g' i' w' = A g' i' w' := by unfold g_au; rw [if_neg h]
theorem g_fk_goes {A : g_A} {s : Nat} (hs : s < 60) : g_fk A (g_goes A s) := fun g i w a b c d e => by
  unfold g_goes
  rw [g_au_ne (by omega), g_au_ne (by omega)]
theorem g_goes_k {A : g_A} {s x w : Nat} : g_goes A s 1 x w = if x = s ∧ w = 0 then 0 else A 1 x w := by
  unfold g_goes
  rw [g_au_ne (by omega)]
  unfold g_au
  by_cases c : x = s ∧ w = 0
  · rw [if_pos c, if_pos ⟨rfl, c⟩]
  · rw [if_neg c, if_neg (fun q => c q.2)]
theorem g_fk_tell {A : g_A} {kd nm : Int32} : g_fk A (g_tell A kd nm) := fun g i w a b c d e => by
  unfold g_tell
  rw [if_neg (by omega), if_neg (by omega)]
theorem g_tell_1 {A : g_A} {kd nm : Int32} {x w : Nat} : g_tell A kd nm 1 x w = A 1 x w := by
  unfold g_tell
  rw [if_neg (by omega), if_neg (by omega)]
theorem m_goes {h : q_H} {A : g_A} {s : Nat} (hs : s < 60) : Mo_goes (nI s) (g_ma h 31 A) = some (g_ma h 31 (g_goes A s)) := by
  unfold Mo_goes
  rw [m_st0 hs]
  simp only [Option.bind_some]
  rw [show (23 : Int32) = nI 23 from rfl, show (10 : Int32) = nI 10 from rfl, pk_div (by omega) (by omega) (by omega), nI_add, g_inN (by omega) (by decide), g_cl (by omega), g_w0 (by omega)]
  rfl
/-- the first of a chain go -/
def g_rmv (A : g_A) (c n : Nat) : g_A := g_it (fun j B => g_goes B (g_ci A c j)) 0 n A
theorem g_rmv_s (A : g_A) (c n : Nat) : g_rmv A c (n + 1) = g_goes (g_rmv A c n) (g_ci A c n) := by
  show g_goes (g_rmv A c n) (g_ci A c (0 + n)) = _
  rw [Nat.zero_add]
theorem g_fk_rmv {A : g_A} {c : Nat} : ∀ n, (∀ j, j < n → g_ci A c j < 60) → g_fk A (g_rmv A c n) := by
  intro n
  induction n with
  | zero => intro _; exact g_fk_rf
  | succ n ih =>
    intro h
    rw [g_rmv_s]
    exact g_fk_tr (ih (fun j hj => h j (by omega))) (g_fk_goes (h n (by omega)))
theorem g_rmv_k {A : g_A} {c x w : Nat} : ∀ n, (¬ (∃ j, j < n ∧ x = g_ci A c j) ∨ w ≠ 0 → g_rmv A c n 1 x w = A 1 x w) ∧ ((∃ j, j < n ∧ x = g_ci A c j) → g_rmv A c n 1 x 0 = 0) := by
  intro n
  induction n with
  | zero => exact ⟨fun _ => rfl, fun ⟨j, hj, _⟩ => by omega⟩
  | succ n ih =>
    rw [g_rmv_s]
    refine ⟨fun h => ?_, fun ⟨j, hj, e⟩ => ?_⟩
    · rw [g_goes_k, if_neg (fun q => by rcases h with h | h; exact h ⟨n, by omega, q.1⟩; exact h q.2)]
      exact ih.1 (by rcases h with h | h; exact Or.inl (fun ⟨j, hj, e⟩ => h ⟨j, by omega, e⟩); exact Or.inr h)
    · rw [g_goes_k]
      by_cases c2 : x = g_ci A c n
      · rw [if_pos ⟨c2, rfl⟩]
      · rw [if_neg (fun q => c2 q.1)]
        rcases Nat.lt_or_ge j n with q | q
        · exact ih.2 ⟨j, q, e⟩
        · have : j = n := by omega
          subst this; exact absurd e c2
theorem g_rmv_fu {A : g_A} {c n x : Nat} (hx : x < 60) (hc : ∀ j, j < n → g_ci A c j < 60) : g_fu (g_rmv A c n) x = true ↔ g_fu A x = true ∧ ¬ ∃ j, j < n ∧ x = g_ci A c j := by
  have hk := g_fk_rmv n hc
  by_cases d : ∃ j, j < n ∧ x = g_ci A c j
  · have := (g_rmv_k (w := 0) n).2 d
    refine ⟨fun q => ?_, fun q => absurd d q.2⟩
    have := (g_fu_iv q).2
    rw [(g_rmv_k (w := 0) n).2 d] at this
    exact absurd this (by decide)
  · have := (g_rmv_k (w := 0) n).1 (Or.inl d)
    rw [g_fk_kd hk hx this]
    exact ⟨fun q => ⟨q, d⟩, fun q => q.1⟩
/-- the chain isn't changed by what goes ahead of it -/
theorem g_nn_rmv {A : g_A} {c i : Nat} (hc : c < 60) (hf : g_fu A c = true) (hv : g_wv A) (hw : g_wc A) (hi : g_ci A c i < 60) : g_nn (g_rmv A c i) (g_ci A c i) = g_nn A (g_ci A c i) := by
  obtain ⟨p1, p2, p3⟩ := g_ci_in hc hf hv hw i hi
  have hd : ∀ j, j < i → g_ci A c j < 60 := fun j hj => (p3 j hj).1
  have hk := g_fk_rmv i hd
  unfold g_nn
  rw [g_fk_eo hk, g_fk_n1 hk, g_fk_1 hk (by omega), g_fk_1 hk (by omega), g_fk_1 hk (by omega)]
  by_cases e1 : A 1 (g_ci A c i) 8 = nI (g_ci A c i / 10)
  · obtain ⟨q1, q2⟩ := g_n1_pg hi (hv _ hi p2) e1
    have : g_fu (g_rmv A c i) (g_n1 A (g_ci A c i)) = g_fu A (g_n1 A (g_ci A c i)) := by
      cases f : g_fu A (g_n1 A (g_ci A c i)) with
      | false =>
        cases f2 : g_fu (g_rmv A c i) (g_n1 A (g_ci A c i)) with
        | false => rfl
        | true => rw [((g_rmv_fu q2 hd).mp f2).1] at f; cases f
      | true =>
        refine (g_rmv_fu q2 hd).mpr ⟨f, fun ⟨j, hj, e⟩ => ?_⟩
        have := hw _ hi p2 e1 f
        have := (p3 j hj).2
        rw [← e] at this
        omega
    rw [this]
  · rw [if_neg (fun q => e1 q.2.1), if_neg (fun q => e1 q.2.1)]
def g_cp (A : g_A) (z s : Nat) (i : Nat) : Bool := !(decide (g_ci A (g_ch A s) i < 60) && g_de A z (g_ci A (g_ch A s) i))
def g_cc (A : g_A) (z s : Nat) : Nat := g_fst (g_cp A z s) 0 10
def g_ck (A : g_A) (z s : Nat) : Nat := g_ci A (g_ch A s) (g_cc A z s)
def g_cu (A : g_A) (z s : Nat) : g_A := if g_cc A z s = 0 then A else g_tell (g_au (g_au (g_rmv A (g_ch A s) (g_cc A z s)) 1 s 0 (if g_ck A z s < 60 then 2 else 3)) 1 s 1 (if g_ck A z s < 60 then nI (g_ck A z s % 10) else -1)) (if g_ck A z s < 60 then 2 else 1) (nI s)
theorem g_cp_f {A : g_A} {z s i : Nat} (h : g_cp A z s i = false) : g_ci A (g_ch A s) i < 60 ∧ g_de A z (g_ci A (g_ch A s) i) = true := by
  unfold g_cp at h
  cases c : decide (g_ci A (g_ch A s) i < 60) with
  | false => rw [c] at h; cases h
  | true =>
    refine ⟨of_decide_eq_true c, ?_⟩
    rw [c] at h
    cases d : g_de A z (g_ci A (g_ch A s) i) with
    | false => rw [d] at h; cases h
    | true => rfl
theorem g_cc_le {A : g_A} {z s : Nat} : g_cc A z s ≤ 10 := by
  have := g_fst_le (g_cp A z s) 10 0
  unfold g_cc; omega
theorem g_cc_lt {A : g_A} {z s j : Nat} (h : j < g_cc A z s) : g_ci A (g_ch A s) j < 60 ∧ g_de A z (g_ci A (g_ch A s) j) = true := g_cp_f (g_fst_ne _ _ _ j (by omega) h)
theorem m_cuts {h : q_H} {A : g_A} {z s : Nat} (hs : s < 60) (hz : z < 1000) (hl : g_wl A) (ht : g_wt A) (hv : g_wv A) (hc : g_wc A) (hh : g_wh A s) (hT : g_wtu A s) : Mo_cuts (nI s) (nI z) (g_ma h 31 A) = some (nI (g_cc A z s), g_ma h 31 (g_cu A z s)) := by
  unfold Mo_cuts
  rw [m_chainOf hs hT]
  simp only [Option.bind_some]
  have loop := g_lpB (body := fun s3 : Int32 × Int32 × q_H => (if s3.2.1 < 0 then (some (.inr ((s3.1, s3.2.1, s3.2.2)))) else ((Mo_isDead s3.2.1 (nI z) s3.2.2).bind fun x11 => if x11 = 0 then (some (.inr ((s3.1, s3.2.1, s3.2.2)))) else ((Mo_chainNext s3.2.1 s3.2.2).bind fun x13 => (Mo_goes s3.2.1 s3.2.2).bind fun x15 => some (.inl ((s3.1 + (1 : Int32)), x13, x15)))) : Option ((Int32 × Int32 × q_H) ⊕ (Int32 × Int32 × q_H)))) (s0 := ((0 : Int32), g_pp (g_ch A s), g_ma h 31 A)) (g_cp A z s) (fun i => (nI i, g_pp (g_ci A (g_ch A s) i), g_ma h 31 (g_rmv A (g_ch A s) i))) 0 10 (fun i => (nI i, g_pp (g_ci A (g_ch A s) i), g_ma h 31 (g_rmv A (g_ch A s) i))) rfl (fun i a b => by
    dsimp only
    by_cases c : g_ci A (g_ch A s) i < 60
    · have c0 : g_ch A s < 60 := by
        rcases Nat.eq_zero_or_pos i with q | q
        · subst q; exact c
        · by_cases d : g_ch A s < 60
          · exact d
          · rw [g_ci_60 d i q] at c; omega
      obtain ⟨p1, p2, p3⟩ := g_ci_in c0 (hh c0) hv hc i c
      have hk := g_fk_rmv i (fun j hj => (p3 j hj).1)
      have hw := g_fk_ws hk (hv _ c p2)
      have e : g_pp (g_ci A (g_ch A s) i) = nI (g_ci A (g_ch A s) i) := if_pos c
      rw [if_neg (fun q => g_ppN.mp q c), e, m_isDead c (g_fk_wt hk ht) hw hz, g_fk_de hk]
      unfold g_cp
      rw [decide_eq_true c]
      simp only [Option.bind_some]
      cases g_de A z (g_ci A (g_ch A s) i) with
      | false => rw [if_pos (by rfl)]; rfl
      | true =>
        rw [if_neg (by decide), m_chainNext c (g_fk_wl hk hl) (g_fk_wt hk ht) hw, m_goes c, g_nn_rmv c0 (hh c0) hv hc c, nI_1, ← g_rmv_s, g_ci_s, if_pos c]
        rfl
    · rw [if_pos (g_ppN.mpr c)]
      unfold g_cp
      rw [decide_eq_false c]; rfl) (by
    dsimp only
    have := g_ch_10 hh hv hc
    rw [Nat.zero_add, if_pos (g_ppN.mpr this)]) (by decide)
  rw [loop]
  simp only [Option.bind_some]
  have hcc := g_cc_le (A := A) (z := z) (s := s)
  show (if ¬ nI (g_cc A z s) = 0 then _ else _) = _
  have ek : g_ci A (g_ch A s) (g_fst (g_cp A z s) 0 10) = g_ck A z s := rfl
  have er : g_fst (g_cp A z s) 0 10 = g_cc A z s := rfl
  rw [ek, er]
  by_cases c0 : g_cc A z s = 0
  · rw [if_neg (fun q => q (by rw [c0]; rfl))]
    have : g_cu A z s = A := if_pos c0
    rw [this, c0]; rfl
  · rw [if_pos (nI_ne0 (by omega) (by omega))]
    have e : g_cu A z s = g_tell (g_au (g_au (g_rmv A (g_ch A s) (g_cc A z s)) 1 s 0 (if g_ck A z s < 60 then 2 else 3)) 1 s 1 (if g_ck A z s < 60 then nI (g_ck A z s % 10) else -1)) (if g_ck A z s < 60 then 2 else 1) (nI s) := if_neg c0
    rw [e]
    by_cases c : g_ck A z s < 60
    · simp only [if_pos c, if_pos (g_ppP.mpr c), Option.bind_some]
      rw [m_st0 hs]
      simp only [Option.bind_some]
      have e2 : g_pp (g_ck A z s) = nI (g_ck A z s) := if_pos c
      rw [e2, show (10 : Int32) = nI 10 from rfl, pk_rem (by omega) (by omega) (by omega), m_st1 hs]
      simp only [Option.bind_some]
      rw [m_tells]
      rfl
    · simp only [if_neg c, if_neg (fun q => c (g_ppP.mp q)), Option.bind_some]
      rw [m_st0 hs]
      simp only [Option.bind_some]
      rw [m_st1 hs]
      simp only [Option.bind_some]
      rw [m_tells]
      rfl
