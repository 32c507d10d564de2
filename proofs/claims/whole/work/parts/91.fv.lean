/-! slots go out of use, versions freeze: what holds on -/
def g_fv (A B : g_A) : Prop := g_ft A B ∧ (∀ t i, B 6 t i = A 6 t i) ∧ (∀ i, i = 1 ∨ i = 3 → B 0 i 0 = A 0 i 0) ∧ g_wl B ∧ (∀ s, s < 60 → g_fu B s = g_fu A s) ∧ (∀ s, s < 60 → g_fu A s = true → (∀ w, 2 ≤ w → w ≠ 11 → B 1 s w = A 1 s w) ∧ g_01 (B 1 s 11) ∧ (B 1 s 11 = 1 → A 3 (g_mk A s) 0 = 1)) ∧ (∀ s, s < 60 → g_iv B s = true → B 1 s 0 = 2 → g_iv A s = true ∧ A 1 s 0 = 2 ∧ B 1 s 1 = A 1 s 1)
section g_FV
variable {A B : g_A}
theorem fv_mk (h : g_fv A B) {s : Nat} (hs : s < 60) (f : g_fu A s = true) : g_mk B s = g_mk A s := by unfold g_mk; rw [(h.2.2.2.2.2.1 s hs f).1 6 (by omega) (by omega)]
theorem fv_en (h : g_fv A B) {s : Nat} (hs : s < 60) (f : g_fu A s = true) : g_en B s = g_en A s := by unfold g_en; rw [(h.2.2.2.2.2.1 s hs f).1 7 (by omega) (by omega)]
theorem fv_eo (h : g_fv A B) {s : Nat} (hs : s < 60) (f : g_fu A s = true) : g_eo B s = g_eo A s := by unfold g_eo; rw [fv_en h hs f, h.1.1]
theorem fv_n1 (h : g_fv A B) {s : Nat} (hs : s < 60) (f : g_fu A s = true) : g_n1 B s = g_n1 A s := by unfold g_n1; rw [(h.2.2.2.2.2.1 s hs f).1 9 (by omega) (by omega)]
theorem fv_n2 (h : g_fv A B) {s : Nat} (hs : s < 60) (f : g_fu A s = true) : g_n2 B s = g_n2 A s := by unfold g_n2; rw [(h.2.2.2.2.2.1 s hs f).1 9 (by omega) (by omega), (h.2.2.2.2.2.1 s hs f).1 8 (by omega) (by omega)]
theorem fv_mm (h : g_fv A B) {s : Nat} (hs : s < 60) (f : g_fu A s = true) : g_mm B s = g_mm A s := by unfold g_mm; rw [(h.2.2.2.2.2.1 s hs f).1 12 (by omega) (by omega)]
theorem fv_1 (h : g_fv A B) {s w : Nat} (hs : s < 60) (f : g_fu A s = true) (h2 : 2 ≤ w) (h11 : w ≠ 11) : B 1 s w = A 1 s w := (h.2.2.2.2.2.1 s hs f).1 w h2 h11
theorem fv_fu (h : g_fv A B) {s : Nat} (hs : s < 60) : g_fu B s = g_fu A s := h.2.2.2.2.1 s hs
theorem fv_ws (h : g_fv A B) {s : Nat} (hs : s < 60) (f : g_fu A s = true) (w : g_ws A s) : g_ws B s := by
  unfold g_ws
  rw [fv_mk h hs f, fv_en h hs f, g_ft_tn h.1, g_ft_tn h.1, fv_1 h hs f (by omega) (by omega), fv_1 h hs f (by omega) (by omega), fv_1 h hs f (by omega) (by omega), fv_1 h hs f (by omega) (by omega), fv_1 h hs f (by omega) (by omega)]
  exact ⟨w.1, w.2.1, w.2.2.1, w.2.2.2.1, w.2.2.2.2.1, (h.2.2.2.2.2.1 s hs f).2.1⟩
theorem fv_nn (h : g_fv A B) (hv : g_wv A) {s : Nat} (hs : s < 60) (f : g_fu A s = true) : g_nn B s = g_nn A s := by
  unfold g_nn
  rw [fv_eo h hs f, fv_n1 h hs f, fv_1 h hs f (by omega) (by omega)]
  by_cases e : A 1 s 8 = nI (s / 10)
  · obtain ⟨p1, p2⟩ := g_n1_pg hs (hv s hs f) e
    rw [fv_fu h p2]
    by_cases g : g_fu A (g_n1 A s) = true
    · rw [fv_1 h p2 g (by omega) (by omega), fv_1 h p2 g (by omega) (by omega)]
    · rw [if_neg (fun q => g q.2.2.1), if_neg (fun q => g q.2.2.1)]
  · rw [if_neg (fun q => e q.2.1), if_neg (fun q => e q.2.1)]
theorem fv_PI (h : g_fv A B) (w : g_PI A) : g_PI B := by
  obtain ⟨wt, wq, wl, wv, wc, wL, wT, wE, wF⟩ := w
  obtain ⟨h1, h2, h3, h4, h5, h6, h7⟩ := id h
  have lk : ∀ a x, a < 60 → g_lk B a x → g_lk A a x := fun a x ha l => by
    rcases l with ⟨l1, l2, l3⟩ | ⟨l1, l2⟩
    · obtain ⟨k1, k2, k3⟩ := h7 a ha l1 l2
      refine Or.inl ⟨k1, k2, ?_⟩
      rw [g_ch_2 l2, k3, ← g_ch_2 k2] at l3
      exact l3
    · rw [fv_fu h ha] at l1
      rw [fv_nn h wv ha l1] at l2
      exact Or.inr ⟨l1, l2⟩
  refine ⟨g_ft_wt h1 wt, g_ft_wq h1 wq, h4, fun s hs f => ?_, fun s hs f e f2 => ?_, fun a b x ha hb hx la lb => wL a b x ha hb hx (lk a x ha la) (lk b x hb lb), fun a ha ia ka => ?_, fun s hs f e => ?_, fun s hs f e => ?_⟩
  · rw [fv_fu h hs] at f; exact fv_ws h hs f (wv s hs f)
  · rw [fv_fu h hs] at f
    rw [fv_1 h hs f (by omega) (by omega)] at e
    rw [fv_n1 h hs f] at f2 ⊢
    obtain ⟨p1, p2⟩ := g_n1_pg hs (wv s hs f) e
    rw [fv_fu h p2] at f2
    rw [fv_mm h hs f, fv_mm h p2 f2]
    exact wc s hs f e f2
  · obtain ⟨k1, k2, k3⟩ := h7 a ha ia ka
    obtain ⟨⟨x, hx, e⟩, t2, t3, t4⟩ := wT a ha k1 k2
    have hc : g_ch B a = g_ch A a := by rw [g_ch_2 ka, g_ch_2 k2, k3]
    have hc60 : g_ch A a < 60 := by rw [g_ch_2 k2, e, g_cl (by omega)]; omega
    rw [hc, fv_fu h hc60, fv_mk h hc60 t2, fv_1 h hc60 t2 (by omega) (by omega), h1.1, k3]
    exact ⟨⟨x, hx, e⟩, t2, t3, t4⟩
  · rw [fv_fu h hs] at f
    rw [fv_en h hs f] at e ⊢
    rw [fv_mk h hs f, h1.1]
    exact wE s hs f e
  · rw [fv_fu h hs] at f
    rw [fv_mk h hs f, h1.1]
    exact (h6 s hs f).2.2 e
theorem fv_wO (h : g_fv A B) (hv : g_wv A) (w : g_wO A) : g_wO B := fun s hs f e0 eo e8 => by
  rw [fv_fu h hs] at f
  rw [fv_en h hs f] at e0 eo
  rw [h.1.1] at eo
  rw [fv_1 h hs f (by omega) (by omega)] at e8
  obtain ⟨t1, t2⟩ := w s hs f e0 eo e8
  have n60 := g_n2_lt (hv s hs f) e8
  rw [fv_n2 h hs f, fv_fu h n60, fv_1 h n60 t1 (by omega) (by omega), fv_1 h hs f (by omega) (by omega)]
  exact ⟨t1, t2⟩
theorem fv_wn (h : g_fv A B) {t : Nat} : g_wn B t = g_wn A t := by unfold g_wn; rw [h.2.1]
theorem fv_wp (h : g_fv A B) {t : Nat} : ∀ i, g_wp B t i = g_wp A t i := by
  intro i
  induction i with
  | zero => rfl
  | succ i ih => rw [g_wp_s, g_wp_s, ih, fv_wn h]
theorem fv_ww (h : g_fv A B) (w : g_ww A) : g_ww B := by
  refine ⟨fun t a b => ?_, fun t a b => ?_⟩
  · rw [g_ft_nx h.1] at b
    rw [h.2.1, fv_wn h, g_ft_nx h.1]
    exact w.1 t a b
  · rw [g_ft_nx h.1] at b
    obtain ⟨n, hn⟩ := w.2 t a b
    exact ⟨n, by rw [fv_wp h]; exact hn⟩
theorem fv_nr (h : g_fv A B) : g_nr B = g_nr A := by unfold g_nr; rw [h.2.2.1 3 (by omega)]
theorem fv_wr (h : g_fv A B) (w : g_wr A) : g_wr B := by
  refine ⟨by rw [fv_nr h, h.2.2.1 3 (by omega)]; exact w.1, by rw [fv_nr h]; exact w.2.1, fun s hs f => ?_⟩
  rw [fv_fu h hs] at f
  rw [fv_nr h, fv_1 h hs f (by omega) (by omega), fv_1 h hs f (by omega) (by omega)]
  exact w.2.2 s hs f
theorem fv_wI (h : g_fv A B) (w : g_wI A) : g_wI B := fun a b ha hb fa fb e => by
  rw [fv_fu h ha] at fa
  rw [fv_fu h hb] at fb
  rw [fv_1 h ha fa (by omega) (by omega), fv_1 h hb fb (by omega) (by omega)] at e
  have := w a b ha hb fa fb e
  unfold g_ed
  rw [fv_mk h ha fa, fv_mk h hb fb, fv_en h ha fa, fv_en h hb fb, fv_eo h ha fa, fv_eo h hb fb, h.1.1, h.1.1, h.1.1, h.1.1]
  exact this
theorem fv_W (h : g_fv A B) (w : g_W A) (wi : g_wi B) (we : g_we B) (wg : g_wg B) (wd : g_wd B) : g_W B := by
  obtain ⟨hI, hX, _, ww, wr, wb, _, wI⟩ := w
  exact ⟨fv_PI h hI, ⟨wi, we, fv_wO h hI.2.2.2.1 hX.2.2⟩, wg, fv_ww h ww, fv_wr h wr, by unfold g_wb; rw [h.2.2.1 1 (by omega)]; exact wb, wd, fv_wI h wI⟩
/-- made order -/
theorem fv_m {b : Nat} {S S' : g_S} (h : g_fv A B) (h8 : B 0 8 0 = A 0 8 0) (hS : S'.1 0 8 0 = S.1 0 8 0) (hs : ∀ s, s < 60 → g_fu A s = true → S'.1 3 9 s = S.1 3 9 s) (rm : r_m b S A) : r_m b S' B := by
  obtain ⟨⟨x, y, h1, h2, h3, h4, h5⟩, h6⟩ := rm
  have ecm : ∀ s, s < 60 → g_fu A s = true → g_cm S' s = g_cm S s := fun s a f => by unfold g_cm; rw [hs s a f]
  refine ⟨⟨x, y, by rw [hS]; exact h1, by rw [h8]; exact h2, h3, h4, fun s a f => ?_⟩, fun s s' a a' f f' => ?_⟩
  · rw [fv_fu h a] at f
    rw [ecm s a f, fv_mm h a f, hs s a f, fv_1 h a f (by omega) (by omega)]
    exact h5 s a f
  · rw [fv_fu h a] at f
    rw [fv_fu h a'] at f'
    rw [ecm s a f, ecm s' a' f', fv_mm h a f, fv_mm h a' f']
    exact h6 s s' a a' f f'
end g_FV
