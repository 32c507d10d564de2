/-! set, await: what they keep -/
def g_fb (A B : g_A) : Prop := (∀ s w, B 1 s w = A 1 s w) ∧ (∀ s w, B 3 s w = A 3 s w) ∧ ∀ i, i = 3 ∨ i = 4 ∨ (17 ≤ i ∧ i ≤ 22) → B 0 i 0 = A 0 i 0
section g_FB
variable {A B : g_A}
theorem fb_ft (h : g_fb A B) : g_ft A B := ⟨h.2.1, h.2.2 4 (by omega)⟩
theorem fb_ln (h : g_fb A B) {p : Nat} (hp : p < 6) : g_ln B p = g_ln A p := by unfold g_ln; rw [h.2.2 (17 + p) (by omega)]
theorem fb_iv (h : g_fb A B) {s : Nat} (hs : s < 60) : g_iv B s = g_iv A s := by unfold g_iv; rw [fb_ln h (by omega)]
theorem fb_fu (h : g_fb A B) {s : Nat} (hs : s < 60) : g_fu B s = g_fu A s := by unfold g_fu; rw [fb_iv h hs, h.1]
theorem fb_mk (h : g_fb A B) {s : Nat} : g_mk B s = g_mk A s := by unfold g_mk; rw [h.1]
theorem fb_en (h : g_fb A B) {s : Nat} : g_en B s = g_en A s := by unfold g_en; rw [h.1]
theorem fb_eo (h : g_fb A B) {s : Nat} : g_eo B s = g_eo A s := by unfold g_eo; rw [fb_en h, h.2.1]
theorem fb_n1 (h : g_fb A B) {s : Nat} : g_n1 B s = g_n1 A s := by unfold g_n1; rw [h.1]
theorem fb_n2 (h : g_fb A B) {s : Nat} : g_n2 B s = g_n2 A s := by unfold g_n2; rw [h.1, h.1]
theorem fb_mm (h : g_fb A B) {s : Nat} : g_mm B s = g_mm A s := by unfold g_mm; rw [h.1]
theorem fb_ch (h : g_fb A B) {s : Nat} : g_ch B s = g_ch A s := by unfold g_ch; rw [h.1, h.1]
theorem fb_ws (h : g_fb A B) {s : Nat} (w : g_ws A s) : g_ws B s := by
  unfold g_ws
  rw [fb_mk h, fb_en h, g_ft_tn (fb_ft h), g_ft_tn (fb_ft h), h.1, h.1, h.1, h.1, h.1, h.1]
  exact w
theorem fb_nn (h : g_fb A B) (hv : g_wv A) {s : Nat} (hs : s < 60) (f : g_fu A s = true) : g_nn B s = g_nn A s := by
  unfold g_nn
  rw [fb_eo h, fb_n1 h, h.1, h.1, h.1]
  by_cases e : A 1 s 8 = nI (s / 10)
  · obtain ⟨p1, p2⟩ := g_n1_pg hs (hv s hs f) e
    rw [fb_fu h p2]
  · rw [if_neg (fun q => e q.2.1), if_neg (fun q => e q.2.1)]
theorem fb_PI (h : g_fb A B) (w : g_PI A) : g_PI B := by
  obtain ⟨wt, wq, wl, wv, wc, wL, wT, wE, wF⟩ := w
  have lk : ∀ a x, a < 60 → g_lk B a x → g_lk A a x := fun a x ha l => by
    rcases l with ⟨l1, l2, l3⟩ | ⟨l1, l2⟩
    · rw [fb_iv h ha] at l1
      rw [h.1] at l2
      rw [fb_ch h] at l3
      exact Or.inl ⟨l1, l2, l3⟩
    · rw [fb_fu h ha] at l1
      rw [fb_nn h wv ha l1] at l2
      exact Or.inr ⟨l1, l2⟩
  refine ⟨g_ft_wt (fb_ft h) wt, g_ft_wq (fb_ft h) wq, fun p hp => by rw [fb_ln h hp, h.2.2 (17 + p) (by omega)]; exact wl p hp, fun s hs f => ?_, fun s hs f e f2 => ?_, fun a b x ha hb hx la lb => wL a b x ha hb hx (lk a x ha la) (lk b x hb lb), fun a ha ia ka => ?_, fun s hs f e => ?_, fun s hs f e => ?_⟩
  · rw [fb_fu h hs] at f; exact fb_ws h (wv s hs f)
  · rw [fb_fu h hs] at f
    rw [h.1] at e
    rw [fb_n1 h] at f2 ⊢
    rw [fb_mm h, fb_mm h]
    obtain ⟨p1, p2⟩ := g_n1_pg hs (wv s hs f) e
    rw [fb_fu h p2] at f2
    exact wc s hs f e f2
  · rw [fb_iv h ha] at ia
    rw [h.1] at ka
    obtain ⟨⟨x, hx, e⟩, t2, t3, t4⟩ := wT a ha ia ka
    have hc60 : g_ch A a < 60 := by rw [g_ch_2 ka, e, g_cl (by omega)]; omega
    rw [fb_ch h, fb_fu h hc60, fb_mk h, h.1, h.1, h.2.1]
    exact ⟨⟨x, hx, e⟩, t2, t3, t4⟩
  · rw [fb_fu h hs] at f
    rw [fb_en h] at e ⊢
    rw [fb_mk h, h.2.1]
    exact wE s hs f e
  · rw [fb_fu h hs] at f
    rw [h.1] at e
    rw [fb_mk h, h.2.1]
    exact wF s hs f e
theorem fb_wO (h : g_fb A B) (hv : g_wv A) (w : g_wO A) : g_wO B := fun s hs f e0 eo e8 => by
  rw [fb_fu h hs] at f
  rw [fb_en h] at e0 eo
  rw [h.2.1] at eo
  rw [h.1] at e8
  rw [fb_n2 h, fb_fu h (g_n2_lt (hv s hs f) e8), h.1, h.1]
  exact w s hs f e0 eo e8
theorem fb_wr (h : g_fb A B) (w : g_wr A) : g_wr B := by
  have hn : g_nr B = g_nr A := by unfold g_nr; rw [h.2.2 3 (by omega)]
  refine ⟨by rw [hn, h.2.2 3 (by omega)]; exact w.1, by rw [hn]; exact w.2.1, fun s hs f => ?_⟩
  rw [fb_fu h hs] at f
  rw [hn, h.1, h.1]
  exact w.2.2 s hs f
theorem fb_wI (h : g_fb A B) (w : g_wI A) : g_wI B := fun a b ha hb fa fb e => by
  rw [fb_fu h ha] at fa
  rw [fb_fu h hb] at fb
  rw [h.1, h.1] at e
  have := w a b ha hb fa fb e
  unfold g_ed
  rw [fb_mk h, fb_mk h, fb_en h, fb_en h, fb_eo h, fb_eo h, h.2.1, h.2.1, h.2.1, h.2.1]
  exact this
theorem fb_W (h : g_fb A B) (w : g_W A) (wi : g_wi B) (we : g_we B) (wg : g_wg B) (ww : g_ww B) (wb : g_wb B) (wd : g_wd B) : g_W B := by
  obtain ⟨hI, hX, _, _, wr, _, _, wI⟩ := w
  exact ⟨fb_PI h hI, ⟨wi, we, fb_wO h hI.2.2.2.1 hX.2.2⟩, wg, ww, fb_wr h wr, wb, wd, fb_wI h wI⟩
end g_FB
theorem fb_m {b : Nat} {A B : g_A} {S S' : g_S} (h : g_fb A B) (h8 : B 0 8 0 = A 0 8 0) (hS : S'.1 0 8 0 = S.1 0 8 0) (hs : ∀ s, S'.1 3 9 s = S.1 3 9 s) (rm : r_m b S A) : r_m b S' B := by
  obtain ⟨⟨x, y, h1, h2, h3, h4, h5⟩, h6⟩ := rm
  have ecm : ∀ s, g_cm S' s = g_cm S s := fun s => by unfold g_cm; rw [hs s]
  refine ⟨⟨x, y, by rw [hS]; exact h1, by rw [h8]; exact h2, h3, h4, fun s a f => ?_⟩, fun s s' a a' f f' => ?_⟩
  · rw [fb_fu h a] at f
    rw [ecm s, fb_mm h, hs s, h.1]
    exact h5 s a f
  · rw [fb_fu h a] at f
    rw [fb_fu h a'] at f'
    rw [ecm s, ecm s', fb_mm h, fb_mm h]
    exact h6 s s' a a' f f'
theorem fb_e {A B : g_A} (h : g_fb A B) (h2 : ∀ i w, B 2 i w = A 2 i w) (h5 : B 0 5 0 = A 0 5 0) (wi : g_wi A) (we : g_we A) : g_wi B ∧ g_we B := by
  have hn : g_ne B = g_ne A := by unfold g_ne; rw [h5]
  have hp : ∀ i, g_ep B i = g_ep A i := fun i => by unfold g_ep; rw [h2, h2]
  refine ⟨⟨by rw [h5, hn]; exact wi.1, by rw [hn]; exact wi.2.1, fun i hi => ?_⟩, fun i hi => ?_⟩
  · rw [hn] at hi
    rw [h2, h2, h2]
    exact wi.2.2 i hi
  · rw [hn] at hi
    rw [hp, fb_iv h (g_ep_lt wi hi).1, h.1, h.1]
    exact we i hi
theorem fb_R {b : Nat} {A B : g_A} {S S' : g_S} (h : g_fb A B) (h0 : ∀ i, i = 5 ∨ i = 6 ∨ i = 7 ∨ i = 8 ∨ (9 ≤ i ∧ i ≤ 16) ∨ (23 ≤ i ∧ i ≤ 28) → B 0 i 0 = A 0 i 0) (h2 : ∀ i w, B 2 i w = A 2 i w) (h4 : ∀ i w, B 4 i w = A 4 i w) (h5 : ∀ i w, B 5 i w = A 5 i w) (hS : ∀ t f i, t ≠ 9 ∧ t ≠ 1 → ¬ (t = 0 ∧ (f = 5 ∨ f = 6)) → S'.1 t f i = S.1 t f i) (rg : r_g S' B) (rt : r_t S' B) (hR : g_R b S A) : g_R b S' B := by
  obtain ⟨_, _, rh, rp, rn, ri, rl, rf, rm⟩ := hR
  refine ⟨rg, rt, ?_, fun q hq => ⟨?_, ?_, fun j hj => ?_⟩, ?_, ⟨?_, fun i hi => ?_⟩, ⟨?_, fun i hi => ?_, fun j hj => ?_⟩, ⟨?_, fun i hi => ?_⟩, fb_m h (h0 8 (by omega)) (hS _ _ _ (by omega) (by omega)) (fun s => hS _ _ _ (by omega) (by omega)) rm⟩
  · unfold r_h
    rw [hS _ _ _ (by omega) (by omega), g_ft_hz (fb_ft h)]; exact rh
  · rw [hS _ _ _ (by omega) (by omega), h.2.2 (17 + q) (by omega)]; exact (rp q hq).1
  · rw [hS _ _ _ (by omega) (by omega), h0 (23 + q) (by omega)]; exact (rp q hq).2.1
  · exact r_s_eq ((rp q hq).2.2 j hj) (fun f => hS _ _ _ (by omega) (by omega)) (fb_iv h (by omega)) (fun w => h.1 _ w)
  · have e : ∀ f, S'.1 3 f 60 = S.1 3 f 60 := fun f => hS 3 f 60 (by omega) (by omega)
    unfold r_n
    simp only [e]
    exact rn
  · rw [hS _ _ _ (by omega) (by omega), h0 5 (by omega)]; exact ri.1
  · have hn : g_ne B = g_ne A := by unfold g_ne; rw [h0 5 (by omega)]
    have hp : g_ep B i = g_ep A i := by unfold g_ep; rw [h2, h2]
    rw [hn] at hi
    rw [hS _ _ _ (by omega) (by omega), hS _ _ _ (by omega) (by omega), hS _ _ _ (by omega) (by omega), h2, h2, hp]
    exact ri.2 i hi
  · rw [hS _ _ _ (by omega) (by omega), h0 6 (by omega)]; exact rl.1
  · have hn : g_nv B = g_nv A := by unfold g_nv; rw [h0 6 (by omega)]
    rw [hn] at hi
    rw [hS _ _ _ (by omega) (by omega), hS _ _ _ (by omega) (by omega), h4, h4]
    exact rl.2.1 i hi
  · rw [hS _ _ _ (by omega) (by omega), h0 (9 + j) (by omega)]; exact rl.2.2 j hj
  · rw [hS _ _ _ (by omega) (by omega), h0 7 (by omega)]; exact rf.1
  · have hn : g_nf B = g_nf A := by unfold g_nf; rw [h0 7 (by omega)]
    rw [hn] at hi
    rw [hS _ _ _ (by omega) (by omega), hS _ _ _ (by omega) (by omega), hS _ _ _ (by omega) (by omega), hS _ _ _ (by omega) (by omega), h5, h5, h5, h5, h5]
    exact rf.2 i hi
