/-! rows; entries -/
/-- the same but for the index, events, counts, what was found -/
def g_fq (A B : g_A) : Prop := (∀ s w, B 1 s w = A 1 s w) ∧ (∀ s w, B 3 s w = A 3 s w) ∧ (∀ s w, B 6 s w = A 6 s w) ∧ ∀ i, i = 1 ∨ i = 3 ∨ i = 4 ∨ (17 ≤ i ∧ i ≤ 22) → B 0 i 0 = A 0 i 0
section g_FQ
variable {A B : g_A}
theorem fq_ft (h : g_fq A B) : g_ft A B := ⟨h.2.1, h.2.2.2 4 (by omega)⟩
theorem fq_ln (h : g_fq A B) {p : Nat} (hp : p < 6) : g_ln B p = g_ln A p := by unfold g_ln; rw [h.2.2.2 (17 + p) (by omega)]
theorem fq_iv (h : g_fq A B) {s : Nat} (hs : s < 60) : g_iv B s = g_iv A s := by unfold g_iv; rw [fq_ln h (by omega)]
theorem fq_fu (h : g_fq A B) {s : Nat} (hs : s < 60) : g_fu B s = g_fu A s := by unfold g_fu; rw [fq_iv h hs, h.1]
theorem fq_mk (h : g_fq A B) {s : Nat} : g_mk B s = g_mk A s := by unfold g_mk; rw [h.1]
theorem fq_en (h : g_fq A B) {s : Nat} : g_en B s = g_en A s := by unfold g_en; rw [h.1]
theorem fq_eo (h : g_fq A B) {s : Nat} : g_eo B s = g_eo A s := by unfold g_eo; rw [fq_en h, h.2.1]
theorem fq_n1 (h : g_fq A B) {s : Nat} : g_n1 B s = g_n1 A s := by unfold g_n1; rw [h.1]
theorem fq_n2 (h : g_fq A B) {s : Nat} : g_n2 B s = g_n2 A s := by unfold g_n2; rw [h.1, h.1]
theorem fq_mm (h : g_fq A B) {s : Nat} : g_mm B s = g_mm A s := by unfold g_mm; rw [h.1]
theorem fq_ch (h : g_fq A B) {s : Nat} : g_ch B s = g_ch A s := by unfold g_ch; rw [h.1, h.1]
theorem fq_ws (h : g_fq A B) {s : Nat} (w : g_ws A s) : g_ws B s := by
  unfold g_ws
  rw [fq_mk h, fq_en h, g_ft_tn (fq_ft h), g_ft_tn (fq_ft h), h.1, h.1, h.1, h.1, h.1, h.1]
  exact w
theorem fq_nn (h : g_fq A B) (hv : g_wv A) {s : Nat} (hs : s < 60) (f : g_fu A s = true) : g_nn B s = g_nn A s := by
  unfold g_nn
  rw [fq_eo h, fq_n1 h, h.1, h.1, h.1]
  by_cases e : A 1 s 8 = nI (s / 10)
  · obtain ⟨p1, p2⟩ := g_n1_pg hs (hv s hs f) e
    rw [fq_fu h p2]
  · rw [if_neg (fun q => e q.2.1), if_neg (fun q => e q.2.1)]
theorem fq_PI (h : g_fq A B) (w : g_PI A) : g_PI B := by
  obtain ⟨wt, wq, wl, wv, wc, wL, wT, wE, wF⟩ := w
  have lk : ∀ a x, a < 60 → g_lk B a x → g_lk A a x := fun a x ha l => by
    rcases l with ⟨l1, l2, l3⟩ | ⟨l1, l2⟩
    · rw [fq_iv h ha] at l1
      rw [h.1] at l2
      rw [fq_ch h] at l3
      exact Or.inl ⟨l1, l2, l3⟩
    · rw [fq_fu h ha] at l1
      rw [fq_nn h wv ha l1] at l2
      exact Or.inr ⟨l1, l2⟩
  refine ⟨g_ft_wt (fq_ft h) wt, g_ft_wq (fq_ft h) wq, fun p hp => by rw [fq_ln h hp, h.2.2.2 (17 + p) (by omega)]; exact wl p hp, fun s hs f => ?_, fun s hs f e f2 => ?_, fun a b x ha hb hx la lb => wL a b x ha hb hx (lk a x ha la) (lk b x hb lb), fun a ha ia ka => ?_, fun s hs f e => ?_, fun s hs f e => ?_⟩
  · rw [fq_fu h hs] at f; exact fq_ws h (wv s hs f)
  · rw [fq_fu h hs] at f
    rw [h.1] at e
    rw [fq_n1 h] at f2 ⊢
    rw [fq_mm h, fq_mm h]
    obtain ⟨p1, p2⟩ := g_n1_pg hs (wv s hs f) e
    rw [fq_fu h p2] at f2
    exact wc s hs f e f2
  · rw [fq_iv h ha] at ia
    rw [h.1] at ka
    obtain ⟨⟨x, hx, e⟩, t2, t3, t4⟩ := wT a ha ia ka
    have hc60 : g_ch A a < 60 := by rw [g_ch_2 ka, e, g_cl (by omega)]; omega
    rw [fq_ch h, fq_fu h hc60, fq_mk h, h.1, h.1, h.2.1]
    exact ⟨⟨x, hx, e⟩, t2, t3, t4⟩
  · rw [fq_fu h hs] at f
    rw [fq_en h] at e ⊢
    rw [fq_mk h, h.2.1]
    exact wE s hs f e
  · rw [fq_fu h hs] at f
    rw [h.1] at e
    rw [fq_mk h, h.2.1]
    exact wF s hs f e
theorem fq_wO (h : g_fq A B) (hv : g_wv A) (w : g_wO A) : g_wO B := fun s hs f e0 eo e8 => by
  rw [fq_fu h hs] at f
  rw [fq_en h] at e0 eo
  rw [h.2.1] at eo
  rw [h.1] at e8
  rw [fq_n2 h, fq_fu h (g_n2_lt (hv s hs f) e8), h.1, h.1]
  exact w s hs f e0 eo e8
theorem fq_wn (h : g_fq A B) {t : Nat} : g_wn B t = g_wn A t := by unfold g_wn; rw [h.2.2.1]
theorem fq_wp (h : g_fq A B) {t : Nat} : ∀ i, g_wp B t i = g_wp A t i := by
  intro i
  induction i with
  | zero => rfl
  | succ i ih => rw [g_wp_s, g_wp_s, ih, fq_wn h]
theorem fq_ww (h : g_fq A B) (w : g_ww A) : g_ww B := by
  refine ⟨fun t a b => ?_, fun t a b => ?_⟩
  · rw [g_ft_nx (fq_ft h)] at b
    rw [h.2.2.1, fq_wn h, g_ft_nx (fq_ft h)]
    exact w.1 t a b
  · rw [g_ft_nx (fq_ft h)] at b
    obtain ⟨n, hn⟩ := w.2 t a b
    exact ⟨n, by rw [fq_wp h]; exact hn⟩
theorem fq_wr (h : g_fq A B) (w : g_wr A) : g_wr B := by
  have hn : g_nr B = g_nr A := by unfold g_nr; rw [h.2.2.2 3 (by omega)]
  refine ⟨by rw [hn, h.2.2.2 3 (by omega)]; exact w.1, by rw [hn]; exact w.2.1, fun s hs f => ?_⟩
  rw [fq_fu h hs] at f
  rw [hn, h.1, h.1]
  exact w.2.2 s hs f
theorem fq_wb (h : g_fq A B) (w : g_wb A) : g_wb B := by unfold g_wb; rw [h.2.2.2 1 (by omega)]; exact w
theorem fq_wI (h : g_fq A B) (w : g_wI A) : g_wI B := fun a b ha hb fa fb e => by
  rw [fq_fu h ha] at fa
  rw [fq_fu h hb] at fb
  rw [h.1, h.1] at e
  have := w a b ha hb fa fb e
  unfold g_ed
  rw [fq_mk h, fq_mk h, fq_en h, fq_en h, fq_eo h, fq_eo h, h.2.1, h.2.1, h.2.1, h.2.1]
  exact this
theorem fq_W (h : g_fq A B) (w : g_W A) (wi : g_wi B) (we : g_we B) (wg : g_wg B) (wd : g_wd B) : g_W B := by
  obtain ⟨hI, hX, _, ww, wr, wb, _, wI⟩ := w
  exact ⟨fq_PI h hI, ⟨wi, we, fq_wO h hI.2.2.2.1 hX.2.2⟩, wg, fq_ww h ww, fq_wr h wr, fq_wb h wb, wd, fq_wI h wI⟩
end g_FQ
theorem g_W_ent {A : g_A} {s : Nat} {key : Int32} (w : g_W A) (hn : g_ne A < 60) (hs : s < 60) (hf : g_fu A s = true) (hl : A 1 s 10 = 0) : g_W (g_ent A key s) := by
  have hwi := w.2.1.1
  have hwe := w.2.1.2.1
  obtain ⟨e1, e2, e3, e4, e5, e6⟩ := g_ent_f (key := key) (s := s) hwi hn
  have hq : g_fq A (g_ent A key s) := ⟨fun s w => e6 _ _ _ (by omega) (by omega), fun s w => e6 _ _ _ (by omega) (by omega), fun s w => e6 _ _ _ (by omega) (by omega), fun i hi => e6 _ _ _ (by omega) (by omega)⟩
  refine fq_W hq w (g_ent_wi hwi hn hs) (fun i hi => ?_) ?_ ?_
  · rw [e2] at hi
    have key2 : ∃ x, g_ep (g_ent A key s) i = x ∧ x < 60 ∧ g_iv A x = true ∧ ((A 1 x 0 = 1 ∧ A 1 x 10 = 0) ∨ A 1 x 0 = 2 ∨ A 1 x 0 = 3) := by
      rcases g_ent_e (key := key) hwi hn hs hi with ⟨q, q1, q2⟩ | ⟨q, q1⟩ | ⟨q, q1, q2⟩
      · have := hwe i (by omega)
        exact ⟨_, q1, (g_ep_lt hwi (by omega)).1, this.1, this.2⟩
      · exact ⟨_, q1, hs, (g_fu_iv hf).1, Or.inl ⟨(g_fu_iv hf).2, hl⟩⟩
      · have := hwe (i - 1) (by omega)
        exact ⟨_, q1, (g_ep_lt hwi (by omega)).1, this.1, this.2⟩
    obtain ⟨x, x1, x2, x3, x4⟩ := key2
    rw [x1, fq_iv hq x2, hq.1, hq.1]
    exact ⟨x3, x4⟩
  · unfold g_wg g_nv
    rw [e6 _ _ _ (by omega) (by omega)]; exact w.2.2.1
  · have hz := w.2.2.2.2.2.2.1
    have hn' : g_nf (g_ent A key s) = g_nf A := by unfold g_nf; rw [e6 _ _ _ (by omega) (by omega)]
    refine ⟨by rw [hn', e6 _ _ _ (by omega) (by omega)]; exact hz.1, by rw [hn']; exact hz.2.1, fun i hi => ?_⟩
    rw [hn'] at hi
    rw [e6 _ _ _ (by omega) (by omega), e6 _ _ _ (by omega) (by omega)]
    exact hz.2.2 i hi
/-- a row more -/
def g_row (A : g_A) : g_A := g_au A 0 3 0 (A 0 3 0 + 1)
theorem g_row_o {A : g_A} {g i w : Nat} (h : ¬ (g = 0 ∧ i = 3 ∧ w = 0)) : g_row A g i w = A g i w := g_au_ne h
theorem g_W_ins {b : Nat} {A : g_A} {s t : Nat} {key val size : Int32} (w : g_W A) (hM : g_wM b A) (hs : s < 60) (hb : b < 2 ^ 30) (hf : g_fu A s = false) (hk : g_iv A s = true → A 1 s 0 = 0) (hv : s % 10 ≤ g_ln A (s / 10)) (ht : g_tn A t) (hkey : 0 ≤ key) (hr : g_nr A < 40)
    (hot : A 3 t 0 = 0 ∨ ∀ a, a < 60 → g_fu A a = true → g_en A a ≠ t) : g_W (g_fil (g_row A) s (A 0 3 0) key val size (nI t) 0) := by
  have ro : ∀ {g i w : Nat}, ¬ (g = 0 ∧ i = 3 ∧ w = 0) → g_row A g i w = A g i w := fun h => g_row_o h
  have iv : ∀ x, x < 60 → g_iv (g_row A) x = g_iv A x := fun x hx => by unfold g_iv g_ln; rw [ro (by omega)]
  have fu : ∀ x, x < 60 → g_fu (g_row A) x = g_fu A x := fun x hx => by unfold g_fu; rw [iv x hx, ro (by omega)]
  have fk0 : g_fk A (g_au (g_row A) 0 3 0 (A 0 3 0)) := fun g i w a b c d e => by
    by_cases z : g = 0 ∧ i = 3 ∧ w = 0
    · obtain ⟨rfl, rfl, rfl⟩ := z; rw [g_au_eq]
    · rw [g_au_ne z, ro z]
  have W0 : g_W0 (g_row A) := by
    have h0 := g_W_0 w
    obtain ⟨⟨wt, wq, wl, wv, wc, wL, wT, wE, wF⟩, ⟨wi, we, wO⟩, wg, ww, wb, wd⟩ := h0
    have hq : ∀ {g i w : Nat}, g ≠ 0 → g_row A g i w = A g i w := fun h => ro (by omega)
    have r1 : (g_row A) 1 = A 1 := by funext i w; exact hq (by omega)
    have r2 : (g_row A) 2 = A 2 := by funext i w; exact hq (by omega)
    have r3 : (g_row A) 3 = A 3 := by funext i w; exact hq (by omega)
    have r5 : (g_row A) 5 = A 5 := by funext i w; exact hq (by omega)
    have r6 : (g_row A) 6 = A 6 := by funext i w; exact hq (by omega)
    have z : ∀ i, i ≠ 3 → (g_row A) 0 i 0 = A 0 i 0 := fun i hi => ro (by omega)
    have ft : g_ft A (g_row A) := ⟨fun t i => by rw [r3], z 4 (by omega)⟩
    have mk : ∀ x, g_mk (g_row A) x = g_mk A x := fun x => by unfold g_mk; rw [r1]
    have en : ∀ x, g_en (g_row A) x = g_en A x := fun x => by unfold g_en; rw [r1]
    have eo : ∀ x, g_eo (g_row A) x = g_eo A x := fun x => by unfold g_eo; rw [en, r3]
    have n1 : ∀ x, g_n1 (g_row A) x = g_n1 A x := fun x => by unfold g_n1; rw [r1]
    have n2 : ∀ x, g_n2 (g_row A) x = g_n2 A x := fun x => by unfold g_n2; rw [r1]
    have mm : ∀ x, g_mm (g_row A) x = g_mm A x := fun x => by unfold g_mm; rw [r1]
    have ch : ∀ x, g_ch (g_row A) x = g_ch A x := fun x => by unfold g_ch; rw [r1]
    have nn : ∀ x, x < 60 → g_fu A x = true → g_nn (g_row A) x = g_nn A x := fun x hx f => by
      unfold g_nn
      rw [eo, n1, r1]
      by_cases e : A 1 x 8 = nI (x / 10)
      · rw [fu _ (g_n1_pg hx (wv x hx f) e).2]
      · rw [if_neg (fun q => e q.2.1), if_neg (fun q => e q.2.1)]
    have lk : ∀ a x, a < 60 → g_lk (g_row A) a x → g_lk A a x := fun a x ha l => by
      rcases l with ⟨l1, l2, l3⟩ | ⟨l1, l2⟩
      · rw [iv a ha] at l1; rw [r1] at l2; rw [ch] at l3; exact Or.inl ⟨l1, l2, l3⟩
      · rw [fu a ha] at l1; rw [nn a ha l1] at l2; exact Or.inr ⟨l1, l2⟩
    have fz : g_fz A (g_row A) := ⟨ft, fun t i => by rw [r6], fun t i => by rw [r5], z 7 (by omega), z 1 (by omega), z 6 (by omega)⟩
    have ne : g_ne (g_row A) = g_ne A := by unfold g_ne; rw [z 5 (by omega)]
    have ep : ∀ i, g_ep (g_row A) i = g_ep A i := fun i => by unfold g_ep; rw [r2]
    refine ⟨⟨g_ft_wt ft wt, g_ft_wq ft wq, fun p hp => ?_, fun x hx f => ?_, fun x hx f e f2 => ?_, fun a c x ha hc hx la lc => wL a c x ha hc hx (lk a x ha la) (lk c x hc lc), fun a ha ia ka => ?_, fun x hx f e => ?_, fun x hx f e => ?_⟩, ⟨?_, fun i hi => ?_, fun x hx f e0 eo' e8 => ?_⟩, g_fz_wg fz wg, g_fz_ww fz ww, g_fz_wb fz wb, g_fz_wd fz wd⟩
    · have : g_ln (g_row A) p = g_ln A p := by unfold g_ln; rw [z (17 + p) (by omega)]
      rw [this, z (17 + p) (by omega)]; exact wl p hp
    · rw [fu x hx] at f
      have := wv x hx f
      unfold g_ws
      rw [mk, en, g_ft_tn ft, g_ft_tn ft, r1]; exact this
    · rw [fu x hx] at f
      rw [r1] at e
      rw [n1] at f2 ⊢
      rw [fu _ (g_n1_pg hx (wv x hx f) e).2] at f2
      rw [mm, mm]; exact wc x hx f e f2
    · rw [iv a ha] at ia
      rw [r1] at ka
      obtain ⟨⟨x, hx, e⟩, t2, t3, t4⟩ := wT a ha ia ka
      have hc60 : g_ch A a < 60 := by rw [g_ch_2 ka, e, g_cl (by omega)]; omega
      rw [ch, fu _ hc60, mk, r1, r3]
      exact ⟨⟨x, hx, e⟩, t2, t3, t4⟩
    · rw [fu x hx] at f
      rw [en] at e ⊢
      rw [mk, r3]; exact wE x hx f e
    · rw [fu x hx] at f
      rw [r1] at e
      rw [mk, r3]; exact wF x hx f e
    · refine ⟨by rw [ne, z 5 (by omega)]; exact wi.1, by rw [ne]; exact wi.2.1, fun i hi => ?_⟩
      rw [ne] at hi
      rw [r2]; exact wi.2.2 i hi
    · rw [ne] at hi
      rw [ep, iv _ (g_ep_lt wi hi).1, r1]; exact we i hi
    · rw [fu x hx] at f
      rw [en] at e0 eo'
      rw [r3] at eo'
      rw [r1] at e8
      rw [n2, fu _ (g_n2_lt (wv x hx f) e8), r1]
      exact wO x hx f e0 eo' e8
  have hM' : g_wM b (g_row A) := by
    obtain ⟨y, y1, y2, y3⟩ := hM
    refine ⟨y, by rw [ro (by omega)]; exact y1, y2, fun x hx f => ?_⟩
    rw [fu x hx] at f
    have : g_mm (g_row A) x = g_mm A x := by unfold g_mm; rw [ro (by omega)]
    rw [this]; exact y3 x hx f
  have wl := W0.1.2.2.1
  have lnr : g_ln (g_row A) (s / 10) = g_ln A (s / 10) := by unfold g_ln; rw [ro (by omega)]
  have hv' : s % 10 ≤ g_ln (g_row A) (s / 10) := by rw [lnr]; exact hv
  have ft : g_ft A (g_row A) := ⟨fun t i => ro (by omega), ro (by omega)⟩
  obtain ⟨r, _⟩ := g_W0_fil (row := A 0 3 0) (key := key) (val := val) (size := size) (light := 0) W0 hM' hs hb (by rw [fu s hs]; exact hf) (fun h => by rw [ro (by omega)]; exact hk (by rw [← iv s hs]; exact h)) hv' ((g_ft_tn ft).mpr ht) (hot.elim (fun q => Or.inl (by rw [ro (by omega)]; exact q)) (fun q => Or.inr (fun a ha fa => by unfold g_en; rw [ro (by omega)]; exact q a ha (by rw [← fu a ha]; exact fa)))) (Or.inl rfl)
  obtain ⟨is, io⟩ := g_fil_iv (row := A 0 3 0) (key := key) (val := val) (size := size) (maker := nI t) (light := 0) hs wl hv'
  obtain ⟨fs, fo⟩ := g_fil_fu (row := A 0 3 0) (key := key) (val := val) (size := size) (maker := nI t) (light := 0) hs wl hv'
  obtain ⟨_, _, _, _, wr, _, _, wI⟩ := w
  have e3 : g_fil (g_row A) s (A 0 3 0) key val size (nI t) 0 0 3 0 = nI (g_nr A + 1) := by
    rw [g_fil_o (by omega) (by omega)]
    show g_au A 0 3 0 _ 0 3 0 = _
    rw [g_au_eq, wr.1, nI_1]
  have nr' : g_nr (g_fil (g_row A) s (A 0 3 0) key val size (nI t) 0) = g_nr A + 1 := by
    show (g_fil (g_row A) s (A 0 3 0) key val size (nI t) 0 0 3 0).toNatClampNeg = _
    rw [e3, g_cl (by omega)]
  have co : ∀ x w, x ≠ s → g_fil (g_row A) s (A 0 3 0) key val size (nI t) 0 1 x w = A 1 x w := fun x w hx => by rw [g_fil_o (by omega) (by omega), ro (by omega)]
  have c3 : ∀ x w, g_fil (g_row A) s (A 0 3 0) key val size (nI t) 0 3 x w = A 3 x w := fun x w => by rw [g_fil_o (by omega) (by omega), ro (by omega)]
  have cs : g_fil (g_row A) s (A 0 3 0) key val size (nI t) 0 1 s 2 = nI (g_nr A) := by rw [g_fil_s (by omega)]; exact wr.1
  refine ⟨r.1, r.2.1, r.2.2.1, r.2.2.2.1, ⟨by rw [nr', e3], by rw [nr']; omega, fun x hx f => ?_⟩, r.2.2.2.2.1, r.2.2.2.2.2, fun a c ha hc fa fc e => ?_⟩
  · rw [nr']
    by_cases d : x = s
    · subst d; exact ⟨⟨g_nr A, by omega, cs⟩, by rw [g_fil_s (by omega)]; exact hkey⟩
    · rw [fo x hx d, fu x hx] at f
      obtain ⟨⟨q, q1, q2⟩, q3⟩ := wr.2.2 x hx f
      exact ⟨⟨q, by omega, by rw [co x 2 d]; exact q2⟩, by rw [co x 3 d]; exact q3⟩
  · have other : ∀ x, x < 60 → x ≠ s → g_fu (g_fil (g_row A) s (A 0 3 0) key val size (nI t) 0) x = true → ∃ q, q < g_nr A ∧ g_fil (g_row A) s (A 0 3 0) key val size (nI t) 0 1 x 2 = nI q := fun x hx d f => by
      rw [fo x hx d, fu x hx] at f
      obtain ⟨⟨q, q1, q2⟩, q3⟩ := wr.2.2 x hx f
      exact ⟨q, q1, by rw [co x 2 d]; exact q2⟩
    by_cases da : a = s
    · subst da
      by_cases dc : c = a
      · subst dc
        exact ⟨fun _ _ _ _ => rfl, fun _ _ _ _ => rfl, fun h1 h2 _ => by rw [h1] at h2; exact absurd h2 (by decide), fun _ _ => rfl⟩
      · exfalso
        obtain ⟨q, q1, q2⟩ := other c hc dc fc
        rw [cs, q2] at e
        have := (nI_eq (by omega) (by omega)).mp e
        omega
    · by_cases dc : c = s
      · subst dc
        exfalso
        obtain ⟨q, q1, q2⟩ := other a ha da fa
        rw [cs, q2] at e
        have := (nI_eq (by omega) (by omega)).mp e
        omega
      · rw [fo a ha da, fu a ha] at fa
        rw [fo c hc dc, fu c hc] at fc
        rw [co a 2 da, co c 2 dc] at e
        have := wI a c ha hc fa fc e
        unfold g_ed g_eo g_en g_mk at this ⊢
        rw [co a 6 da, co c 6 dc, co a 7 da, co c 7 dc, c3, c3, c3, c3]
        exact this
