/-! what holds of the rows holds on, as versions come and are ended -/
def g_wM (b : Nat) (A : g_A) : Prop := ∃ y, A 0 8 0 = nI y ∧ y ≤ b ∧ ∀ s, s < 60 → g_fu A s = true → g_mm A s < y
theorem r_m_wM {b : Nat} {S : g_S} {A : g_A} (h : r_m b S A) : g_wM b A := by
  obtain ⟨⟨x, y, h1, h2, h3, h4, h5⟩, _⟩ := h
  exact ⟨y, h2, h4, fun s hs f => (h5 s hs f).2.2.2⟩
/-- all but rows -/
def g_W0 (A : g_A) : Prop := g_PI A ∧ g_PX A ∧ g_wg A ∧ g_ww A ∧ g_wb A ∧ g_wd A
theorem g_W_0 {A : g_A} (h : g_W A) : g_W0 A := ⟨h.1, h.2.1, h.2.2.1, h.2.2.2.1, h.2.2.2.2.2.1, h.2.2.2.2.2.2.1⟩
/-- other rows of cells stay -/
def g_fz (A B : g_A) : Prop := g_ft A B ∧ (∀ t i, B 6 t i = A 6 t i) ∧ (∀ t i, B 5 t i = A 5 t i) ∧ B 0 7 0 = A 0 7 0 ∧ B 0 1 0 = A 0 1 0 ∧ B 0 6 0 = A 0 6 0
section g_FZ
variable {A B : g_A}
theorem g_fz_wn (h : g_fz A B) {t : Nat} : g_wn B t = g_wn A t := by unfold g_wn; rw [h.2.1]
theorem g_fz_wp (h : g_fz A B) {t : Nat} : ∀ i, g_wp B t i = g_wp A t i := by
  intro i
  induction i with
  | zero => rfl
  | succ i ih => rw [g_wp_s, g_wp_s, ih, g_fz_wn h]
theorem g_fz_ww (h : g_fz A B) (w : g_ww A) : g_ww B := by
  refine ⟨fun t a b => ?_, fun t a b => ?_⟩
  · rw [g_ft_nx h.1] at b
    rw [h.2.1, g_fz_wn h, g_ft_nx h.1]
    exact w.1 t a b
  · rw [g_ft_nx h.1] at b
    obtain ⟨n, hn⟩ := w.2 t a b
    exact ⟨n, by rw [g_fz_wp h]; exact hn⟩
theorem g_fz_wd (h : g_fz A B) (w : g_wd A) : g_wd B := by
  have hn : g_nf B = g_nf A := by unfold g_nf; rw [h.2.2.2.1]
  refine ⟨by rw [hn, h.2.2.2.1]; exact w.1, by rw [hn]; exact w.2.1, fun i hi => ?_⟩
  rw [hn] at hi
  rw [h.2.2.1, h.2.2.1]
  exact w.2.2 i hi
theorem g_fz_wb (h : g_fz A B) (w : g_wb A) : g_wb B := by unfold g_wb; rw [h.2.2.2.2.1]; exact w
theorem g_fz_wg (h : g_fz A B) (w : g_wg A) : g_wg B := by unfold g_wg g_nv; rw [h.2.2.2.2.2]; exact w
end g_FZ
theorem g_W0_fil {b : Nat} {A : g_A} {s t : Nat} {row key val size light : Int32} (hW : g_W0 A) (hM : g_wM b A) (hs : s < 60) (hb : b < 2 ^ 30) (hf : g_fu A s = false) (hk : g_iv A s = true → A 1 s 0 = 0) (hv : s % 10 ≤ g_ln A (s / 10)) (ht : g_tn A t) (ho : A 3 t 0 = 0 ∨ ∀ a, a < 60 → g_fu A a = true → g_en A a ≠ t) (h01 : g_01 light) :
    g_W0 (g_fil A s row key val size (nI t) light) ∧ (∀ a, a < 60 → ¬ g_lk (g_fil A s row key val size (nI t) light) a s) := by
  obtain ⟨⟨wt, wq, wl, wv, wc, wL, wT, wE, wF⟩, ⟨wi, we, wO⟩, wg, ww, wb, wd⟩ := hW
  have hft := g_fil_ft (A := A) (row := row) (key := key) (val := val) (size := size) (maker := nI t) (light := light) hs
  obtain ⟨is, io⟩ := g_fil_iv (row := row) (key := key) (val := val) (size := size) (maker := nI t) (light := light) hs wl hv
  obtain ⟨fs, fo⟩ := g_fil_fu (row := row) (key := key) (val := val) (size := size) (maker := nI t) (light := light) hs wl hv
  have wl' := (g_fil_wl (row := row) (key := key) (val := val) (size := size) (maker := nI t) (light := light) hs wl).1
  have e8 : g_fil A s row key val size (nI t) light 1 s 12 = A 0 8 0 := g_fil_s (by omega)
  have c6 : g_fil A s row key val size (nI t) light 1 s 6 = nI t := g_fil_s (by omega)
  have c7 : g_fil A s row key val size (nI t) light 1 s 7 = -1 := g_fil_s (by omega)
  have c8 : g_fil A s row key val size (nI t) light 1 s 8 = -1 := g_fil_s (by omega)
  have c9 : g_fil A s row key val size (nI t) light 1 s 9 = -1 := g_fil_s (by omega)
  have c10 : g_fil A s row key val size (nI t) light 1 s 10 = light := g_fil_s (by omega)
  have c11 : g_fil A s row key val size (nI t) light 1 s 11 = 0 := g_fil_s (by omega)
  have c0 : g_fil A s row key val size (nI t) light 1 s 0 = 1 := g_fil_s (by omega)
  have co : ∀ x w, x ≠ s → g_fil A s row key val size (nI t) light 1 x w = A 1 x w := fun x w hx => g_fil_o (by omega) (by omega)
  have c3 : ∀ x w, g_fil A s row key val size (nI t) light 3 x w = A 3 x w := fun x w => g_fil_o (by omega) (by omega)
  have hz : g_fz A (g_fil A s row key val size (nI t) light) := ⟨hft, fun _ _ => g_fil_o (by omega) (by omega), fun _ _ => g_fil_o (by omega) (by omega), g_fil_o (by omega) (by omega), g_fil_o (by omega) (by omega), g_fil_o (by omega) (by omega)⟩
  generalize hB : g_fil A s row key val size (nI t) light = B at *
  have t61 : t < 61 := by have := ht.2; have := wt.2.2; omega
  have mks : g_mk B s = t := by unfold g_mk; rw [c6, g_cl (by omega)]
  have ens : g_en B s = 0 := by unfold g_en; rw [c7]; rfl
  have mko : ∀ x, x ≠ s → g_mk B x = g_mk A x := fun x hx => by unfold g_mk; rw [co x 6 hx]
  have eno : ∀ x, x ≠ s → g_en B x = g_en A x := fun x hx => by unfold g_en; rw [co x 7 hx]
  have eoo : ∀ x, x ≠ s → g_eo B x = g_eo A x := fun x hx => by unfold g_eo; rw [eno x hx, c3]
  have n1o : ∀ x, x ≠ s → g_n1 B x = g_n1 A x := fun x hx => by unfold g_n1; rw [co x 9 hx]
  have n2o : ∀ x, x ≠ s → g_n2 B x = g_n2 A x := fun x hx => by unfold g_n2; rw [co x 8 hx, co x 9 hx]
  have mmo : ∀ x, x ≠ s → g_mm B x = g_mm A x := fun x hx => by unfold g_mm; rw [co x 12 hx]
  have wv' : g_wv B := fun x hx f => by
    by_cases d : x = s
    · subst d
      refine ⟨by rw [mks, c6], by rw [mks, g_ft_tn hft]; exact ht, Or.inl ⟨c7, ens⟩, Or.inl ⟨c8, c9⟩, by rw [c10]; exact h01, by rw [c11]; exact Or.inl rfl⟩
    · rw [fo x hx d] at f
      have := wv x hx f
      unfold g_ws
      rw [mko x d, eno x d, g_ft_tn hft, g_ft_tn hft, co x 6 d, co x 7 d, co x 8 d, co x 9 d, co x 10 d, co x 11 d]
      exact this
  have nnA : ∀ a x, a < 60 → x < 60 → a ≠ s → g_fu A a = true → g_nn B a = x → g_nn A a = x ∧ x ≠ s := fun a x ha hx hd fa e => by
    rw [← e] at hx
    obtain ⟨m0, m1, m2, m3, m4, m5⟩ := g_nn_in hx
    rw [co a 8 hd] at m2
    rw [n1o a hd] at m0 m3 m4 m5
    rw [eoo a hd] at m1 m5
    obtain ⟨p1, p2⟩ := g_n1_pg ha (wv a ha fa) m2
    have d : g_n1 A a ≠ s := fun q => by
      rw [q, c6] at m5
      have hw := wv a ha fa
      have e61 := g_eo_lt wt hw
      have et : g_eo A a = t := ((nI_eq (by omega) (by omega)).mp m5).symm
      have een : g_en A a = t := by
        unfold g_eo at et m1
        by_cases z : g_en A a ≠ 0 ∧ A 3 (g_en A a) 0 ≠ 2
        · rw [if_pos z] at et; exact et
        · rw [if_neg z] at m1; exact absurd rfl m1
      have e8n : A 1 a 8 ≠ -1 := fun z => by rw [z] at m2; exact absurd (m2 ▸ nI_pos' (n := a / 10) (by omega)) (by decide)
      rcases ho with ho | ho
      · have := (wO a ha fa (by rw [een]; have := ht.1; omega) (by rw [een]; exact ho) e8n).1
        have n21 : g_n2 A a = g_n1 A a := by unfold g_n2 g_n1; rw [m2, g_cl (by omega)]
        rw [n21, q, hf] at this
        cases this
      · exact ho a ha fa een
    rw [fo _ p2 d] at m3
    rw [co _ 10 d] at m4
    rw [co _ 6 d] at m5
    have : g_nn A a = g_n1 A a := if_pos ⟨m1, m2, m3, m4, m5⟩
    rw [← e, m0]
    exact ⟨this, d⟩
  have lkA : ∀ a x, a < 60 → x < 60 → g_lk B a x → g_lk A a x ∧ a ≠ s ∧ x ≠ s := fun a x ha hx hl => by
    rcases hl with ⟨l1, l2, l3⟩ | ⟨l1, l2⟩
    · have d : a ≠ s := fun q => by rw [q, c0] at l2; exact absurd l2 (by decide)
      rw [co a 0 d] at l2
      have ch : g_ch B a = g_ch A a := by unfold g_ch; rw [co a 0 d, co a 1 d]
      rw [ch] at l3
      rw [io a ha d] at l1
      have hfx := (wT a ha l1 l2).2.1
      refine ⟨Or.inl ⟨l1, l2, l3⟩, d, fun q => ?_⟩
      rw [l3, q, hf] at hfx; cases hfx
    · have d : a ≠ s := fun q => by
        rw [q] at l2
        have : g_nn B s = 60 := if_neg (fun z => z.1 (if_neg (fun y => y.1 ens)))
        omega
      rw [fo a ha d] at l1
      have := nnA a x ha hx d l1 l2
      exact ⟨Or.inr ⟨l1, this.1⟩, d, this.2⟩
  refine ⟨⟨⟨g_ft_wt hft wt, g_ft_wq hft wq, wl', wv', fun x hx f e f2 => ?_, fun a c x ha hc hx la lc => ?_, fun a ha ia ka => ?_, fun x hx f e => ?_, fun x hx f e => ?_⟩, ⟨?_, fun i hi => ?_, fun x hx f e0 eo e8' => ?_⟩, g_fz_wg hz wg, g_fz_ww hz ww, g_fz_wb hz wb, g_fz_wd hz wd⟩, fun a ha hl => (lkA a s ha hs hl).2.2 rfl⟩
  · have d : x ≠ s := fun q => by rw [q, c8] at e; exact absurd (e ▸ nI_pos' (n := s / 10) (by omega)) (by decide)
    rw [co x 8 d] at e
    rw [n1o x d] at f2 ⊢
    rw [mmo x d]
    rw [fo x hx d] at f
    obtain ⟨p1, p2⟩ := g_n1_pg hx (wv x hx f) e
    by_cases d2 : g_n1 A x = s
    · obtain ⟨y, y1, y2, y3⟩ := hM
      rw [d2]
      have : g_mm B s = y := by unfold g_mm; rw [e8, y1, g_cl (by omega)]
      rw [this]; exact y3 x hx f
    · rw [mmo _ d2]
      rw [fo _ p2 d2] at f2
      exact wc x hx f e f2
  · exact wL a c x ha hc hx (lkA a x ha hx la).1 (lkA c x hc hx lc).1
  · have d : a ≠ s := fun q => by rw [q, c0] at ka; exact absurd ka (by decide)
    rw [co a 0 d] at ka
    rw [io a ha d] at ia
    have ch : g_ch B a = g_ch A a := by unfold g_ch; rw [co a 0 d, co a 1 d]
    obtain ⟨⟨x, hx, e⟩, t2, t3, t4⟩ := wT a ha ia ka
    have hc60 : g_ch A a < 60 := by rw [g_ch_2 ka, e, g_cl (by omega)]; omega
    have d2 : g_ch A a ≠ s := fun q => by rw [q, hf] at t2; cases t2
    rw [ch, fo _ hc60 d2, co _ 10 d2, mko _ d2, c3, co a 1 d]
    exact ⟨⟨x, hx, e⟩, t2, t3, t4⟩
  · by_cases d : x = s
    · subst d; exact absurd ens e
    · rw [fo x hx d] at f
      rw [eno x d] at e ⊢
      rw [mko x d, c3]; exact wE x hx f e
  · by_cases d : x = s
    · subst d; rw [c11] at e; exact absurd e (by decide)
    · rw [fo x hx d] at f
      rw [co x 11 d] at e
      rw [mko x d, c3]; exact wF x hx f e
  · have o2 : ∀ i w, B 2 i w = A 2 i w := fun i w => by rw [← hB]; exact g_fil_o (by omega) (by omega)
    have o5 : B 0 5 0 = A 0 5 0 := by rw [← hB]; exact g_fil_o (by omega) (by omega)
    have hn : g_ne B = g_ne A := by unfold g_ne; rw [o5]
    refine ⟨by rw [hn, o5]; exact wi.1, by rw [hn]; exact wi.2.1, fun i hi => ?_⟩
    rw [hn] at hi
    rw [o2, o2, o2]; exact wi.2.2 i hi
  · have o2 : ∀ i w, B 2 i w = A 2 i w := fun i w => by rw [← hB]; exact g_fil_o (by omega) (by omega)
    have o5 : B 0 5 0 = A 0 5 0 := by rw [← hB]; exact g_fil_o (by omega) (by omega)
    have hn : g_ne B = g_ne A := by unfold g_ne; rw [o5]
    rw [hn] at hi
    have he : g_ep B i = g_ep A i := by unfold g_ep; rw [o2, o2]
    obtain ⟨w1, w2⟩ := we i hi
    have h60 := (g_ep_lt wi hi).1
    have d : g_ep A i ≠ s := fun q => by
      rw [q] at w1 w2
      have k0 := hk w1
      rw [k0] at w2
      rcases w2 with w2 | w2 | w2
      · exact absurd w2.1 (by decide)
      · exact absurd w2 (by decide)
      · exact absurd w2 (by decide)
    rw [he, io _ h60 d, co _ 0 d, co _ 10 d]
    exact ⟨w1, w2⟩
  · have d : x ≠ s := fun q => by rw [q] at e0; exact e0 ens
    rw [fo x hx d] at f
    rw [eno x d] at e0 eo
    rw [c3] at eo
    rw [co x 8 d] at e8'
    obtain ⟨u1, u2⟩ := wO x hx f e0 eo e8'
    have n60 := g_n2_lt (wv x hx f) e8'
    have d2 : g_n2 A x ≠ s := fun q => by rw [q, hf] at u1; cases u1
    rw [n2o x d, fo _ n60 d2, co _ 6 d2, co x 7 d]
    exact ⟨u1, u2⟩
/-- the version that one may change -/
def g_up (A : g_A) (t v : Nat) : Prop := v < 60 ∧ g_fu A v = true ∧ g_tn A t ∧ A 3 t 0 = 0 ∧ (A 1 v 11 = 1 ∨ g_kn A t (g_mk A v) = true) ∧ g_eo A v = 0
theorem g_up_mk {A : g_A} {t v : Nat} (hF : g_wF A) (h : g_up A t v) : g_mk A v = t ∨ A 3 (g_mk A v) 0 = 1 := by
  rcases h.2.2.2.2.1 with q | q
  · exact Or.inr (hF v h.1 h.2.1 q)
  · unfold g_kn at q
    simp only [Bool.or_eq_true, Bool.and_eq_true, decide_eq_true_iff] at q
    rcases q with q | q
    · exact Or.inl q
    · exact Or.inr q.2.1
theorem g_W0_end {A : g_A} {v t s : Nat} {p q : Int32} (hW : g_W0 A) (hu : g_up A t v) (hn : (p = -1 ∧ q = -1) ∨ (s < 60 ∧ p = nI (s / 10) ∧ q = nI (s % 10) ∧ g_fu A s = true ∧ A 1 s 6 = nI t ∧ g_mm A v < g_mm A s ∧ ∀ a, a < 60 → ¬ g_lk A a s)) : g_W0 (g_end A v (nI t) p q) := by
  obtain ⟨⟨wt, wq, wl, wv, wc, wL, wT, wE, wF⟩, ⟨wi, we, wO⟩, wg, ww, wb, wd⟩ := hW
  have hmk := g_up_mk wF hu
  obtain ⟨hv, hf, ht, ho, hk, heo⟩ := hu
  have hft : g_ft A (g_end A v (nI t) p q) := ⟨fun t i => g_end_o (by omega) (by omega), g_end_o (by omega) (by omega)⟩
  have hz : g_fz A (g_end A v (nI t) p q) := ⟨hft, fun _ _ => g_end_o (by omega) (by omega), fun _ _ => g_end_o (by omega) (by omega), g_end_o (by omega) (by omega), g_end_o (by omega) (by omega), g_end_o (by omega) (by omega)⟩
  obtain ⟨e7, e8, e9, ec⟩ := g_end_s (A := A) (s := v) (t := nI t) (p := p) (q := q)
  have co : ∀ x w, (x ≠ v ∨ ¬ (7 ≤ w ∧ w ≤ 9)) → g_end A v (nI t) p q 1 x w = A 1 x w := fun x w hx => g_end_o (by omega) (by omega)
  have c3 : ∀ x w, g_end A v (nI t) p q 3 x w = A 3 x w := fun x w => g_end_o (by omega) (by omega)
  have fu : ∀ x, x < 60 → g_fu (g_end A v (nI t) p q) x = g_fu A x := fun x hx => g_end_fu hv hx
  have iv : ∀ x, x < 60 → g_iv (g_end A v (nI t) p q) x = g_iv A x := fun x hx => by
    rcases g_end_iv (A := A) (t := nI t) (p := p) (q := q) (x := x) hv with z | z
    · exact z
    · exact absurd hx z
  have o2 : ∀ i w, g_end A v (nI t) p q 2 i w = A 2 i w := fun i w => g_end_o (by omega) (by omega)
  have o5 : g_end A v (nI t) p q 0 5 0 = A 0 5 0 := g_end_o (by omega) (by omega)
  have oln : ∀ x, x < 6 → g_end A v (nI t) p q 0 (17 + x) 0 = A 0 (17 + x) 0 := fun x hx => g_end_o (by omega) (by omega)
  generalize g_end A v (nI t) p q = B at *
  have t61 : t < 61 := by have := ht.2; have := wt.2.2; omega
  have mko : ∀ x, g_mk B x = g_mk A x := fun x => by unfold g_mk; rw [co x 6 (Or.inr (by omega))]
  have env : g_en B v = t := by unfold g_en; rw [e7, g_cl (by omega)]
  have eno : ∀ x, x ≠ v → g_en B x = g_en A x := fun x hx => by unfold g_en; rw [co x 7 (Or.inl hx)]
  have eoo : ∀ x, x ≠ v → g_eo B x = g_eo A x := fun x hx => by unfold g_eo; rw [eno x hx, c3]
  have n1o : ∀ x, x ≠ v → g_n1 B x = g_n1 A x := fun x hx => by unfold g_n1; rw [co x 9 (Or.inl hx)]
  have n2o : ∀ x, x ≠ v → g_n2 B x = g_n2 A x := fun x hx => by unfold g_n2; rw [co x 8 (Or.inl hx), co x 9 (Or.inl hx)]
  have mmo : ∀ x, g_mm B x = g_mm A x := fun x => by unfold g_mm; rw [co x 12 (Or.inr (by omega))]
  have wl' : g_wl B := fun x hx => by
    have : g_ln B x = g_ln A x := by unfold g_ln; rw [oln x hx]
    rw [this, oln x hx]; exact wl x hx
  have n1v : p ≠ -1 → s < 60 ∧ (p = nI (v / 10) → g_n1 B v = s) ∧ g_n2 B v = s := fun hp => by
    rcases hn with ⟨z, _⟩ | ⟨s60, hp', hq', _⟩
    · exact absurd z hp
    · refine ⟨s60, fun hpv => ?_, ?_⟩
      · unfold g_n1
        rw [e9, hq', g_cl (by omega)]
        have : s / 10 = v / 10 := (nI_eq (by omega) (by omega)).mp (by rw [← hp', hpv])
        omega
      · unfold g_n2
        rw [e8, e9, hp', hq', g_cl (by omega), g_cl (by omega), Nat.div_add_mod]
  have pne : p = nI (v / 10) → p ≠ -1 := fun h z => by rw [z] at h; exact absurd (h ▸ nI_pos' (n := v / 10) (by omega)) (by decide)
  have wv' : g_wv B := fun x hx f => by
    rw [fu x hx] at f
    have w := wv x hx f
    unfold g_ws
    rw [mko x, co x 6 (Or.inr (by omega)), co x 10 (Or.inr (by omega)), co x 11 (Or.inr (by omega)), g_ft_tn hft, g_ft_tn hft]
    by_cases d : x = v
    · subst d
      refine ⟨w.1, w.2.1, Or.inr ⟨by rw [e7, env], by rw [env]; exact ht⟩, ?_, w.2.2.2.2.1, w.2.2.2.2.2⟩
      rw [e8, e9]
      rcases hn with z | ⟨s60, hp', hq', _⟩
      · exact Or.inl z
      · exact Or.inr ⟨s / 10, s % 10, by omega, by omega, hp', hq'⟩
    · rw [eno x d, co x 7 (Or.inl d), co x 8 (Or.inl d), co x 9 (Or.inl d)]
      exact w
  have lkA : ∀ a x, a < 60 → x < 60 → g_lk B a x → (g_lk A a x) ∨ (a = v ∧ x = s ∧ p ≠ -1) := fun a x ha hx hl => by
    rcases hl with ⟨l1, l2, l3⟩ | ⟨l1, l2⟩
    · rw [co a 0 (Or.inr (by omega))] at l2
      have ch : g_ch B a = g_ch A a := by unfold g_ch; rw [co a 0 (Or.inr (by omega)), co a 1 (Or.inr (by omega))]
      rw [ch] at l3
      rw [iv a ha] at l1
      exact Or.inl (Or.inl ⟨l1, l2, l3⟩)
    · rw [fu a ha] at l1
      rw [← l2] at hx
      obtain ⟨m0, m1, m2, m3, m4, m5⟩ := g_nn_in hx
      by_cases d : a = v
      · subst d
        rw [e8] at m2
        have hp := pne m2
        exact Or.inr ⟨rfl, by rw [← l2, m0, (n1v hp).2.1 m2], hp⟩
      · rw [co a 8 (Or.inl d)] at m2
        rw [n1o a d] at m0 m3 m4 m5
        rw [eoo a d] at m1 m5
        obtain ⟨p1, p2⟩ := g_n1_pg ha (wv a ha l1) m2
        rw [fu _ p2] at m3
        rw [co _ 10 (Or.inr (by omega))] at m4
        rw [co _ 6 (Or.inr (by omega))] at m5
        have : g_nn A a = g_n1 A a := if_pos ⟨m1, m2, m3, m4, m5⟩
        exact Or.inl (Or.inr ⟨l1, by rw [this, ← m0]; exact l2⟩)
  have nolk : p ≠ -1 → ∀ a, a < 60 → ¬ g_lk A a s := fun hp => by
    rcases hn with ⟨z, _⟩ | ⟨_, _, _, _, _, _, z⟩
    · exact absurd z hp
    · exact z
  refine ⟨⟨g_ft_wt hft wt, g_ft_wq hft wq, wl', wv', fun x hx f e f2 => ?_, fun a c x ha hc hx la lc => ?_, fun a ha ia ka => ?_, fun x hx f e => ?_, fun x hx f e => ?_⟩, ⟨?_, fun i hi => ?_, fun x hx f e0 eo e8' => ?_⟩, g_fz_wg hz wg, g_fz_ww hz ww, g_fz_wb hz wb, g_fz_wd hz wd⟩
  · rw [fu x hx] at f
    rw [mmo, mmo]
    by_cases d : x = v
    · subst d
      rw [e8] at e
      have hp := pne e
      rw [(n1v hp).2.1 e]
      rcases hn with ⟨z, _⟩ | ⟨_, _, _, _, _, z, _⟩
      · exact absurd z hp
      · exact z
    · rw [co x 8 (Or.inl d)] at e
      rw [n1o x d] at f2 ⊢
      obtain ⟨p1, p2⟩ := g_n1_pg hx (wv x hx f) e
      rw [fu _ p2] at f2
      exact wc x hx f e f2
  · rcases lkA a x ha hx la with l | ⟨a1, a2, a3⟩
    · rcases lkA c x hc hx lc with l' | ⟨b1, b2, b3⟩
      · exact wL a c x ha hc hx l l'
      · exact absurd (by rw [← b2]; exact l) (nolk b3 a ha)
    · rcases lkA c x hc hx lc with l' | ⟨b1, b2, b3⟩
      · exact absurd (by rw [← a2]; exact l') (nolk a3 c hc)
      · rw [a1, b1]
  · rw [co a 0 (Or.inr (by omega))] at ka
    rw [iv a ha] at ia
    have ch : g_ch B a = g_ch A a := by unfold g_ch; rw [co a 0 (Or.inr (by omega)), co a 1 (Or.inr (by omega))]
    obtain ⟨⟨x, hx, e⟩, t2, t3, t4⟩ := wT a ha ia ka
    have hc60 : g_ch A a < 60 := by rw [g_ch_2 ka, e, g_cl (by omega)]; omega
    rw [ch, fu _ hc60, co _ 10 (Or.inr (by omega)), mko, c3, co a 1 (Or.inr (by omega))]
    exact ⟨⟨x, hx, e⟩, t2, t3, t4⟩
  · rw [fu x hx] at f
    rw [mko, c3]
    by_cases d : x = v
    · subst d
      rw [env]
      rcases hmk with z | z
      · exact Or.inl z.symm
      · exact Or.inr z
    · rw [eno x d] at e ⊢
      exact wE x hx f e
  · rw [fu x hx] at f
    rw [co x 11 (Or.inr (by omega))] at e
    rw [mko, c3]; exact wF x hx f e
  · have hn' : g_ne B = g_ne A := by unfold g_ne; rw [o5]
    refine ⟨by rw [hn', o5]; exact wi.1, by rw [hn']; exact wi.2.1, fun i hi => ?_⟩
    rw [hn'] at hi
    rw [o2, o2, o2]; exact wi.2.2 i hi
  · have hn' : g_ne B = g_ne A := by unfold g_ne; rw [o5]
    rw [hn'] at hi
    have he : g_ep B i = g_ep A i := by unfold g_ep; rw [o2, o2]
    rw [he, iv _ (g_ep_lt wi hi).1, co _ 0 (Or.inr (by omega)), co _ 10 (Or.inr (by omega))]
    exact we i hi
  · rw [fu x hx] at f
    by_cases d : x = v
    · subst d
      rw [e8] at e8'
      obtain ⟨s60, _, n2⟩ := n1v e8'
      rw [n2, fu _ s60, co _ 6 (Or.inr (by omega)), e7]
      rcases hn with ⟨z, _⟩ | ⟨_, _, _, z1, z2, _, _⟩
      · exact absurd z e8'
      · exact ⟨z1, z2⟩
    · rw [eno x d] at e0 eo
      rw [c3] at eo
      rw [co x 8 (Or.inl d)] at e8'
      obtain ⟨u1, u2⟩ := wO x hx f e0 eo e8'
      have n60 := g_n2_lt (wv x hx f) e8'
      rw [n2o x d, fu _ n60, co _ 6 (Or.inr (by omega)), co x 7 (Or.inl d)]
      exact ⟨u1, u2⟩
