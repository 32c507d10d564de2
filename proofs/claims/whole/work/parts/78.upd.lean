/-! update, delete: what holds of the rows holds on -/
theorem g_ent_au {B : g_A} {key : Int32} {s g i w : Nat} {v : Int32} (h2 : g ≠ 2) (h5 : ¬ (g = 0 ∧ i = 5 ∧ w = 0)) : g_ent (g_au B g i w v) key s = g_au (g_ent B key s) g i w v := by
  have ne : g_ne (g_au B g i w v) = g_ne B := by unfold g_ne; rw [g_au_ne (by omega)]
  have r2 : ∀ i' w', g_au B g i w v 2 i' w' = B 2 i' w' := fun i' w' => g_au_ne (by omega)
  have es : g_es (g_au B g i w v) key s = g_es B key s := by
    unfold g_es
    rw [ne]
    refine g_fst_congr _ _ (fun j _ _ => ?_)
    unfold g_bh g_ep
    rw [r2, r2, r2]
  unfold g_ent
  rw [ne, es]
  generalize g_ne B - g_es B key s = pos
  have e5 : g_esh (g_au B g i w v) (g_ne B) (g_es B key s) 0 5 0 = g_esh B (g_ne B) (g_es B key s) 0 5 0 := by
    rw [g_esh_o (by omega), g_esh_o (by omega), g_au_ne (by omega)]
  have base : ∀ a b c, ¬ (a = g ∧ b = i ∧ c = w) → g_esh (g_au B g i w v) (g_ne B) (g_es B key s) a b c = g_esh B (g_ne B) (g_es B key s) a b c := fun a b c e => by
    unfold g_esh
    by_cases z : a = 2 ∧ c < 4 ∧ b ≤ g_ne B ∧ g_ne B < b + g_es B key s
    · rw [if_pos z, if_pos z]; exact g_au_ne (by omega)
    · rw [if_neg z, if_neg z]; exact g_au_ne e
  have own : g_esh (g_au B g i w v) (g_ne B) (g_es B key s) g i w = v := by rw [g_esh_o h2, g_au_eq]
  unfold g_ef
  rw [e5]
  generalize g_esh (g_au B g i w v) (g_ne B) (g_es B key s) = X at base own ⊢
  funext a b c
  by_cases e : a = g ∧ b = i ∧ c = w
  · obtain ⟨rfl, rfl, rfl⟩ := e
    rw [g_au_eq, g_au_ne h5, g_au_ne (by omega), g_au_ne (by omega), g_au_ne (by omega), g_au_ne (by omega), own]
  · have hb := base a b c e
    rw [g_au_ne e]
    unfold g_au
    rw [hb]
theorem g_ent_end {B : g_A} {key t p q : Int32} {s v : Nat} : g_ent (g_end B v t p q) key s = g_end (g_ent B key s) v t p q := by
  unfold g_end
  rw [g_ent_au (by omega) (by omega), g_ent_au (by omega) (by omega), g_ent_au (by omega) (by omega), g_ent_au (by omega) (by omega)]
theorem g_W_del {A : g_A} {t v : Nat} (w : g_W A) (hu : g_up A t v) : g_W (g_end A v (nI t) (-1) (-1)) := by
  have w0 := g_W0_end (s := 0) (p := -1) (q := -1) (g_W_0 w) hu (Or.inl ⟨rfl, rfl⟩)
  obtain ⟨⟨wt, wq, wl, wv, wc, wL, wT, wE, wF⟩, _, _, _, wr, _, _, wI⟩ := w
  have hmk := g_up_mk wF hu
  obtain ⟨hv, hf, ht, ho, hk, heo⟩ := hu
  have t61 : t < 61 := by have := ht.2; have := wt.2.2; omega
  have co : ∀ x w, (x ≠ v ∨ ¬ (7 ≤ w ∧ w ≤ 9)) → g_end A v (nI t) (-1) (-1) 1 x w = A 1 x w := fun x w hx => g_end_o (by omega) (by omega)
  have c3 : ∀ x w, g_end A v (nI t) (-1) (-1) 3 x w = A 3 x w := fun x w => g_end_o (by omega) (by omega)
  have fu : ∀ x, x < 60 → g_fu (g_end A v (nI t) (-1) (-1)) x = g_fu A x := fun x hx => g_end_fu hv hx
  have r3 : g_end A v (nI t) (-1) (-1) 0 3 0 = A 0 3 0 := g_end_o (by omega) (by omega)
  have env : g_en (g_end A v (nI t) (-1) (-1)) v = t := by unfold g_en; rw [g_end_s.1, g_cl (by omega)]
  refine ⟨w0.1, w0.2.1, w0.2.2.1, w0.2.2.2.1, ?_, w0.2.2.2.2.1, w0.2.2.2.2.2, fun a c ha hc fa fc e => ?_⟩
  · have nr : g_nr (g_end A v (nI t) (-1) (-1)) = g_nr A := by unfold g_nr; rw [r3]
    refine ⟨by rw [nr, r3]; exact wr.1, by rw [nr]; exact wr.2.1, fun x hx f => ?_⟩
    rw [fu x hx] at f
    rw [nr, co x 2 (Or.inr (by omega)), co x 3 (Or.inr (by omega))]; exact wr.2.2 x hx f
  · generalize g_end A v (nI t) (-1) (-1) = B at *
    have mko : ∀ x, g_mk B x = g_mk A x := fun x => by unfold g_mk; rw [co x 6 (Or.inr (by omega))]
    have eno : ∀ x, x ≠ v → g_en B x = g_en A x := fun x hx => by unfold g_en; rw [co x 7 (Or.inl hx)]
    have t0 : t ≠ 0 := by have := ht.1; omega
    have edA : ¬ g_ed A v := fun q => by
      have : g_eo A v = g_en A v := by unfold g_eo; rw [if_pos ⟨q.1, by rw [q.2]; decide⟩]
      rw [heo] at this; exact q.1 this.symm
    have ed : ∀ x, g_ed B x ↔ g_ed A x := fun x => by
      by_cases d : x = v
      · subst d
        refine ⟨fun q => ?_, fun q => absurd q edA⟩
        have := q.2
        rw [env, c3, ho] at this; exact absurd this (by decide)
      · unfold g_ed; rw [eno x d, c3]
    rw [fu a ha] at fa
    rw [fu c hc] at fc
    rw [co a 2 (Or.inr (by omega)), co c 2 (Or.inr (by omega))] at e
    obtain ⟨i1, i2, i3, i4⟩ := wI a c ha hc fa fc e
    rw [mko, mko, c3, c3, ed, ed]
    refine ⟨i1, fun h1 h2 h3 h4 => ?_, fun h1 h2 h3 => ?_, i4⟩
    · have nv : ∀ x, g_eo B x = 0 → x ≠ v ∧ g_eo A x = 0 := fun x h => by
        have d : x ≠ v := fun q => by
          rw [q] at h
          unfold g_eo at h
          rw [env, if_pos ⟨t0, by rw [c3, ho]; decide⟩] at h
          exact t0 h
        refine ⟨d, ?_⟩
        unfold g_eo at h ⊢
        rw [eno x d, c3] at h; exact h
      exact i2 h1 h2 (nv a h3).2 (nv c h4).2
    · have := i3 h1 h2 h3
      by_cases d : c = v
      · exfalso
        subst d
        have m1 := (wv a ha fa).2.1.1
        have : g_eo A c = g_en A c := by unfold g_eo; rw [if_pos ⟨by omega, by rw [this, h1]; decide⟩]
        rw [heo] at this; omega
      · rw [eno c d]; exact this
theorem g_W_upd {b : Nat} {A : g_A} {s t v : Nat} {key val size light : Int32} (w : g_W A) (hM : g_wM b A) (hu : g_up A t v) (hs : s < 60) (hb : b < 2 ^ 30) (hf : g_fu A s = false) (hk : g_iv A s = true → A 1 s 0 = 0) (hv : s % 10 ≤ g_ln A (s / 10)) (hkey : 0 ≤ key) (h01 : g_01 light) :
    g_W (g_end (g_fil A s (A 1 v 2) key val size (nI t) light) v (nI t) (nI (s / 10)) (nI (s % 10))) := by
  obtain ⟨hv60, hfv, ht, ho, hkn, heo⟩ := id hu
  have hd : v ≠ s := fun q => by rw [q, hf] at hfv; cases hfv
  obtain ⟨fW, fL⟩ := g_W0_fil (row := A 1 v 2) (key := key) (val := val) (size := size) (light := light) (g_W_0 w) hM hs hb hf hk hv ht (Or.inl ho) h01
  have wl := w.1.2.2.1
  have wF := w.1.2.2.2.2.2.2.2.2
  have wt := w.1.1
  have hmk := g_up_mk wF hu
  obtain ⟨fs, fo⟩ := g_fil_fu (row := A 1 v 2) (key := key) (val := val) (size := size) (maker := nI t) (light := light) hs wl hv
  have hft := g_fil_ft (A := A) (row := A 1 v 2) (key := key) (val := val) (size := size) (maker := nI t) (light := light) hs
  have bo : ∀ x w, x ≠ s → g_fil A s (A 1 v 2) key val size (nI t) light 1 x w = A 1 x w := fun x w hx => g_fil_o (by omega) (by omega)
  have b3 : ∀ x w, g_fil A s (A 1 v 2) key val size (nI t) light 3 x w = A 3 x w := fun x w => g_fil_o (by omega) (by omega)
  have bs : ∀ w, w < 13 → g_fil A s (A 1 v 2) key val size (nI t) light 1 s w = g_fsl (A 0 8 0) (A 1 v 2) key val size (nI t) light w := fun w hw => g_fil_s hw
  have t61 : t < 61 := by have := ht.2; have := wt.2.2; omega
  have upB : g_up (g_fil A s (A 1 v 2) key val size (nI t) light) t v := by
    refine ⟨hv60, by rw [fo v hv60 hd]; exact hfv, (g_ft_tn hft).mpr ht, by rw [b3]; exact ho, ?_, ?_⟩
    · have : g_mk (g_fil A s (A 1 v 2) key val size (nI t) light) v = g_mk A v := by unfold g_mk; rw [bo v 6 hd]
      rw [bo v 11 hd, this, g_ft_kn hft]; exact hkn
    · have : g_en (g_fil A s (A 1 v 2) key val size (nI t) light) v = g_en A v := by unfold g_en; rw [bo v 7 hd]
      unfold g_eo at heo ⊢
      rw [this, b3]; exact heo
  have mmlt : g_mm (g_fil A s (A 1 v 2) key val size (nI t) light) v < g_mm (g_fil A s (A 1 v 2) key val size (nI t) light) s := by
    obtain ⟨y, y1, y2, y3⟩ := hM
    have e1 : g_mm (g_fil A s (A 1 v 2) key val size (nI t) light) v = g_mm A v := by unfold g_mm; rw [bo v 12 hd]
    have e2 : g_mm (g_fil A s (A 1 v 2) key val size (nI t) light) s = y := by
      unfold g_mm
      rw [bs 12 (by omega)]
      show (A 0 8 0).toNatClampNeg = y
      rw [y1, g_cl (by omega)]
    rw [e1, e2]; exact y3 v hv60 hfv
  have w0 := g_W0_end (s := s) (p := nI (s / 10)) (q := nI (s % 10)) fW upB (Or.inr ⟨hs, rfl, rfl, fs, by rw [bs 6 (by omega)]; rfl, mmlt, fL⟩)
  obtain ⟨_, _, _, _, wr, _, _, wI⟩ := w
  have wv := (g_W_0 ⟨by assumption, by assumption, by assumption, by assumption, wr, by assumption, by assumption, wI⟩).1.2.2.2.1
  have co : ∀ x w, (x ≠ v ∨ ¬ (7 ≤ w ∧ w ≤ 9)) → g_end (g_fil A s (A 1 v 2) key val size (nI t) light) v (nI t) (nI (s / 10)) (nI (s % 10)) 1 x w = g_fil A s (A 1 v 2) key val size (nI t) light 1 x w := fun x w hx => g_end_o (by omega) (by omega)
  have c3 : ∀ x w, g_end (g_fil A s (A 1 v 2) key val size (nI t) light) v (nI t) (nI (s / 10)) (nI (s % 10)) 3 x w = A 3 x w := fun x w => by rw [g_end_o (by omega) (by omega), b3]
  have fu : ∀ x, x < 60 → g_fu (g_end (g_fil A s (A 1 v 2) key val size (nI t) light) v (nI t) (nI (s / 10)) (nI (s % 10))) x = g_fu (g_fil A s (A 1 v 2) key val size (nI t) light) x := fun x hx => g_end_fu hv60 hx
  have r3 : g_end (g_fil A s (A 1 v 2) key val size (nI t) light) v (nI t) (nI (s / 10)) (nI (s % 10)) 0 3 0 = A 0 3 0 := by rw [g_end_o (by omega) (by omega), g_fil_o (by omega) (by omega)]
  have env : g_en (g_end (g_fil A s (A 1 v 2) key val size (nI t) light) v (nI t) (nI (s / 10)) (nI (s % 10))) v = t := by unfold g_en; rw [g_end_s.1, g_cl (by omega)]
  refine ⟨w0.1, w0.2.1, w0.2.2.1, w0.2.2.2.1, ?_, w0.2.2.2.2.1, w0.2.2.2.2.2, fun a c ha hc fa fc e => ?_⟩
  · have nr : g_nr (g_end (g_fil A s (A 1 v 2) key val size (nI t) light) v (nI t) (nI (s / 10)) (nI (s % 10))) = g_nr A := by unfold g_nr; rw [r3]
    refine ⟨by rw [nr, r3]; exact wr.1, by rw [nr]; exact wr.2.1, fun x hx f => ?_⟩
    rw [fu x hx] at f
    rw [nr, co x 2 (Or.inr (by omega)), co x 3 (Or.inr (by omega))]
    by_cases d : x = s
    · subst d
      rw [bs 2 (by omega), bs 3 (by omega)]
      exact ⟨(wr.2.2 v hv60 hfv).1, hkey⟩
    · rw [fo x hx d] at f
      rw [bo x 2 d, bo x 3 d]; exact wr.2.2 x hx f
  · rw [fu a ha] at fa
    rw [fu c hc] at fc
    have row : ∀ x, x < 60 → g_end (g_fil A s (A 1 v 2) key val size (nI t) light) v (nI t) (nI (s / 10)) (nI (s % 10)) 1 x 2 = if x = s then A 1 v 2 else A 1 x 2 := fun x hx => by
      rw [co x 2 (Or.inr (by omega))]
      by_cases d : x = s
      · subst d; rw [bs 2 (by omega), if_pos rfl]; rfl
      · rw [if_neg d, bo x 2 d]
    have mk : ∀ x, g_mk (g_end (g_fil A s (A 1 v 2) key val size (nI t) light) v (nI t) (nI (s / 10)) (nI (s % 10))) x = if x = s then t else g_mk A x := fun x => by
      unfold g_mk
      rw [co x 6 (Or.inr (by omega))]
      by_cases d : x = s
      · subst d; rw [bs 6 (by omega), if_pos rfl]; exact g_cl (by omega)
      · rw [if_neg d, bo x 6 d]
    have en : ∀ x, g_en (g_end (g_fil A s (A 1 v 2) key val size (nI t) light) v (nI t) (nI (s / 10)) (nI (s % 10))) x = if x = s then 0 else if x = v then t else g_en A x := fun x => by
      by_cases d : x = v
      · subst d; rw [env, if_neg hd, if_pos rfl]
      · unfold g_en
        rw [co x 7 (Or.inl d)]
        by_cases d2 : x = s
        · subst d2; rw [bs 7 (by omega), if_pos rfl]; rfl
        · rw [if_neg d2, if_neg d, bo x 7 d2]
    rw [row a ha, row c hc] at e
    generalize g_end (g_fil A s (A 1 v 2) key val size (nI t) light) v (nI t) (nI (s / 10)) (nI (s % 10)) = B at *
    have t0 : t ≠ 0 := by have := ht.1; omega
    have edA : ¬ g_ed A v := fun q => by
      have : g_eo A v = g_en A v := by unfold g_eo; rw [if_pos ⟨q.1, by rw [q.2]; decide⟩]
      rw [heo] at this; exact q.1 this.symm
    have edo : ∀ x, x ≠ s → (g_ed B x ↔ g_ed A x) := fun x hx => by
      by_cases d : x = v
      · subst d
        refine ⟨fun q => ?_, fun q => absurd q edA⟩
        have := q.2
        rw [en x, if_neg hx, if_pos rfl, c3, ho] at this; exact absurd this (by decide)
      · unfold g_ed; rw [en x, if_neg hx, if_neg d, c3]
    have eo0 : ∀ x, x ≠ s → g_eo B x = 0 → x ≠ v ∧ g_eo A x = 0 := fun x hx h => by
      have d : x ≠ v := fun q => by
        unfold g_eo at h
        rw [en x, if_neg hx, if_pos q, if_pos ⟨t0, by rw [c3, ho]; decide⟩] at h
        exact t0 h
      refine ⟨d, ?_⟩
      unfold g_eo at h ⊢
      rw [en x, if_neg hx, if_neg d, c3] at h; exact h
    have noOpen : ∀ x, x < 60 → g_fu A x = true → A 1 x 2 = A 1 v 2 → A 3 (g_mk A x) 0 = 0 → A 3 (g_mk A v) 0 = 1 → False := fun x hx f er h1 h2 => by
      have := (wI x v hx hv60 f hfv er).2.2.1 h1 h2 edA
      have m1 := (wv x hx f).2.1.1
      have : g_eo A v = g_en A v := by unfold g_eo; rw [if_pos ⟨by omega, by rw [this, h1]; decide⟩]
      rw [heo] at this; omega
    by_cases da : a = s
    · by_cases dc : c = s
      · rw [da, dc]
        refine ⟨fun _ _ _ _ => rfl, fun _ _ _ _ => rfl, fun h1 h2 _ => ?_, fun _ _ => rfl⟩
        rw [h1] at h2; exact absurd h2 (by decide)
      · rw [fo c hc dc] at fc
        rw [if_pos da, if_neg dc] at e
        rw [mk a, if_pos da, mk c, if_neg dc, c3, c3, ho]
        refine ⟨fun h => absurd h (by decide), fun _ h2 _ h4 => ?_, fun _ h2 h3 => ?_, fun _ h2 => ?_⟩
        · exfalso
          obtain ⟨d, h5⟩ := eo0 c dc h4
          have hv2 : A 3 (g_mk A v) 0 ≠ 2 := by
            rcases hmk with z | z
            · rw [z, ho]; decide
            · rw [z]; decide
          exact d ((wI v c hv60 hc hfv fc e).2.1 hv2 h2 heo h5).symm
        · rw [en c, if_neg dc]
          by_cases d : c = v
          · rw [if_pos d]
          · rw [if_neg d]
            have h3' : ¬ g_ed A c := fun q => h3 ((edo c dc).mpr q)
            rcases hmk with z | z
            · have := (wI v c hv60 hc hfv fc e).2.2.1 (by rw [z]; exact ho) h2 h3'
              rw [this, z]
            · exact absurd ((wI v c hv60 hc hfv fc e).1 z h2 edA h3').symm d
        · rcases hmk with z | z
          · have := (wI v c hv60 hc hfv fc e).2.2.2 (by rw [z]; exact ho) h2
            rw [← this, z]
          · exact (noOpen c hc fc e.symm h2 z).elim
    · rw [fo a ha da] at fa
      by_cases dc : c = s
      · rw [if_neg da, if_pos dc] at e
        rw [mk a, if_neg da, mk c, if_pos dc, c3, c3, ho]
        refine ⟨fun _ h => absurd h (by decide), fun h1 _ h3 _ => ?_, fun _ h => absurd h (by decide), fun h1 _ => ?_⟩
        · exfalso
          obtain ⟨d, h5⟩ := eo0 a da h3
          have hv2 : A 3 (g_mk A v) 0 ≠ 2 := by
            rcases hmk with z | z
            · rw [z, ho]; decide
            · rw [z]; decide
          exact d ((wI a v ha hv60 fa hfv e).2.1 h1 hv2 h5 heo)
        · rcases hmk with z | z
          · have := (wI a v ha hv60 fa hfv e).2.2.2 h1 (by rw [z]; exact ho)
            rw [this, z]
          · exact (noOpen a ha fa e h1 z).elim
      · rw [fo c hc dc] at fc
        rw [if_neg da, if_neg dc] at e
        obtain ⟨i1, i2, i3, i4⟩ := wI a c ha hc fa fc e
        rw [mk a, if_neg da, mk c, if_neg dc, c3, c3, edo a da, edo c dc]
        refine ⟨i1, fun h1 h2 h3 h4 => i2 h1 h2 (eo0 a da h3).2 (eo0 c dc h4).2, fun h1 h2 h3 => ?_, i4⟩
        have := i3 h1 h2 h3
        rw [en c, if_neg dc]
        by_cases d : c = v
        · exfalso
          rw [d] at h2 e
          exact noOpen a ha fa e h1 h2
        · rw [if_neg d]; exact this
