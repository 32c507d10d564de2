/-! the picture of a store with a version more, or one ended -/
def g_ft (A B : g_A) : Prop := (∀ t i, B 3 t i = A 3 t i) ∧ B 0 4 0 = A 0 4 0
section g_FT
variable {A B : g_A}
theorem g_ft_nx (h : g_ft A B) : g_nx B = g_nx A := by unfold g_nx; rw [h.2]
theorem g_ft_nt (h : g_ft A B) {t o : Nat} : g_nt B t o = g_nt A t o := by unfold g_nt; rw [h.1]
theorem g_ft_op (h : g_ft A B) {t : Nat} : g_op B t = g_op A t := by unfold g_op; rw [h.1]
theorem g_ft_kn (h : g_ft A B) {t o : Nat} : g_kn B t o = g_kn A t o := by unfold g_kn; rw [h.1, g_ft_nt h]
theorem g_ft_lo (h : g_ft A B) {t : Nat} : g_lo B t = g_lo A t := by unfold g_lo; exact g_fst_congr _ _ (fun j _ _ => g_ft_nt h)
theorem g_ft_hb (h : g_ft A B) {b : Nat} : g_hb B b = g_hb A b := by
  unfold g_hb
  rw [g_ft_nx h]
  exact g_it_congr _ _ _ (fun j _ _ x => by unfold g_hs; rw [g_ft_op h, g_ft_lo h])
theorem g_ft_hz (h : g_ft A B) : g_hz B = g_hz A := g_ft_hb h
theorem g_ft_wt (h : g_ft A B) (w : g_wt A) : g_wt B := by unfold g_wt; rw [g_ft_nx h, h.2]; exact w
theorem g_ft_wq (h : g_ft A B) (w : g_wq A) : g_wq B := fun t a b => by rw [h.1]; exact w t a (by rw [← g_ft_nx h]; exact b)
theorem g_ft_tn (h : g_ft A B) {t : Nat} : g_tn B t ↔ g_tn A t := by unfold g_tn; rw [g_ft_nx h]
end g_FT
theorem r_t_ft {S S' : g_S} {A B : g_A} (h : r_t S A) (hS : ∀ t f i, 6 ≤ t → t ≤ 10 → S'.1 t f i = S.1 t f i) (h2 : S'.2 = S.2) (hk : g_ft A B) (h6 : ∀ t, B 6 t 0 = A 6 t 0) : r_t S' B := by
  refine ⟨?_, fun t h1 h3 => ?_⟩
  · rw [hS 6 4 0 (by omega) (by omega), hk.2]; exact h.1
  · rw [g_ft_nx hk] at h3
    obtain ⟨a, b, c, d, e⟩ := h.2 t h1 h3
    rw [hS 7 0 t (by omega) (by omega), hS 8 0 t (by omega) (by omega), hS 9 0 t (by omega) (by omega), h2, hk.1, g_ft_lo hk, h6]
    exact ⟨a, b, c, fun o ho1 ho2 => by rw [g_ft_nt hk]; exact d o ho1 ho2, e⟩
theorem r_i_eq {S S' : g_S} {A B : g_A} (h : r_i S A) (hS : ∀ t f i, 11 ≤ t → t ≤ 14 → S'.1 t f i = S.1 t f i) (h5 : B 0 5 0 = A 0 5 0) (h2 : ∀ i w, B 2 i w = A 2 i w) : r_i S' B := by
  have hn : g_ne B = g_ne A := by unfold g_ne; rw [h5]
  refine ⟨by rw [hS 11 3 0 (by omega) (by omega), h5]; exact h.1, fun i hi => ?_⟩
  rw [hn] at hi
  have he : g_ep B i = g_ep A i := by unfold g_ep; rw [h2, h2]
  rw [hS 12 0 i (by omega) (by omega), hS 13 0 i (by omega) (by omega), hS 14 0 i (by omega) (by omega), h2, h2, he]
  exact h.2 i hi
theorem r_f_eq {S S' : g_S} {A B : g_A} (h : r_f S A) (hS : ∀ t f i, 19 ≤ t → t ≤ 23 → S'.1 t f i = S.1 t f i) (h5 : B 0 7 0 = A 0 7 0) (h2 : ∀ i w, B 5 i w = A 5 i w) : r_f S' B := by
  have hn : g_nf B = g_nf A := by unfold g_nf; rw [h5]
  refine ⟨by rw [hS 19 4 0 (by omega) (by omega), h5]; exact h.1, fun i hi => ?_⟩
  rw [hn] at hi
  rw [hS 20 0 i (by omega) (by omega), hS 21 0 i (by omega) (by omega), hS 22 0 i (by omega) (by omega), hS 23 0 i (by omega) (by omega), h2, h2, h2, h2, h2]
  exact h.2 i hi
theorem g_fil_ft {A : g_A} {s : Nat} {row key val size maker light : Int32} (hs : s < 60) : g_ft A (g_fil A s row key val size maker light) := ⟨fun t i => g_fil_o (by omega) (by omega), g_fil_o (by omega) (by omega)⟩
theorem r_fil {b : Nat} {S : g_S} {A : g_A} {s : Nat} {row key val size maker light : Int32} (hR : g_R b S A) (hs : s < 60) (hl : g_wl A) (hg : g_wg A) (hf : g_fu A s = false) (hv : s % 10 ≤ g_ln A (s / 10)) (hb : b < 2 ^ 30) (h01 : light = 0 ∨ light = 1) :
    g_R (b + 1) (g_aS S s (g_ln A (s / 10)) row key val size maker light) (g_fil A s row key val size maker light) := by
  obtain ⟨rg, rt, rh, rp, rn, ri, rl, rf, rm⟩ := hR
  have hft := g_fil_ft (A := A) (row := row) (key := key) (val := val) (size := size) (maker := maker) (light := light) hs
  obtain ⟨is, io⟩ := g_fil_iv (row := row) (key := key) (val := val) (size := size) (maker := maker) (light := light) hs hl hv
  obtain ⟨fs, fo⟩ := g_fil_fu (row := row) (key := key) (val := val) (size := size) (maker := maker) (light := light) hs hl hv
  obtain ⟨t0, t1, t2, t3, t4, t5, t6, t7, t8, t10, t11, t9⟩ := g_aS_s (S := S) (s := s) (ln := g_ln A (s / 10)) (row := row) (key := key) (val := val) (size := size) (maker := maker) (light := light)
  have So : ∀ t f i, ¬ (t = 3 ∧ i = s) → ¬ (t = 4 ∧ i = s / 10) → ¬ (t = 5 ∧ i = s / 10) → ¬ (t = 18 ∧ i = 2) → ¬ (t = 0 ∧ f = 8) → (g_aS S s (g_ln A (s / 10)) row key val size maker light).1 t f i = S.1 t f i := fun t f i a b c d e => g_aS_o a b c d e
  have h10 := (hl (s / 10) (by omega)).2
  refine ⟨⟨?_, ?_, ?_, ?_⟩, r_t_ft rt (fun t f i a b => So t f i (by omega) (by omega) (by omega) (by omega) (by omega)) g_aS_2 hft (fun t => g_fil_o (by omega) (by omega)), ?_, fun q hq => ⟨?_, ?_, fun j hj => ?_⟩, ?_, r_i_eq ri (fun t f i a b => So t f i (by omega) (by omega) (by omega) (by omega) (by omega)) (g_fil_o (by omega) (by omega)) (fun i w => g_fil_o (by omega) (by omega)), ⟨?_, fun i hi => ?_, fun j hj => ?_⟩, r_f_eq rf (fun t f i a b => So t f i (by omega) (by omega) (by omega) (by omega) (by omega)) (g_fil_o (by omega) (by omega)) (fun i w => g_fil_o (by omega) (by omega)), ?_⟩
  · rw [So 1 4 0 (by omega) (by omega) (by omega) (by omega) (by omega), g_fil_o (by omega) (by omega)]; exact rg.1
  · rw [So 0 5 0 (by omega) (by omega) (by omega) (by omega) (by omega), g_fil_o (by omega) (by omega)]; exact rg.2.1
  · rw [So 0 6 0 (by omega) (by omega) (by omega) (by omega) (by omega), g_fil_o (by omega) (by omega)]; exact rg.2.2.1
  · rw [So 0 7 0 (by omega) (by omega) (by omega) (by omega) (by omega), g_fil_o (by omega) (by omega)]; exact rg.2.2.2
  · unfold r_h
    rw [So 6 5 0 (by omega) (by omega) (by omega) (by omega) (by omega), g_ft_hz hft]; exact rh
  · by_cases d : q = s / 10
    · subst d
      rw [g_fil_n hs]
      have e4 : (g_aS S s (g_ln A (s / 10)) row key val size maker light).1 4 0 (s / 10) = if g_ln A (s / 10) ≤ s % 10 then nI (s % 10) + 1 else S.1 4 0 (s / 10) := by
        unfold g_aS g_aS2 g_aS1
        rw [g_su_t (by omega), g_su_t (by omega), g_su_t (by omega), g_su_t (by omega), g_su_t (by omega), g_su_t (by omega), g_su_t (by omega), g_su_t (by omega)]
        by_cases c : g_ln A (s / 10) ≤ s % 10
        · rw [if_pos c, if_pos c, if_pos c, g_su_t (by omega), g_emp_t (by omega), g_su_e]
        · rw [if_neg c, if_neg c, if_neg c, g_su_t (by omega), g_su_t (by omega), g_emp_t (by omega)]
      rw [e4]
      by_cases c : s % 10 = g_ln A (s / 10)
      · rw [if_pos c, if_pos (by omega), (hl (s / 10) hq).1, c]
      · rw [if_neg c, if_neg (by omega)]; exact (rp (s / 10) hq).1
    · rw [So 4 0 q (by omega) (by omega) (by omega) (by omega) (by omega), g_fil_o (by omega) (by omega)]; exact (rp q hq).1
  · by_cases d : q = s / 10
    · subst d
      rw [g_fil_c]
      unfold g_aS g_aS2 g_aS1
      rw [g_su_t (by omega), g_su_t (by omega), g_su_t (by omega), g_su_t (by omega), g_su_t (by omega), g_su_t (by omega), g_su_t (by omega), g_su_t (by omega)]
      split
      · rw [g_su_e]
      · rw [g_su_t (by omega), g_su_e]
    · rw [So 5 0 q (by omega) (by omega) (by omega) (by omega) (by omega), g_fil_o (by omega) (by omega)]; exact (rp q hq).2.1
  · by_cases e : 10 * q + j = s
    · rw [e]
      refine ⟨fun _ => ⟨t0, t1, ?_, ?_, ?_, ?_, ?_, ?_, ?_, ?_, ?_⟩, fun q => (by rw [fs] at q; cases q)⟩
      · rw [t2, g_fil_s (by omega)]; rfl
      · rw [t3, g_fil_s (by omega)]; rfl
      · rw [t4, g_fil_s (by omega)]; rfl
      · rw [t5, g_fil_s (by omega)]; rfl
      · rw [t6, g_fil_s (by omega)]; rfl
      · rw [t7, g_fil_s (by omega)]; rfl
      · rw [t8, g_fil_s (by omega), g_fil_s (by omega)]; rfl
      · rw [t10, g_fil_s (by omega)]; rfl
      · rw [t11, g_fil_s (by omega)]; rfl
    · exact r_s_eq ((rp q hq).2.2 j hj) (fun f => So 3 f _ (by omega) (by omega) (by omega) (by omega) (by omega)) (io _ (by omega) e) (fun w => g_fil_o (by omega) (by omega))
  · unfold r_n
    simp only [fun f => So 3 f 60 (by omega) (by omega) (by omega) (by omega) (by omega)]
    exact rn
  · rw [So 15 3 0 (by omega) (by omega) (by omega) (by omega) (by omega), g_fil_o (by omega) (by omega)]; exact rl.1
  · have hn : g_nv (g_fil A s row key val size maker light) = g_nv A := by unfold g_nv; rw [g_fil_o (by omega) (by omega)]
    rw [hn] at hi
    rw [So 16 0 i (by omega) (by omega) (by omega) (by omega) (by omega), So 17 0 i (by omega) (by omega) (by omega) (by omega) (by omega), g_fil_o (by omega) (by omega), g_fil_o (by omega) (by omega)]
    exact rl.2.1 i hi
  · by_cases d : j = 2
    · subst d
      rw [g_fil_11]
      have e18 : (g_aS S s (g_ln A (s / 10)) row key val size maker light).1 18 0 2 = if g_ln A (s / 10) ≤ s % 10 then S.1 18 0 2 else S.1 18 0 2 + 1 := by
        unfold g_aS g_aS2
        rw [g_su_t (by omega), g_su_t (by omega), g_su_t (by omega), g_su_t (by omega), g_su_t (by omega), g_su_t (by omega), g_su_t (by omega), g_su_t (by omega)]
        by_cases c : g_ln A (s / 10) ≤ s % 10
        · rw [if_pos c, if_pos c]; exact g_aS1_o (by omega) (by omega) (by omega)
        · rw [if_neg c, if_neg c, g_su_e]
      have r2 := rl.2.2 2 (by omega)
      rw [e18, r2]
      by_cases c : s % 10 = g_ln A (s / 10)
      · rw [if_pos c, if_pos (by omega)]
      · rw [if_neg c, if_neg (by omega)]
    · rw [So 18 0 j (by omega) (by omega) (by omega) (by omega) (by omega), g_fil_o (by omega) (by omega)]; exact rl.2.2 j hj
  · obtain ⟨⟨x, y, h1, h2, h3, h4, h5⟩, h6⟩ := rm
    have c9 : g_cm (g_aS S s (g_ln A (s / 10)) row key val size maker light) s = x := by unfold g_cm; rw [t9, h1, g_cl (by omega)]
    have m9 : g_mm (g_fil A s row key val size maker light) s = y := by
      unfold g_mm
      rw [g_fil_s (by omega)]
      show (A 0 8 0).toNatClampNeg = y
      rw [h2, g_cl (by omega)]
    have co : ∀ x', x' < 60 → x' ≠ s → g_cm (g_aS S s (g_ln A (s / 10)) row key val size maker light) x' = g_cm S x' := fun x' hx hn => by
      unfold g_cm; rw [So 3 9 x' (by omega) (by omega) (by omega) (by omega) (by omega)]
    have mo : ∀ x', x' < 60 → x' ≠ s → g_mm (g_fil A s row key val size maker light) x' = g_mm A x' := fun x' hx hn => by
      unfold g_mm; rw [g_fil_o (by omega) (by omega)]
    refine ⟨⟨x + 1, y + 1, ?_, ?_, by omega, by omega, fun s' hs' f => ?_⟩, fun a c ha hc fa fc => ?_⟩
    · have : (g_aS S s (g_ln A (s / 10)) row key val size maker light).1 0 8 0 = S.1 0 8 0 + 1 := by unfold g_aS; rw [g_su_e]
      rw [this, h1, nI_1]
    · rw [g_fil_8, h2, nI_1]
    · by_cases d : s' = s
      · subst d
        rw [c9, m9, t9, g_fil_s (by omega)]
        exact ⟨h1, h2, by omega, by omega⟩
      · rw [co s' hs' d, mo s' hs' d, So 3 9 s' (by omega) (by omega) (by omega) (by omega) (by omega), g_fil_o (by omega) (by omega)]
        rw [fo s' hs' d] at f
        have := h5 s' hs' f
        exact ⟨this.1, this.2.1, by omega, by omega⟩
    · by_cases da : a = s
      · subst da
        rw [c9, m9]
        by_cases dc : c = a
        · subst dc; rw [c9, m9]; omega
        · rw [co c hc dc, mo c hc dc]
          rw [fo c hc dc] at fc
          have := h5 c hc fc
          omega
      · rw [co a ha da, mo a ha da]
        rw [fo a ha da] at fa
        have ha5 := h5 a ha fa
        by_cases dc : c = s
        · subst dc; rw [c9, m9]; omega
        · rw [co c hc dc, mo c hc dc]
          rw [fo c hc dc] at fc
          exact h6 a c ha hc fa fc
/-- a version is ended -/
def g_eS (S : g_S) (s : Nat) (t nx : Int32) : g_S := g_su (g_su (g_su S 3 7 s t) 3 8 s nx) 5 0 (s / 10) 0
theorem c_endV {H : q_H} {k s : Nat} {t nx : Int32} (hs : s < 60) : St_endVersion k (nI s) t nx H = some (g_cw H k (g_eS (g_st H k) s t nx)) := by
  unfold St_endVersion g_eS
  rw [c_at hs]
  simp only [Option.bind_some]
  rw [c_pageOf hs]
  simp only [Option.bind_some]
  rw [c_setClear0 (by omega), g_si_cw (h := H) (f := 7), g_cw_si, g_st_cw, g_cw_cw]
  rfl
theorem g_end_o {A : g_A} {s g i w : Nat} {t p q : Int32} (h : ¬ (g = 1 ∧ i = s ∧ 7 ≤ w ∧ w ≤ 9)) (h0 : ¬ (g = 0 ∧ i = 23 + s / 10)) : g_end A s t p q g i w = A g i w := by
  unfold g_end
  rw [g_au_ne (fun z => h0 ⟨z.1, z.2.1⟩), g_au_ne (by omega), g_au_ne (by omega), g_au_ne (by omega)]
theorem g_end_s {A : g_A} {s : Nat} {t p q : Int32} : g_end A s t p q 1 s 7 = t ∧ g_end A s t p q 1 s 8 = p ∧ g_end A s t p q 1 s 9 = q ∧ g_end A s t p q 0 (23 + s / 10) 0 = 0 := by
  unfold g_end
  refine ⟨?_, ?_, ?_, ?_⟩
  · rw [g_au_ne (by omega), g_au_ne (by omega), g_au_ne (by omega), g_au_eq]
  · rw [g_au_ne (by omega), g_au_ne (by omega), g_au_eq]
  · rw [g_au_ne (by omega), g_au_eq]
  · rw [g_au_eq]
theorem g_end_iv {A : g_A} {s x : Nat} {t p q : Int32} (hs : s < 60) : g_iv (g_end A s t p q) x = g_iv A x ∨ ¬ x < 60 := by
  by_cases h : x < 60
  · left
    unfold g_iv g_ln
    rw [g_end_o (by omega) (by omega)]
  · exact Or.inr h
theorem g_end_fu {A : g_A} {s x : Nat} {t p q : Int32} (hs : s < 60) (hx : x < 60) : g_fu (g_end A s t p q) x = g_fu A x := by
  unfold g_fu
  rcases g_end_iv (A := A) (t := t) (p := p) (q := q) (x := x) hs with e | e
  · rw [e, g_end_o (by omega) (by omega)]
  · exact absurd hx e
theorem r_end {b : Nat} {S : g_S} {A : g_A} {s : Nat} {t p q : Int32} (hR : g_R b S A) (hs : s < 60) (hf : g_fu A s = true) : g_R b (g_eS S s t (g_pl p q)) (g_end A s t p q) := by
  obtain ⟨rg, rt, rh, rp, rn, ri, rl, rf, rm⟩ := hR
  obtain ⟨e7, e8, e9, ec⟩ := g_end_s (A := A) (s := s) (t := t) (p := p) (q := q)
  have So : ∀ t' f i, ¬ (t' = 3 ∧ i = s ∧ (f = 7 ∨ f = 8)) → ¬ (t' = 5 ∧ i = s / 10) → (g_eS S s t (g_pl p q)).1 t' f i = S.1 t' f i := fun t' f i a c => by
    unfold g_eS
    rw [g_su_t (fun z => c ⟨z.1, z.2.2⟩), g_su_t (by omega), g_su_t (by omega)]
  have hft : g_ft A (g_end A s t p q) := ⟨fun t i => g_end_o (by omega) (by omega), g_end_o (by omega) (by omega)⟩
  refine ⟨⟨?_, ?_, ?_, ?_⟩, r_t_ft rt (fun t f i a b => So t f i (by omega) (by omega)) rfl hft (fun t => g_end_o (by omega) (by omega)), ?_, fun x hx => ⟨?_, ?_, fun j hj => ?_⟩, ?_, r_i_eq ri (fun t f i a b => So t f i (by omega) (by omega)) (g_end_o (by omega) (by omega)) (fun i w => g_end_o (by omega) (by omega)), ⟨?_, fun i hi => ?_, fun j hj => ?_⟩, r_f_eq rf (fun t f i a b => So t f i (by omega) (by omega)) (g_end_o (by omega) (by omega)) (fun i w => g_end_o (by omega) (by omega)), ?_⟩
  · rw [So 1 4 0 (by omega) (by omega), g_end_o (by omega) (by omega)]; exact rg.1
  · rw [So 0 5 0 (by omega) (by omega), g_end_o (by omega) (by omega)]; exact rg.2.1
  · rw [So 0 6 0 (by omega) (by omega), g_end_o (by omega) (by omega)]; exact rg.2.2.1
  · rw [So 0 7 0 (by omega) (by omega), g_end_o (by omega) (by omega)]; exact rg.2.2.2
  · unfold r_h
    rw [So 6 5 0 (by omega) (by omega), g_ft_hz hft]; exact rh
  · rw [So 4 0 x (by omega) (by omega), g_end_o (by omega) (by omega)]; exact (rp x hx).1
  · by_cases d : x = s / 10
    · subst d
      rw [ec]
      unfold g_eS
      rw [g_su_e]
    · rw [So 5 0 x (by omega) (by omega), g_end_o (by omega) (by omega)]; exact (rp x hx).2.1
  · have hx60 : 10 * x + j < 60 := by omega
    by_cases e : 10 * x + j = s
    · rw [e]
      have hs0 := (rp x hx).2.2 j hj
      rw [e] at hs0
      obtain ⟨s0, s1, s2, s3, s4, s5, s6, s7, s8, s10, s11⟩ := hs0.1 hf
      refine ⟨fun _ => ⟨?_, ?_, ?_, ?_, ?_, ?_, ?_, ?_, ?_, ?_, ?_⟩, fun z => (by rw [g_end_fu hs hs, hf] at z; cases z)⟩
      · rw [So 3 0 s (by omega) (by omega)]; exact s0
      · rw [So 3 1 s (by omega) (by omega)]; exact s1
      · rw [So 3 2 s (by omega) (by omega), g_end_o (by omega) (by omega)]; exact s2
      · rw [So 3 3 s (by omega) (by omega), g_end_o (by omega) (by omega)]; exact s3
      · rw [So 3 4 s (by omega) (by omega), g_end_o (by omega) (by omega)]; exact s4
      · rw [So 3 5 s (by omega) (by omega), g_end_o (by omega) (by omega)]; exact s5
      · rw [So 3 6 s (by omega) (by omega), g_end_o (by omega) (by omega)]; exact s6
      · rw [e7]; unfold g_eS; rw [g_su_t (by omega), g_su_t (by omega), g_su_e]
      · rw [e8, e9]; unfold g_eS; rw [g_su_t (by omega), g_su_e]
      · rw [So 3 10 s (by omega) (by omega), g_end_o (by omega) (by omega)]; exact s10
      · rw [So 3 11 s (by omega) (by omega), g_end_o (by omega) (by omega)]; exact s11
    · refine r_s_eq ((rp x hx).2.2 j hj) (fun f => So 3 f _ (by omega) (by omega)) ?_ (fun w => g_end_o (by omega) (by omega))
      rcases g_end_iv (A := A) (t := t) (p := p) (q := q) (x := 10 * x + j) hs with z | z
      · exact z
      · exact absurd hx60 z
  · unfold r_n
    simp only [fun f => So 3 f 60 (by omega) (by omega)]
    exact rn
  · rw [So 15 3 0 (by omega) (by omega), g_end_o (by omega) (by omega)]; exact rl.1
  · have hn : g_nv (g_end A s t p q) = g_nv A := by unfold g_nv; rw [g_end_o (by omega) (by omega)]
    rw [hn] at hi
    rw [So 16 0 i (by omega) (by omega), So 17 0 i (by omega) (by omega), g_end_o (by omega) (by omega), g_end_o (by omega) (by omega)]
    exact rl.2.1 i hi
  · rw [So 18 0 j (by omega) (by omega), g_end_o (by omega) (by omega)]; exact rl.2.2 j hj
  · obtain ⟨⟨x, y, h1, h2, h3, h4, h5⟩, h6⟩ := rm
    have co : ∀ x', g_cm (g_eS S s t (g_pl p q)) x' = g_cm S x' := fun x' => by unfold g_cm; rw [So 3 9 x' (by omega) (by omega)]
    have mo : ∀ x', g_mm (g_end A s t p q) x' = g_mm A x' := fun x' => by unfold g_mm; rw [g_end_o (by omega) (by omega)]
    refine ⟨⟨x, y, by rw [So 0 8 0 (by omega) (by omega)]; exact h1, by rw [g_end_o (by omega) (by omega)]; exact h2, h3, h4, fun s' hs' f => ?_⟩, fun a c ha hc fa fc => ?_⟩
    · rw [g_end_fu hs hs'] at f
      rw [co, mo, So 3 9 s' (by omega) (by omega), g_end_o (by omega) (by omega)]
      exact h5 s' hs' f
    · rw [g_end_fu hs ha] at fa
      rw [g_end_fu hs hc] at fc
      rw [co, co, mo, mo]
      exact h6 a c ha hc fa fc
/-- an entry more -/
theorem r_ent {b : Nat} {S : g_S} {A : g_A} {s : Nat} {key : Int32} (hR : g_R b S A) (hs : s < 60) (hw : g_wi A) (hn : g_ne A < 60) : g_R b (g_efS (g_eshS S (g_ne A) (g_es A key s)) (g_ne A - g_es A key s) key s) (g_ent A key s) := by
  obtain ⟨rg, rt, rh, rp, rn, ri, rl, rf, rm⟩ := hR
  obtain ⟨e1, e2, e3, e4, e5, e6⟩ := g_ent_f (key := key) (s := s) hw hn
  obtain ⟨a1, So, a3⟩ := r_i_add (key := key) hs ri hw hn
  have hft : g_ft A (g_ent A key s) := ⟨fun t i => e6 3 t i (by omega) (by omega), e6 0 4 0 (by omega) (by omega)⟩
  have iv : ∀ x, x < 60 → g_iv (g_ent A key s) x = g_iv A x := fun x hx => by unfold g_iv g_ln; rw [e6 _ _ _ (by omega) (by omega)]
  have fu : ∀ x, x < 60 → g_fu (g_ent A key s) x = g_fu A x := fun x hx => by unfold g_fu; rw [iv x hx, e6 _ _ _ (by omega) (by omega)]
  refine ⟨⟨?_, ?_, ?_, ?_⟩, r_t_ft rt (fun t f i a b => So t f i (by omega) (by omega) (by omega) (by omega)) a3 hft (fun t => e6 _ _ _ (by omega) (by omega)), ?_, fun x hx => ⟨?_, ?_, fun j hj => ?_⟩, ?_, a1, ⟨?_, fun i hi => ?_, fun j hj => ?_⟩, r_f_eq rf (fun t f i a b => So t f i (by omega) (by omega) (by omega) (by omega)) (e6 _ _ _ (by omega) (by omega)) (fun i w => e6 _ _ _ (by omega) (by omega)), ?_⟩
  · rw [So 1 4 0 (by omega) (by omega) (by omega) (by omega), e6 _ _ _ (by omega) (by omega)]; exact rg.1
  · rw [So 0 5 0 (by omega) (by omega) (by omega) (by omega), e6 _ _ _ (by omega) (by omega)]; exact rg.2.1
  · rw [So 0 6 0 (by omega) (by omega) (by omega) (by omega), e6 _ _ _ (by omega) (by omega)]; exact rg.2.2.1
  · rw [So 0 7 0 (by omega) (by omega) (by omega) (by omega), e6 _ _ _ (by omega) (by omega)]; exact rg.2.2.2
  · unfold r_h
    rw [So 6 5 0 (by omega) (by omega) (by omega) (by omega), g_ft_hz hft]; exact rh
  · rw [So 4 0 x (by omega) (by omega) (by omega) (by omega), e6 _ _ _ (by omega) (by omega)]; exact (rp x hx).1
  · rw [So 5 0 x (by omega) (by omega) (by omega) (by omega), e6 _ _ _ (by omega) (by omega)]; exact (rp x hx).2.1
  · exact r_s_eq ((rp x hx).2.2 j hj) (fun f => So 3 f _ (by omega) (by omega) (by omega) (by omega)) (iv _ (by omega)) (fun w => e6 _ _ _ (by omega) (by omega))
  · unfold r_n
    simp only [fun f => So 3 f 60 (by omega) (by omega) (by omega) (by omega)]
    exact rn
  · rw [So 15 3 0 (by omega) (by omega) (by omega) (by omega), e6 _ _ _ (by omega) (by omega)]; exact rl.1
  · have hn : g_nv (g_ent A key s) = g_nv A := by unfold g_nv; rw [e6 _ _ _ (by omega) (by omega)]
    rw [hn] at hi
    rw [So 16 0 i (by omega) (by omega) (by omega) (by omega), So 17 0 i (by omega) (by omega) (by omega) (by omega), e6 _ _ _ (by omega) (by omega), e6 _ _ _ (by omega) (by omega)]
    exact rl.2.1 i hi
  · rw [So 18 0 j (by omega) (by omega) (by omega) (by omega), e6 _ _ _ (by omega) (by omega)]; exact rl.2.2 j hj
  · obtain ⟨⟨x, y, h1, h2, h3, h4, h5⟩, h6⟩ := rm
    have co : ∀ x', g_cm (g_efS (g_eshS S (g_ne A) (g_es A key s)) (g_ne A - g_es A key s) key s) x' = g_cm S x' := fun x' => by unfold g_cm; rw [So 3 9 x' (by omega) (by omega) (by omega) (by omega)]
    have mo : ∀ x', g_mm (g_ent A key s) x' = g_mm A x' := fun x' => by unfold g_mm; rw [e6 _ _ _ (by omega) (by omega)]
    refine ⟨⟨x, y, by rw [So 0 8 0 (by omega) (by omega) (by omega) (by omega)]; exact h1, by rw [e6 _ _ _ (by omega) (by omega)]; exact h2, h3, h4, fun s' hs' f => ?_⟩, fun a c ha hc fa fc => ?_⟩
    · rw [fu s' hs'] at f
      rw [co, mo, So 3 9 s' (by omega) (by omega) (by omega) (by omega), e6 _ _ _ (by omega) (by omega)]
      exact h5 s' hs' f
    · rw [fu a ha] at fa
      rw [fu c hc] at fc
      rw [co, co, mo, mo]
      exact h6 a c ha hc fa fc
