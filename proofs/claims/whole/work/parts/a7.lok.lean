/-! look: the component's one entry, and all entries -/
theorem g_su_self {S : g_S} {t f i : Nat} : g_su S t f i (S.1 t f i) = S := by
  obtain ⟨S1, S2⟩ := S
  unfold g_su
  congr 1
  funext a b c
  dsimp only
  by_cases h : a = t ∧ b = f ∧ c = i
  · rw [if_pos h, h.1, h.2.1, h.2.2]
  · rw [if_neg h]
theorem c_lat {b : Nat} {H : q_H} {k t i : Nat} {key : Int32} {A : g_A} (hW : g_W A) (hR : g_R b (g_st H k) A) (hn : g_nf A < 60) (hi : i < g_ne A) (ht : g_tn A t) (hJ : g_wJ (g_lct A i) (g_ch (g_lct A i) (g_ep A i)) 10 (g_wk (g_hz (g_lct A i)) t key (g_lct A i) (g_ch (g_lct A i) (g_ep A i)) 10)) : ∃ S', ((Ix_placeAt k (nI i) H).bind fun x17 => (Rp_pageOf x17 H).bind fun x19 => (Pg_isClear k x19 H).bind fun x21 => Option.bind (α := q_H) (if ¬ x21 = 0 then (some (H)) else ((Lg_count k (7 : Int32) (1 : Int32) H).bind fun x27 => some (x27))) (fun p30 => (St_goThrough k (nI t) key (nI i) p30).bind fun x31 => some (x31))) = some (g_cw H k S') ∧ g_R b S' (g_lat t key i A) := by
  have e60 := (g_ep_lt hW.2.1.1 hi).1
  have hWl := g_lct_W (i := i) hW
  have eep : g_ep (g_lct A i) i = g_ep A i := by unfold g_ep; rw [g_lct_o (by omega), g_lct_o (by omega)]
  have ene : g_ne (g_lct A i) = g_ne A := by unfold g_ne; rw [g_lct_o (by omega)]
  have hn' : g_nf (g_lct A i) < 60 := by unfold g_nf; rw [g_lct_o (by omega)]; exact hn
  have htl := (g_ft_tn (fq_ft (g_lct_fq (A := A) (i := i)))).mpr ht
  rw [c_placeAt hR.2.2.2.2.2.1 hW.2.1.1 hi]
  simp only [Option.bind_some]
  rw [c_pageOf e60]
  simp only [Option.bind_some]
  rw [c_isClear (by omega) (hR.2.2.2.1 (g_ep A i / 10) (by omega))]
  simp only [Option.bind_some]
  have key2 : ∃ S1, (if ¬ q_bi (decide (A 0 (23 + g_ep A i / 10) 0 = 1)) = 0 then (some (H)) else ((Lg_count k (7 : Int32) (1 : Int32) H).bind fun x27 => some (x27))) = some (g_cw H k S1) ∧ g_R b S1 (g_lct A i) := by
    have hl := g_lct_R (i := i) hW hR
    by_cases c : A 0 (23 + g_ep A i / 10) 0 = 1
    · rw [decide_eq_true c, if_pos (by decide)]
      rw [decide_eq_true c] at hl
      refine ⟨g_st H k, by rw [g_cw_st], ?_⟩
      have e : g_su (g_st H k) 18 0 7 ((g_st H k).1 18 0 7 + q_bi (!true)) = g_st H k := by
        rw [show q_bi (!true) = 0 from rfl, Int32.add_zero]
        exact g_su_self
      rw [e] at hl
      exact hl
    · rw [decide_eq_false c, if_neg (by decide), show (7 : Int32) = nI 7 from rfl, c_count (by omega)]
      rw [decide_eq_false c] at hl
      exact ⟨_, rfl, hl⟩
  obtain ⟨S1, e1, r1⟩ := key2
  rw [e1]
  simp only [Option.bind_some]
  obtain ⟨S2, e2, r2⟩ := c_goThrough (H := g_cw H k S1) (k := k) (t := t) (key := key) (i := i) hWl (by rw [g_st_cw]; exact r1) hn' (by rw [ene]; exact hi) htl (by rw [eep]; exact hJ)
  rw [e2]
  simp only [Option.bind_some]
  rw [g_cw_cw]
  refine ⟨S2, rfl, ?_⟩
  rw [eep] at r2
  exact r2
theorem g_fq_tr {A B C : g_A} (x : g_fq A B) (y : g_fq B C) : g_fq A C := ⟨fun s w => (y.1 s w).trans (x.1 s w), fun s w => (y.2.1 s w).trans (x.2.1 s w), fun s w => (y.2.2.1 s w).trans (x.2.2.1 s w), fun j hj => (y.2.2.2 j hj).trans (x.2.2.2 j hj)⟩
theorem g_fq_rf {A : g_A} : g_fq A A := ⟨fun _ _ => rfl, fun _ _ => rfl, fun _ _ => rfl, fun _ _ => rfl⟩
theorem g_lat_I {t i : Nat} {key : Int32} {A : g_A} (hJ : g_wJ (g_lct A i) (g_ch (g_lct A i) (g_ep A i)) 10 (g_wk (g_hz (g_lct A i)) t key (g_lct A i) (g_ch (g_lct A i) (g_ep A i)) 10)) : g_W (g_lat t key i A) ∧ g_fq A (g_lat t key i A) ∧ (g_lat t key i A) 0 5 0 = A 0 5 0 ∧ g_nf (g_lat t key i A) ≤ g_nf A + 1 := by
  have el : g_nf (g_lct A i) = g_nf A := by unfold g_nf; rw [g_lct_o (by omega)]
  have h5 : g_lct A i 0 5 0 = A 0 5 0 := g_lct_o (by omega)
  unfold g_lat
  generalize g_wk (g_hz (g_lct A i)) t key (g_lct A i) (g_ch (g_lct A i) (g_ep A i)) 10 = X at hJ
  obtain ⟨h1, h2, h3, h4, _, _, h7⟩ := hJ
  cases X.1 with
  | true => exact ⟨h2, g_fq_tr g_lct_fq h1, h7.trans h5, by rw [← el]; exact h4⟩
  | false =>
    refine ⟨g_kil_W h2, g_fq_tr (g_fq_tr g_lct_fq h1) g_kil_fq, (g_kil_o (by omega) (by omega) (by omega)).trans (h7.trans h5), ?_⟩
    rw [← el]
    refine Nat.le_trans (Nat.le_of_eq ?_) h4
    unfold g_nf
    rw [show (bif false then X.2.2.2 else g_kil X.2.2.2 i key) = g_kil X.2.2.2 i key from rfl, g_kil_o (by omega) (by omega) (by omega)]
def g_las (t : Nat) (key : Int32) (i : Nat) (A : g_A) : g_A := bif (decide (A 2 i 0 = key) && decide (A 2 i 3 = 0)) then g_lat t key i A else A
theorem g_las_t {t i : Nat} {key : Int32} {A : g_A} (c : A 2 i 0 = key) (d : A 2 i 3 = 0) : g_las t key i A = g_lat t key i A := by
  unfold g_las
  rw [decide_eq_true c, decide_eq_true d, Bool.and_self, cond_true]
theorem g_las_f {t i : Nat} {key : Int32} {A : g_A} (c : ¬ (A 2 i 0 = key ∧ A 2 i 3 = 0)) : g_las t key i A = A := by
  unfold g_las
  have : (decide (A 2 i 0 = key) && decide (A 2 i 3 = 0)) = false := by
    by_cases x : A 2 i 0 = key
    · rw [decide_eq_false (fun y => c ⟨x, y⟩), Bool.and_false]
    · rw [decide_eq_false x, Bool.false_and]
  rw [this, cond_false]
def g_l0 (A : g_A) : g_A := g_au A 0 7 0 0
theorem g_l0_o {A : g_A} {g j w : Nat} (h : ¬ (g = 0 ∧ j = 7 ∧ w = 0)) : g_l0 A g j w = A g j w := g_au_ne h
theorem g_l0_7 {A : g_A} : g_l0 A 0 7 0 = 0 := by unfold g_l0; exact g_au_eq
theorem g_l0_nf {A : g_A} : g_nf (g_l0 A) = 0 := by unfold g_nf; rw [g_l0_7]; rfl
theorem g_l0_fq {A : g_A} : g_fq A (g_l0 A) := ⟨fun _ _ => g_l0_o (by omega), fun _ _ => g_l0_o (by omega), fun _ _ => g_l0_o (by omega), fun j hj => g_l0_o (by omega)⟩
theorem g_l0_W {A : g_A} (hW : g_W A) : g_W (g_l0 A) := by
  obtain ⟨a, b⟩ := fq_e (g_l0_fq (A := A)) (fun j w hw => g_l0_o (by omega)) (fun j hj => by rw [g_l0_o (by omega)]; exact (hW.2.1.1.2.2 j hj).2) (g_l0_o (by omega)) hW.2.1.1 hW.2.1.2.1
  refine fq_W g_l0_fq hW a b ?_ ⟨by rw [g_l0_nf, g_l0_7]; rfl, by rw [g_l0_nf]; omega, fun j hj => ?_⟩
  · unfold g_wg g_nv
    rw [g_l0_o (by omega)]; exact hW.2.2.1
  · rw [g_l0_nf] at hj
    omega
theorem g_l0_R {b : Nat} {A : g_A} {S : g_S} (hR : g_R b S A) : g_R b (g_su S 19 4 0 0) (g_l0 A) := by
  refine fq_R g_l0_fq (fun j hj => g_l0_o (by omega)) (fun t f j h => g_su_t (by omega)) rfl (r_i_eq hR.2.2.2.2.2.1 (fun t f j a c => g_su_t (by omega)) (g_l0_o (by omega)) (fun j w => g_l0_o (by omega))) ?_ ⟨?_, fun i hi => ?_⟩ hR
  · obtain ⟨a, b, c⟩ := hR.2.2.2.2.2.2.1
    refine ⟨by rw [g_su_t (by omega), g_l0_o (by omega)]; exact a, fun i hi => ?_, fun j hj => ?_⟩
    · have hi' : i < g_nv A := by unfold g_nv at hi ⊢; rw [g_l0_o (by omega)] at hi; exact hi
      rw [g_su_t (by omega), g_su_t (by omega), g_l0_o (by omega), g_l0_o (by omega)]
      exact b i hi'
    · rw [g_su_t (by omega), g_l0_o (by omega)]; exact c j hj
  · rw [g_l0_7]
    show (if (19 = 19 ∧ 4 = 4 ∧ 0 = 0) then (0 : Int32) else S.1 19 4 0) = 0
    exact if_pos ⟨rfl, rfl, rfl⟩
  · rw [g_l0_nf] at hi; omega
def g_loo (t : Nat) (key : Int32) (A : g_A) : g_A := g_i6 (g_las t key) (g_l0 A) (g_ne A)
def g_lI (A : g_A) (p : Nat) (B : g_A) : Prop := g_W B ∧ g_fq A B ∧ B 0 5 0 = A 0 5 0 ∧ g_nf B ≤ p
theorem g_l0_I {A : g_A} (hW : g_W A) : g_lI A 0 (g_l0 A) := ⟨g_l0_W hW, g_l0_fq, g_l0_o (by omega), by rw [g_l0_nf]; omega⟩
theorem m_las {h : q_H} {t p : Nat} {key : Int32} {A B : g_A} (hI : g_lI A p B) (hp : p < g_ne A) (h60 : g_ne A ≤ 60) (ht : g_tn A t) : ((Mo_entryOf (nI p) (0 : Int32) (g_ma h 31 B)).bind fun x11 => Option.bind (α := q_H) (if ¬ x11 = key then (some (g_ma h 31 B)) else ((Mo_entryOf (nI p) (3 : Int32) (g_ma h 31 B)).bind fun x17 => if ¬ x17 = 0 then (some (g_ma h 31 B)) else ((Mo_looksAt (nI t) key (nI p) (nI (g_hz A)) (g_ma h 31 B)).bind fun x19 => some (x19)))) (fun p23 => some (.inl ((nI p + (1 : Int32)), p23)) : q_H → Option ((Int32 × q_H) ⊕ (Int32 × q_H)))) = some (.inl (nI p + 1, g_ma h 31 (g_las t key p B))) ∧ g_lI A (p + 1) (g_las t key p B) := by
  obtain ⟨hW, hq, h5, hn⟩ := hI
  have hne : g_ne B = g_ne A := by unfold g_ne; rw [h5]
  rw [m_en0 (by omega), m_en3 (by omega)]
  simp only [Option.bind_some]
  by_cases c : B 2 p 0 = key
  · by_cases d : B 2 p 3 = 0
    · rw [if_neg (fun q => q c), if_neg (fun q => q d), g_las_t c d]
      obtain ⟨e, hJ⟩ := m_looksAt (h := h) (t := t) (key := key) (i := p) hW (by omega) (by rw [hne]; exact hp) ((g_ft_tn (fq_ft hq)).mpr ht)
      rw [g_ft_hz (fq_ft hq)] at e
      rw [e]
      simp only [Option.bind_some]
      obtain ⟨l1, l2, l3, l4⟩ := g_lat_I hJ
      exact ⟨trivial, l1, g_fq_tr hq l2, l3.trans h5, Nat.le_trans l4 (by omega)⟩
    · rw [if_neg (fun q => q c), if_pos d, g_las_f (fun q => d q.2)]
      simp only [Option.bind_some]
      exact ⟨trivial, hW, hq, h5, by omega⟩
  · rw [if_pos c, g_las_f (fun q => c q.1)]
    simp only [Option.bind_some]
    exact ⟨trivial, hW, hq, h5, by omega⟩
theorem c_las {b : Nat} {H : q_H} {k t p : Nat} {key : Int32} {A B : g_A} (hI : g_lI A p B) (hR : g_R b (g_st H k) B) (hp : p < g_ne A) (h60 : g_ne A ≤ 60) (ht : g_tn A t) : ∃ S', ((Ix_keyAt k (nI p) H).bind fun x9 => Option.bind (α := q_H) (if ¬ x9 = key then (some (H)) else ((Ix_isKilled k (nI p) H).bind fun x15 => if x15 = 0 then ((Ix_placeAt k (nI p) H).bind fun x17 => (Rp_pageOf x17 H).bind fun x19 => (Pg_isClear k x19 H).bind fun x21 => Option.bind (α := q_H) (if ¬ x21 = 0 then (some (H)) else ((Lg_count k (7 : Int32) (1 : Int32) H).bind fun x27 => some (x27))) (fun p30 => (St_goThrough k (nI t) key (nI p) p30).bind fun x31 => some (x31))) else (some (H)))) (fun p36 => some (.inl ((nI p + (1 : Int32)), p36)) : q_H → Option ((Int32 × q_H) ⊕ (Int32 × q_H)))) = some (.inl (nI p + 1, g_cw H k S')) ∧ g_R b S' (g_las t key p B) := by
  obtain ⟨hW, hq, h5, hn⟩ := hI
  have hne : g_ne B = g_ne A := by unfold g_ne; rw [h5]
  have hpB : p < g_ne B := by rw [hne]; exact hp
  rw [c_keyAt hR.2.2.2.2.2.1 hW.2.1.1 hpB, c_isKilled hR.2.2.2.2.2.1 hW.2.1.1 hpB]
  simp only [Option.bind_some]
  by_cases c : B 2 p 0 = key
  · by_cases d : B 2 p 3 = 0
    · rw [if_neg (fun q => q c), decide_eq_false (show ¬ B 2 p 3 = 1 by rw [d]; decide), if_pos (by rfl), g_las_t c d]
      obtain ⟨e, hJ⟩ := m_looksAt (h := H) (t := t) (key := key) (i := p) hW (by omega) hpB ((g_ft_tn (fq_ft hq)).mpr ht)
      obtain ⟨S', e2, r2⟩ := c_lat (key := key) hW hR (by omega) hpB ((g_ft_tn (fq_ft hq)).mpr ht) hJ
      rw [e2]
      simp only [Option.bind_some]
      exact ⟨S', rfl, r2⟩
    · have d1 : B 2 p 3 = 1 := by
        rcases (hW.2.1.1.2.2 p hpB).2 with q | q
        · exact absurd q d
        · exact q
      rw [if_neg (fun q => q c), decide_eq_true d1, if_neg (by decide), g_las_f (fun q => d q.2)]
      simp only [Option.bind_some]
      exact ⟨g_st H k, by rw [g_cw_st], hR⟩
  · rw [if_pos c, g_las_f (fun q => c q.1)]
    simp only [Option.bind_some]
    exact ⟨g_st H k, by rw [g_cw_st], hR⟩
theorem m_looks {h : q_H} {t : Nat} {key : Int32} {A : g_A} (hW : g_W A) (ht : g_tn A t) : Mo_looks (nI t) key (g_ma h 31 A) = some ((g_loo t key A) 0 7 0, g_ma h 31 (g_loo t key A)) ∧ g_lI A (g_ne A) (g_loo t key A) := by
  have wi := hW.2.1.1
  have h60 := wi.2.1
  unfold Mo_looks
  rw [m_horizon hW.1.1]
  simp only [Option.bind_some]
  rw [g_w0 (by omega)]
  have := m_sixN (hh := h) (n := g_ne A) (A := g_l0 A) (f := g_las t key) (B := fun s3 : Int32 × q_H => (if (s3.2.1 31 0 7 5) ≤ s3.1 then (some (.inr (((s3.2.1 31 0 7 7), s3.2)))) else ((Mo_entryOf s3.1 (0 : Int32) s3.2).bind fun x11 => Option.bind (α := q_H) (if ¬ x11 = key then (some (s3.2)) else ((Mo_entryOf s3.1 (3 : Int32) s3.2).bind fun x17 => if ¬ x17 = 0 then (some (s3.2)) else ((Mo_looksAt (nI t) key s3.1 (nI (g_hz A)) s3.2).bind fun x19 => some (x19)))) (fun p23 => some (.inl ((s3.1 + (1 : Int32)), p23)))) : Option ((Int32 × q_H) ⊕ (Int32 × q_H)))) (rr := fun h' => (h'.1 31 0 7 7, h')) (g_lI A) (by unfold q_fu; omega) (g_l0_I hW)
    (fun p hp B hI => by
      dsimp only
      rw [m_g (by omega), hI.2.2.1, wi.1, if_neg (nI_ge hp (by omega))]
      exact m_las hI hp h60 ht)
    (fun B hI => by
      dsimp only
      rw [m_g (by omega), hI.2.2.1, wi.1, if_pos (Int32.le_refl _)])
  obtain ⟨e, hI⟩ := this
  unfold g_l0 at e
  rw [e]
  simp only [Option.bind_some]
  rw [m_g (by omega)]
  exact ⟨rfl, hI⟩
theorem c_lookFor {b : Nat} {H : q_H} {k t : Nat} {key : Int32} {A : g_A} (hW : g_W A) (hR : g_R b (g_st H k) A) (ht : g_tn A t) : ∃ S', St_lookFor k (nI t) key H = some ((g_loo t key A) 0 7 0, g_cw H k S') ∧ g_R b S' (g_loo t key A) := by
  have wi := hW.2.1.1
  have h60 := wi.2.1
  unfold St_lookFor
  rw [g_si_cw]
  have := c_sixN (H := g_cw H k (g_su (g_st H k) 19 4 0 0)) (k := k) (bb := b) (n := g_ne A) (A := g_l0 A) (f := g_las t key) (B := fun s1 : Int32 × q_H => (if (s1.2.1 11 3 k 0) ≤ s1.1 then (some (.inr (((s1.2.1 19 4 k 0), s1.2)))) else ((Ix_keyAt k s1.1 s1.2).bind fun x9 => Option.bind (α := q_H) (if ¬ x9 = key then (some (s1.2)) else ((Ix_isKilled k s1.1 s1.2).bind fun x15 => if x15 = 0 then ((Ix_placeAt k s1.1 s1.2).bind fun x17 => (Rp_pageOf x17 s1.2).bind fun x19 => (Pg_isClear k x19 s1.2).bind fun x21 => Option.bind (α := q_H) (if ¬ x21 = 0 then (some (s1.2)) else ((Lg_count k (7 : Int32) (1 : Int32) s1.2).bind fun x27 => some (x27))) (fun p30 => (St_goThrough k (nI t) key s1.1 p30).bind fun x31 => some (x31))) else (some (s1.2)))) (fun p36 => some (.inl ((s1.1 + (1 : Int32)), p36)))) : Option ((Int32 × q_H) ⊕ (Int32 × q_H)))) (rr := fun h' => (h'.1 19 4 k 0, h')) (g_lI A) (by unfold q_fu; omega) (g_l0_I hW) (by rw [g_st_cw]; exact g_l0_R hR)
    (fun p hp H' B hI hR' => by
      dsimp only
      have e11 : H'.1 11 3 k 0 = nI (g_ne A) := hR'.2.2.2.2.2.1.1.trans (hI.2.2.1.trans wi.1)
      rw [e11, if_neg (nI_ge hp (by omega))]
      exact ⟨c_las hI hR' hp h60 ht, (m_las (h := H') hI hp h60 ht).2⟩)
    (fun H' B hI hR' => by
      dsimp only
      have e11 : H'.1 11 3 k 0 = nI (g_ne A) := hR'.2.2.2.2.2.1.1.trans (hI.2.2.1.trans wi.1)
      rw [e11, if_pos (Int32.le_refl _)])
  obtain ⟨⟨S', e, hR'⟩, hI⟩ := this
  rw [e]
  simp only [Option.bind_some]
  rw [g_cw_cw, g_cw_rd, hR'.2.2.2.2.2.2.2.1.1]
  exact ⟨S', rfl, hR'⟩
theorem g_wk_o {z t : Nat} {key : Int32} {A : g_A} {c g j w : Nat} (h5 : g ≠ 5) (h0 : ¬ (g = 0 ∧ j = 7)) : ∀ i, (g_wk z t key A c i).2.2.2 g j w = A g j w := fun i => by
  induction i with
  | zero => rfl
  | succ i ih =>
    rw [g_wk_s]
    split
    · unfold g_wkf
      dsimp only
      cases (!(g_wk z t key A c i).2.1 && (g_se (g_wk z t key A c i).2.2.2 t (g_wk z t key A c i).2.2.1 && decide ((g_wk z t key A c i).2.2.2 1 (g_wk z t key A c i).2.2.1 3 = key))) with
      | true =>
        rw [cond_true, g_fd_o (by omega) h0]; exact ih
      | false => exact ih
    · exact ih
theorem g_lat_o {t : Nat} {key : Int32} {i g j w : Nat} {A : g_A} (h5 : g ≠ 5) (h4 : g ≠ 4) (h0 : ¬ (g = 0 ∧ (j = 6 ∨ j = 7 ∨ j = 15))) (h2 : ¬ (g = 2 ∧ j = i ∧ w = 3)) : g_lat t key i A g j w = g_lct A i g j w := by
  unfold g_lat
  cases (g_wk (g_hz (g_lct A i)) t key (g_lct A i) (g_ch (g_lct A i) (g_ep A i)) 10).1 with
  | true => exact g_wk_o h5 (by omega) _
  | false =>
    rw [cond_false, g_kil_o h2 (by omega) h4]
    exact g_wk_o h5 (by omega) _
theorem g_las_cl {t : Nat} {key : Int32} {i p : Nat} {A : g_A} (hp : p < 6) : g_las t key i A 0 (23 + p) 0 = A 0 (23 + p) 0 := by
  by_cases c : A 2 i 0 = key ∧ A 2 i 3 = 0
  · rw [g_las_t c.1 c.2, g_lat_o (by omega) (by omega) (by omega) (by omega), g_lct_o (by omega)]
  · rw [g_las_f c]
theorem g_loo_cl {t : Nat} {key : Int32} {A : g_A} {p : Nat} (hp : p < 6) : g_loo t key A 0 (23 + p) 0 = A 0 (23 + p) 0 :=
  g_i6_I (n := g_ne A) (fun B => B 0 (23 + p) 0 = A 0 (23 + p) 0) (g_l0_o (by omega)) (fun i _ B hB => (g_las_cl hp).trans hB) (g_ne A) (Nat.le_refl _)
theorem act_look {b : Nat} {A : g_A} {H : q_H} {a key : Int32} (hW : g_W A) (hR : g_R b (g_st H 0) A) : g_act b A H (Rp_look a key H) (Mo_lookNow a key) := by
  unfold Rp_look
  rw [c_isWithin]
  simp only [Option.bind_some]
  cases c : g_in key 0 99 with
  | false =>
    rw [if_neg (by decide), e_refuse]
    refine act_ref hR hW (by decide) (fun h => ?_)
    unfold Mo_lookNow
    rw [m_isIn, c]; rfl
  | true =>
    rw [if_pos (by decide), c_asFree hR.2.1 hW.1.1]
    simp only [Option.bind_some]
    have wt := hW.1.1
    have hm : ∀ h, Mo_lookNow a key (g_ma h 31 A) = if g_free A a = 0 then (Mo_looks a key (g_ma h 31 A)) else some (-1, q_si (g_ma h 31 A) 30 6 7 0 (g_free A a)) := fun h => by
      unfold Mo_lookNow
      rw [m_isIn, c]
      simp only [Option.bind_some]
      rw [if_pos (by decide), m_isTxn wt]
      simp only [Option.bind_some]
      unfold g_free g_opn
      cases d : g_tx A a with
      | false => 
        rfl
      | true =>
        obtain ⟨t, e, t1, t2⟩ := g_tx_t wt d
        have hT : a.toNatClampNeg = t := by rw [e]; exact g_cl (by have := wt.2.2; omega)
        rw [if_pos (by decide), if_pos rfl, hT, e, m_isOpen (by have := wt.2.2; omega)]
        simp only [Option.bind_some]
        unfold g_op
        by_cases o : A 3 t 0 = 0
        · rw [decide_eq_true o, if_pos (by decide), if_pos o, if_pos rfl, m_isWaiting (by have := wt.2.2; omega)]
          simp only [Option.bind_some]
          by_cases w : 0 < A 6 t 0
          · rw [decide_eq_true w, if_neg (by decide), if_pos w, if_neg (by decide), e_Mrefuse]; rfl
          · rw [decide_eq_false w, if_pos (by rfl), if_neg w, if_pos rfl]
            cases Mo_looks (nI t) key (g_ma h 31 A) <;> rfl
        · rw [decide_eq_false o, if_neg (by decide), if_neg o, if_neg (show ¬ (4 : Int32) = 0 by decide), if_neg (show ¬ (4 : Int32) = 0 by decide), e_Mrefuse]; rfl
    by_cases f : g_free A a = 0
    · rw [if_pos f]
      obtain ⟨t, e, ht, _, _, _, _⟩ := g_free_t wt f
      obtain ⟨S', e1, r1⟩ := c_lookFor (key := key) hW hR ht
      obtain ⟨_, hI⟩ := m_looks (h := H) (key := key) hW ht
      rw [e, e1]
      simp only [Option.bind_some]
      rw [e_answer]
      have h60 := hW.2.1.1.2.1
      have wd := hI.1.2.2.2.2.2.2.1
      refine act_ans r1 hI.1 (by rw [wd.1]; exact nI_pos' (by have := wd.2.1; omega)) (c1_eq (fun x hx => Or.inr (g_loo_cl hx))) (fun h => ?_)
      rw [← e, hm h, if_pos f, e]
      exact (m_looks (h := h) hW ht).1
    · rw [if_neg f, e_refuse]
      refine act_ref hR hW f (fun h => ?_)
      rw [hm h, if_neg f]
