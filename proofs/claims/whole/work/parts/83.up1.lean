/-! update -/
theorem g_ma_cg {h : q_H} {t : Nat} {X Y : g_A} (e : ∀ j, j < 1644 → g_at X j = g_at Y j) : g_ma h t X = g_ma h t Y := by
  unfold g_ma
  refine Prod.ext ?_ rfl
  funext a f k j
  dsimp only
  by_cases c : a = t ∧ f = 0 ∧ k = 7 ∧ j < 1644
  · rw [if_pos c, if_pos c, e j c.2.2.2]
  · rw [if_neg c, if_neg c]
theorem g_at_of {h : q_H} {t j : Nat} : g_at (g_of h t) j = h.1 t 0 7 j := by
  obtain ⟨g, i, w, hr, hx⟩ := g_at_ix j
  rw [hr]
  unfold g_of
  rw [hx]
theorem m_copy {h : q_H} {t1 t2 : Nat} (ht : t1 ≠ t2) (a1 : q_at t1 = 0) (a2 : q_at t2 = 0) (l1 : q_al t1 = 1644) (l2 : q_al t2 = 1644) : Mo_copy t1 7 t2 7 h = some (g_ma h t2 (g_of h t1)) := by
  unfold Mo_copy
  rw [a1, a2, l1, l2]
  let X : Nat → q_H := fun i => (fun a f k j => if a = t2 ∧ f = 0 ∧ k = 7 ∧ j < i then h.1 t1 0 7 j else h.1 a f k j, h.2)
  refine g_bs ?_
  have e0 : (((0 : Int32), h) : Int32 × q_H) = (nI 0, X 0) := by
    have : X 0 = h := by
      refine Prod.ext ?_ rfl
      funext a f k j
      show (if a = t2 ∧ f = 0 ∧ k = 7 ∧ j < 0 then _ else _) = _
      rw [if_neg (by omega)]
    rw [this]; rfl
  rw [e0]
  refine g_lp (fun i => (nI i, X i)) _ 1644 (fun i hi => ?_) ?_ q_fu (by decide)
  · dsimp only
    rw [if_neg (show ¬ (1644 : Int32) ≤ nI i from nI_ge (b := 1644) hi (by decide)), g_inN hi (by decide), g_cl (by omega), nI_1]
    have r : (X i).1 t1 0 7 i = h.1 t1 0 7 i := by
      show (if t1 = t2 ∧ (0 : Nat) = 0 ∧ (7 : Nat) = 7 ∧ i < i then _ else _) = _
      rw [if_neg (by omega)]
    rw [r]
    show some (Sum.inl (nI (i + 1), q_si (X i) t2 0 7 i (h.1 t1 0 7 i))) = some (Sum.inl (nI (i + 1), X (i + 1)))
    have : q_si (X i) t2 0 7 i (h.1 t1 0 7 i) = X (i + 1) := by
      refine Prod.ext ?_ rfl
      funext a f k j
      show (if a = t2 ∧ f = 0 ∧ k = 7 ∧ j = i then h.1 t1 0 7 i else (if a = t2 ∧ f = 0 ∧ k = 7 ∧ j < i then h.1 t1 0 7 j else h.1 a f k j)) = (if a = t2 ∧ f = 0 ∧ k = 7 ∧ j < i + 1 then h.1 t1 0 7 j else h.1 a f k j)
      by_cases c : a = t2 ∧ f = 0 ∧ k = 7 ∧ j = i
      · rw [if_pos c, if_pos (by omega), c.2.2.2]
      · rw [if_neg c]
        by_cases d : a = t2 ∧ f = 0 ∧ k = 7 ∧ j < i
        · rw [if_pos d, if_pos (by omega)]
        · rw [if_neg d, if_neg (by omega)]
    rw [this]
  · dsimp only
    rw [if_pos (show (1644 : Int32) ≤ nI 1644 by decide)]
    congr 2
    refine Prod.ext ?_ rfl
    funext a f k j
    show (if a = t2 ∧ f = 0 ∧ k = 7 ∧ j < 1644 then h.1 t1 0 7 j else h.1 a f k j) = (g_ma h t2 (g_of h t1)).1 a f k j
    unfold g_ma
    dsimp only
    rw [g_at_of]
theorem g_at_of_ma {h : q_H} {t j : Nat} {A : g_A} (hj : j < 1644) : g_at (g_of (g_ma h t A) t) j = g_at A j := by rw [g_at_of, g_ma_rd hj]
theorem m_copy1 {h : q_H} {t : Nat} {A : g_A} (ht : t = 32 ∨ t = 33 ∨ t = 34) : Mo_copy 31 7 t 7 (g_ma h 31 A) = some (g_ma (g_ma h t A) 31 A) := by
  have e : q_at t = 0 ∧ q_al t = 1644 ∧ 31 ≠ t := by rcases ht with rfl | rfl | rfl <;> decide
  rw [m_copy e.2.2 rfl e.1 rfl e.2.1, g_ma_cg (fun j hj => g_at_of_ma hj), g_ma_cm (fun q => e.2.2 q.symm)]
theorem m_copy2 {h : q_H} {t : Nat} {A A' : g_A} (ht : t = 32 ∨ t = 33 ∨ t = 34) : Mo_copy t 7 31 7 (g_ma (g_ma h t A) 31 A') = some (g_ma (g_ma h t A) 31 A) := by
  have e : q_at t = 0 ∧ q_al t = 1644 ∧ t ≠ 31 := by rcases ht with rfl | rfl | rfl <;> decide
  rw [m_copy e.2.2 e.1 rfl e.2.1 rfl, g_ma_ma]
  congr 1
  refine g_ma_cg (fun j hj => ?_)
  rw [g_at_of, g_ma_ne e.2.2, g_ma_rd hj]
/-- a version that isn't dead stays -/
theorem g_pr_keep {A : g_A} (hI : g_PI A) {p v : Nat} (hp : p < 6) (hv : v < 60) (hf : g_fu A v = true) (hd : g_de A (g_hz A) v = false) (hm : A 3 (g_mk A v) 0 ≠ 2) : g_fu (g_pr A p) v = true := by
  have h10 := (hI.2.2.1 p hp).2
  have l1 : ∀ i, i ≤ g_ln A p → g_fu (g_p1 A (g_hz A) p i).2 v = true := by
    intro i
    induction i with
    | zero => intro _; exact hf
    | succ i ih =>
      intro hi
      have hc := ih (by omega)
      obtain ⟨a, b, c⟩ := g_p1_I hI (z := g_hz A) hp i (by omega)
      show g_fu (g_p1f (g_hz A) (10 * p + i) (g_p1 A (g_hz A) p i)).2 v = true
      generalize g_p1 A (g_hz A) p i = y at a b c hc ⊢
      unfold g_p1f
      by_cases d : y.2 1 (10 * p + i) 0 = 2 ∨ (y.2 1 (10 * p + i) 0 = 1 ∧ y.2 1 (10 * p + i) 10 = 0)
      · rw [if_pos d]
        have hi' : g_iv y.2 (10 * p + i) = true := by rw [g_fk_iv b.1 (by omega), g_iv_pj (by omega)]; exact decide_eq_true (by omega)
        dsimp only
        by_cases hn : g_cc y.2 (g_hz A) (10 * p + i) = 0
        · have e1 : g_cu y.2 (g_hz A) (10 * p + i) = y.2 := if_pos hn
          rw [e1]; exact hc
        · obtain ⟨_, _, _, _, _, _, hfu⟩ := g_cu_k a (z := g_hz A) (by omega) hi' d hn
          have nd : ¬ ∃ j, j < g_cc y.2 (g_hz A) (10 * p + i) ∧ v = g_ci y.2 (g_ch y.2 (10 * p + i)) j := fun ⟨j, hj, e⟩ => by
            have := (g_cc_lt hj).2
            rw [← e, g_fk_de b.1, hd] at this
            cases this
          refine (hfu v hv).mpr ⟨hc, fun q => ?_, nd⟩
          rcases d with k2 | k1
          · rw [q] at hc; have := (g_fu_iv hc).2; rw [k2] at this; exact absurd this (by decide)
          · exact nd ⟨0, by omega, by rw [q]; exact (g_ch_1 k1.1).symm⟩
      · rw [if_neg d]; exact hc
  obtain ⟨a1, b1, _⟩ := g_p1_I hI (z := g_hz A) hp (g_ln A p) (Nat.le_refl _)
  have l2 : ∀ i, i ≤ g_ln A p → g_fu (g_p2 (g_p1 A (g_hz A) p (g_ln A p)) p i).2 v = true := by
    intro i
    induction i with
    | zero => intro _; exact l1 _ (Nat.le_refl _)
    | succ i ih =>
      intro hi
      have hc := ih (by omega)
      obtain ⟨a, b, c⟩ := g_p2_I hp h10 a1 b1 rfl i (by omega)
      show g_fu (g_p2f (10 * p + i) (g_p2 (g_p1 A (g_hz A) p (g_ln A p)) p i)).2 v = true
      generalize g_p2 (g_p1 A (g_hz A) p (g_ln A p)) p i = y at a b c hc ⊢
      unfold g_p2f
      by_cases d : y.2 1 (10 * p + i) 0 = 1 ∧ y.2 1 (10 * p + i) 10 ≠ 0 ∧ y.2 1 (10 * p + i) 11 ≠ 1 ∧ y.2 3 (g_mk y.2 (10 * p + i)) 0 = 2
      · rw [if_pos d]
        dsimp only
        have dv : v ≠ 10 * p + i := fun q => by
          have := d.2.2.2
          rw [← q, g_fk_mk b.1, g_fk_3 b.1] at this
          exact hm this
        rw [g_fk_kd (g_fk_goes (by omega)) hv (by rw [g_goes_k, if_neg (fun q => dv q.1)])]
        exact hc
      · rw [if_neg d]; exact hc
  have h2 := l2 _ (Nat.le_refl _)
  unfold g_pr
  by_cases d : g_pn A p = 0
  · rw [if_pos d]; exact h2
  · rw [if_neg d, g_fk_kd (g_pt_f (p := p)).1 hv ((g_pt_f (p := p)).2 v 0)]; exact h2
def g_pA (A : g_A) (p : Nat) (z : Int32) : g_A := if g_pi A p z < 60 then A else g_pr A p
def g_pb (A : g_A) (p : Nat) (z : Int32) : Nat := if g_pi A p z < 60 then g_pi A p z else if g_pi (g_pr A p) p z < 60 then g_pi (g_pr A p) p z else g_fp (g_pr A p) z
theorem c_placeBehind {b : Nat} {A : g_A} {H : q_H} {v : Nat} {z : Int32} (hW : g_W A) (hR : g_R b (g_st H 0) A) (hv : v < 60) : ∃ S2, St_placeBehind 0 (nI v) z H = some (g_pp (g_pb A (v / 10) z), g_cw H 0 S2) ∧ g_R b S2 (g_pA A (v / 10) z) := by
  have hp : v / 10 < 6 := by omega
  unfold St_placeBehind g_pb g_pA
  rw [c_pageOf hv]
  simp only [Option.bind_some]
  rw [c_placeIn hp hR.1.1 (hR.2.2.2.1 _ hp) hW.1.2.2.1]
  simp only [Option.bind_some]
  by_cases c : g_pi A (v / 10) z < 60
  · rw [if_neg (fun q => g_pp1.mp q c), if_pos c, if_pos c]
    exact ⟨g_st H 0, by rw [g_cw_st], hR⟩
  · rw [if_pos (g_pp1.mpr c), if_neg c, if_neg c]
    obtain ⟨S2, e, hR2⟩ := c_prunePageR hW hR hp
    have wl2 := (g_W_pr hW hp).1.1.2.2.1
    have hR2' : g_R b (g_st (g_cw H 0 S2) 0) (g_pr A (v / 10)) := by rw [g_st_cw]; exact hR2
    rw [e]
    simp only [Option.bind_some]
    rw [c_placeIn hp hR2'.1.1 (hR2'.2.2.2.1 _ hp) wl2]
    simp only [Option.bind_some]
    by_cases d : g_pi (g_pr A (v / 10)) (v / 10) z < 60
    · rw [if_neg (fun q => g_pp1.mp q d), if_pos d]
      exact ⟨S2, rfl, hR2⟩
    · rw [if_pos (g_pp1.mpr d), if_neg d, c_firstPlace hR2'.1.1 hR2'.2.2.2.1 wl2]
      exact ⟨S2, rfl, hR2⟩
theorem g_pb_f {A : g_A} {v t : Nat} {z : Int32} (hW : g_W A) (hu : g_up A t v) : g_W (g_pA A (v / 10) z) ∧ g_up (g_pA A (v / 10) z) t v ∧ (∀ w, 2 ≤ w → g_pA A (v / 10) z 1 v w = A 1 v w) ∧
    (g_pb A (v / 10) z < 60 → g_pb A (v / 10) z % 10 ≤ g_ln (g_pA A (v / 10) z) (g_pb A (v / 10) z / 10) ∧ g_fu (g_pA A (v / 10) z) (g_pb A (v / 10) z) = false ∧ (g_iv (g_pA A (v / 10) z) (g_pb A (v / 10) z) = true → g_pA A (v / 10) z 1 (g_pb A (v / 10) z) 0 = 0)) := by
  have hp : v / 10 < 6 := by have := hu.1; omega
  unfold g_pb g_pA
  by_cases c : g_pi A (v / 10) z < 60
  · simp only [if_pos c]
    obtain ⟨a1, a2, a3, a4⟩ := g_pi_f hW.1.2.2.1 hp c
    exact ⟨hW, hu, fun _ _ => trivial, fun _ => ⟨by rw [a1]; exact a2, a3, a4⟩⟩
  · simp only [if_neg c]
    obtain ⟨w, ls⟩ := g_W_pr hW hp
    have hmk := g_up_mk hW.1.2.2.2.2.2.2.2.2 hu
    obtain ⟨u1, u2, u3, u4, u5, u6⟩ := hu
    have hm : A 3 (g_mk A v) 0 ≠ 2 := by
      rcases hmk with q | q
      · rw [q, u4]; decide
      · rw [q]; decide
    have hd : g_de A (g_hz A) v = false := by
      unfold g_de
      rw [decide_eq_false hm]
      by_cases e : g_en A v = 0
      · rw [decide_eq_false (show ¬ (g_en A v ≠ 0) from fun q => q e)]; simp
      · have : A 3 (g_en A v) 0 = 2 := by
          unfold g_eo at u6
          by_cases y : A 3 (g_en A v) 0 = 2
          · exact y
          · rw [if_pos ⟨e, y⟩] at u6; exact absurd u6 e
        rw [this]; simp
    refine ⟨w, ⟨u1, g_pr_keep hW.1 hp u1 u2 hd hm, (g_fk_tn ls.1).mpr u3, by rw [g_fk_3 ls.1]; exact u4, ?_, by rw [g_fk_eo ls.1]; exact u6⟩, fun w hw => g_fk_1 ls.1 hw, fun h => ?_⟩
    · rw [g_fk_1 ls.1 (by omega), g_fk_mk ls.1, g_fk_kn ls.1]; exact u5
    · by_cases d : g_pi (g_pr A (v / 10)) (v / 10) z < 60
      · simp only [if_pos d]
        obtain ⟨a1, a2, a3, a4⟩ := g_pi_f w.1.2.2.1 hp d
        exact ⟨by rw [a1]; exact a2, a3, a4⟩
      · simp only [if_neg d] at h ⊢
        exact g_fp_f w.1.2.2.1 h
