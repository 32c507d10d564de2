/-! prunePage, whole; a store's whole picture -/
theorem g_pc_rf {p : Nat} {A : g_A} : g_pc p A A 0 := ⟨fun _ _ _ => rfl, (if_pos rfl).symm, fun _ _ _ => rfl⟩
theorem g_pc_tr {p : Nat} {A B C : g_A} {n m : Nat} (h : g_pc p A B n) (h' : g_pc p B C m) : g_pc p A C (n + m) := by
  refine ⟨fun q a b => (h'.1 q a b).trans (h.1 q a b), ?_, fun s w a => (h'.2.2 s w a).trans (h.2.2 s w a)⟩
  rw [h'.2.1, h.2.1]
  by_cases c : m = 0
  · rw [if_pos c, c, Nat.add_zero]
  · rw [if_neg c, if_neg (by omega)]
theorem g_pc_goes {p s : Nat} {A : g_A} (hp : s / 10 = p) : g_pc p A (g_goes A s) 1 := by
  refine ⟨fun q a b => ?_, ?_, fun x w a => ?_⟩
  · unfold g_goes
    rw [g_au_ne (by omega), g_au_ne (by omega)]
  · unfold g_goes
    rw [hp, g_au_eq]; rfl
  · rw [g_goes_k, if_neg (fun q => a (by rw [q.1]; exact hp))]
theorem g_pc_rmv {p c : Nat} {A : g_A} : ∀ n, (∀ j, j < n → g_ci A c j / 10 = p) → g_pc p A (g_rmv A c n) n := by
  intro n
  induction n with
  | zero => intro _; exact g_pc_rf
  | succ n ih =>
    intro h
    rw [g_rmv_s]
    exact g_pc_tr (ih (fun j hj => h j (by omega))) (g_pc_goes (h n (by omega)))
theorem g_pc_tell {p : Nat} {A : g_A} {kd nm : Int32} : g_pc p A (g_tell A kd nm) 0 := by
  refine ⟨fun q a b => ?_, ?_, fun x w a => g_tell_1⟩
  · unfold g_tell; rw [if_neg (by omega), if_neg (by omega)]
  · rw [if_pos rfl]; unfold g_tell; rw [if_neg (by omega), if_neg (by omega)]
theorem g_pc_au {p s w : Nat} {A : g_A} {v : Int32} (hp : s / 10 = p) : g_pc p A (g_au A 1 s w v) 0 := by
  refine ⟨fun q a b => g_au_ne (by omega), ?_, fun x w' a => g_au_ne (fun q => a (by rw [q.2.1]; exact hp))⟩
  rw [if_pos rfl]; exact g_au_ne (by omega)
theorem g_pc_cu {p s z : Nat} {A : g_A} (hI : g_PI A) (hs : s < 60) (hp : s / 10 = p) (hi : g_iv A s = true) (hk : A 1 s 0 = 2 ∨ (A 1 s 0 = 1 ∧ A 1 s 10 = 0)) : g_pc p A (g_cu A z s) (g_cc A z s) := by
  by_cases hn : g_cc A z s = 0
  · have e1 : g_cu A z s = A := if_pos hn
    rw [e1, hn]; exact g_pc_rf
  · obtain ⟨c0, f0, pg, hD, hK, hL⟩ := g_cu_f hI hs hi hk hn
    have e1 : g_cu A z s = _ := if_neg hn
    rw [e1]
    have h := g_pc_rmv (p := p) (c := g_ch A s) (A := A) (g_cc A z s) (fun j hj => by have := (hD j hj).2.1; omega)
    exact g_pc_tr (g_pc_tr (g_pc_tr h (g_pc_au hp)) (g_pc_au hp)) g_pc_tell
theorem g_pc_p1 {A : g_A} (h : g_PI A) {z p : Nat} (hp : p < 6) : ∀ i, i ≤ g_ln A p → g_pc p A (g_p1 A z p i).2 (g_p1 A z p i).1 := by
  intro i
  induction i with
  | zero => intro _; exact g_pc_rf
  | succ i ih =>
    intro hi
    have hc := ih (by omega)
    obtain ⟨a, b, c⟩ := g_p1_I h (z := z) hp i (by omega)
    have h10 := (h.2.2.1 p hp).2
    show g_pc p A (g_p1f z (10 * p + i) (g_p1 A z p i)).2 (g_p1f z (10 * p + i) (g_p1 A z p i)).1
    unfold g_p1f
    by_cases d : (g_p1 A z p i).2 1 (10 * p + i) 0 = 2 ∨ ((g_p1 A z p i).2 1 (10 * p + i) 0 = 1 ∧ (g_p1 A z p i).2 1 (10 * p + i) 10 = 0)
    · rw [if_pos d]
      have hi' : g_iv (g_p1 A z p i).2 (10 * p + i) = true := by rw [g_fk_iv b.1 (by omega), g_iv_pj (by omega)]; exact decide_eq_true (by omega)
      exact g_pc_tr hc (g_pc_cu a (by omega) (by omega) hi' d)
    · rw [if_neg d]; exact hc
theorem g_pc_p2 {A : g_A} {x : Nat × g_A} {p : Nat} (h : g_pc p A x.2 x.1) : ∀ i, i ≤ 10 → g_pc p A (g_p2 x p i).2 (g_p2 x p i).1 := by
  intro i
  induction i with
  | zero => intro _; exact h
  | succ i ih =>
    intro hi
    have hc := ih (by omega)
    show g_pc p A (g_p2f (10 * p + i) (g_p2 x p i)).2 (g_p2f (10 * p + i) (g_p2 x p i)).1
    unfold g_p2f
    by_cases d : (g_p2 x p i).2 1 (10 * p + i) 0 = 1 ∧ (g_p2 x p i).2 1 (10 * p + i) 10 ≠ 0 ∧ (g_p2 x p i).2 1 (10 * p + i) 11 ≠ 1 ∧ (g_p2 x p i).2 3 (g_mk (g_p2 x p i).2 (10 * p + i)) 0 = 2
    · rw [if_pos d]
      exact g_pc_tr hc (g_pc_goes (by omega))
    · rw [if_neg d]; exact hc
theorem g_pc_pu {A : g_A} (h : g_PI A) {p : Nat} (hp : p < 6) : g_pc p A (g_pu A p).2 (g_pn A p) := g_pc_p2 (g_pc_p1 h hp _ (Nat.le_refl _)) _ (h.2.2.1 p hp).2
theorem g_pc_pr {A : g_A} (h : g_PI A) {p : Nat} (hp : p < 6) : g_pc p A (g_pr A p) (g_pn A p) := by
  have h1 := g_pc_pu h hp
  unfold g_pr
  by_cases d : g_pn A p = 0
  · rw [if_pos d]; exact h1
  · rw [if_neg d]
    have a : ∀ {B : g_A} {j : Nat} {v : Int32}, j < 23 → g_pc p B (g_au B 0 j 0 v) 0 := fun {B j v} hj => ⟨fun q a b => g_au_ne (by omega), by rw [if_pos rfl]; exact g_au_ne (by omega), fun x w a => g_au_ne (by omega)⟩
    exact g_pc_tr (g_pc_tr (g_pc_tr h1 (a (by omega))) (a (by omega))) g_pc_tell
theorem c_prunePage {H : q_H} {k p : Nat} {A : g_A} (hI : g_PI A) (hp : p < 6) (hR : r_t (g_st H k) A) (hr : ∀ j, j < 10 → r_s (g_st H k) A (10 * p + j)) (hh : H.1 6 5 k 0 = nI (g_hz A)) :
    ∃ S', St_prunePage k (nI p) H = some (nI (g_pn A p), g_cw H k S') ∧ g_cP p (g_st H k) A S' (g_pr A p) := by
  have h10 := (hI.2.2.1 p hp).2
  obtain ⟨a1, b1, n1⟩ := g_p1_I hI (z := g_hz A) hp (g_ln A p) (Nat.le_refl _)
  obtain ⟨a2, b2, n2⟩ := g_pu_I hI hp
  obtain ⟨r1, e1, S1, f1, c1⟩ := c_prune1 hI hp hR hr hh
  have hR1 : r_t (g_st (g_cw H k S1) k) (g_p1 A (g_hz A) p (g_ln A p)).2 := by rw [g_st_cw]; exact r_t_fk hR c1.2.1 b1.1
  have hr1 : ∀ j, j < 10 → r_s (g_st (g_cw H k S1) k) (g_p1 A (g_hz A) p (g_ln A p)).2 (10 * p + j) := by rw [g_st_cw]; exact c1.1
  obtain ⟨r2, e2, S2, f2, c2⟩ := c_prune2 (x := g_p1 A (g_hz A) p (g_ln A p)) hp h10 a1 b1 hR1 hr1
  rw [g_st_cw] at c2
  rw [g_cw_cw] at f2
  have ls12 : g_ls (g_p1 A (g_hz A) p (g_ln A p)).2 (g_pu A p).2 := (g_p2_I (A := (g_p1 A (g_hz A) p (g_ln A p)).2) hp h10 a1 g_ls_rf (g_fk_ln b1.1 hp) (g_ln A p) (Nat.le_refl _)).2.1
  have cc : g_cI p (g_st H k) A S2 (g_pu A p).2 := g_cI_tr c1 c2 ls12
  have hclr := g_pc_pr hI hp
  unfold St_prunePage
  rw [e1, f1]
  simp only [Option.bind_some]
  rw [e2, f2]
  simp only [Option.bind_some]
  have en : (g_p2 (g_p1 A (g_hz A) p (g_ln A p)) p (g_ln A p)).1 = g_pn A p := rfl
  rw [en]
  by_cases d : g_pn A p = 0
  · have er : g_pr A p = (g_pu A p).2 := if_pos d
    rw [d, if_pos (by decide)]
    refine ⟨S2, rfl, ?_⟩
    rw [er]
    refine ⟨cc.1, cc.2.1, cc.2.2.1, fun q _ => cc.2.2.2.1 q, fun h => ?_, cc.2.2.2.2.1, cc.2.2.2.2.2⟩
    rw [cc.2.2.2.1 p, h, ← er, hclr.2.1, if_pos d]
  · have er : g_pr A p = g_pt (g_pu A p) p := if_neg d
    have n3 : g_pn A p ≤ 110 := n2
    rw [if_neg (nI_nle (by omega) (by omega)), c_setClear0 hp, g_st_cw, g_cw_cw]
    simp only [Option.bind_some]
    rw [show (0 : Int32) = nI 0 from rfl, show (1 : Int32) = nI 1 from rfl, c_count (by omega), g_cw_rd, g_st_cw, g_cw_cw]
    simp only [Option.bind_some]
    rw [c_count (by omega), g_cw_rd, g_st_cw, g_cw_cw]
    simp only [Option.bind_some]
    rw [c_tell, g_st_cw, g_cw_cw]
    simp only [Option.bind_some]
    refine ⟨_, rfl, ?_⟩
    rw [er]
    have hpt := g_pt_f (x := g_pu A p) (p := p)
    have hiv : ∀ s, s < 60 → g_iv (g_pt (g_pu A p) p) s = g_iv (g_pu A p).2 s := fun s hs => g_fk_iv hpt.1 hs
    refine ⟨fun j hj => ?_, ?_, fun f x hx => ?_, fun q hq => ?_, fun h => ?_, fun x hx f => ?_, fun q => ?_⟩
    · refine r_s_eq (cc.1 j hj) (fun f => ?_) (hiv _ (by omega)) (fun w => hpt.2 _ w)
      rw [g_tellS_t (by omega) (by omega) (by omega), g_su_t (by omega), g_su_t (by omega), g_su_t (by omega)]
    · exact g_fs_tr (g_fs_tr (g_fs_tr (g_fs_tr cc.2.1 (g_fs_su (by omega))) (g_fs_su (by omega))) (g_fs_su (by omega))) g_fs_tell
    · rw [g_tellS_t (by omega) (by omega) (by omega), g_su_t (by omega), g_su_t (by omega), g_su_t (by omega)]
      exact cc.2.2.1 f x hx
    · rw [g_tellS_t (by omega) (by omega) (by omega), g_su_t (by omega), g_su_t (by omega), g_su_t (by omega)]
      exact cc.2.2.2.1 q
    · rw [g_tellS_t (by omega) (by omega) (by omega), g_su_t (by omega), g_su_t (by omega), g_su_e, ← er, hclr.2.1, if_neg d]; rfl
    · rw [g_tellS_t (by omega) (by omega) (by omega), g_su_t (by omega), g_su_t (by omega), g_su_t (by omega)]
      exact cc.2.2.2.2.1 x hx (by rw [g_fk_kd hpt.1 hx (hpt.2 x 0)] at f; exact f)
    · have l0 := cc.2.2.2.2.2 q
      have l1 : r_l (g_su S2 5 0 p (nI 0)) (g_pu A p).2 ∧ g_wg (g_pu A p).2 := r_l_eq l0 (fun t f i ht => g_su_t (by omega)) rfl (fun _ _ => rfl) (fun _ _ => rfl)
      have l2 := r_l_count (j := 0) (v := nI 1) l1.1 (by omega)
      have l3 := r_l_count (j := 1) (v := nI (g_pn A p)) l2 (by omega)
      have w3 : g_wg (g_au (g_au (g_pu A p).2 0 (9 + 0) 0 ((g_pu A p).2 0 (9 + 0) 0 + nI 1)) 0 (9 + 1) 0 (g_au (g_pu A p).2 0 (9 + 0) 0 ((g_pu A p).2 0 (9 + 0) 0 + nI 1) 0 (9 + 1) 0 + nI (g_pn A p))) := l1.2
      have l4 := r_l_tell (kd := nI 0) (nm := nI p) l3 w3
      exact ⟨l4, (g_tell_nv w3).1⟩
