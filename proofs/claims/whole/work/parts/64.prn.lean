/-! a page is pruned -/
def g_p1f (z s : Nat) (x : Nat × g_A) : Nat × g_A := if x.2 1 s 0 = 2 ∨ (x.2 1 s 0 = 1 ∧ x.2 1 s 10 = 0) then (x.1 + g_cc x.2 z s, g_cu x.2 z s) else x
def g_p2f (s : Nat) (x : Nat × g_A) : Nat × g_A := if x.2 1 s 0 = 1 ∧ x.2 1 s 10 ≠ 0 ∧ x.2 1 s 11 ≠ 1 ∧ x.2 3 (g_mk x.2 s) 0 = 2 then (x.1 + 1, g_goes x.2 s) else x
def g_p1 (A : g_A) (z p n : Nat) : Nat × g_A := g_it (g_p1f z) (10 * p) n (0, A)
def g_p2 (x : Nat × g_A) (p n : Nat) : Nat × g_A := g_it g_p2f (10 * p) n x
def g_pu (A : g_A) (p : Nat) : Nat × g_A := g_p2 (g_p1 A (g_hz A) p (g_ln A p)) p (g_ln A p)
def g_pt (x : Nat × g_A) (p : Nat) : g_A := g_tell (g_au (g_au x.2 0 9 0 (x.2 0 9 0 + 1)) 0 10 0 (x.2 0 10 0 + nI x.1)) 0 (nI p)
def g_pn (A : g_A) (p : Nat) : Nat := (g_pu A p).1
def g_pr (A : g_A) (p : Nat) : g_A := if g_pn A p = 0 then (g_pu A p).2 else g_pt (g_pu A p) p
theorem g_ls_rf {A : g_A} : g_ls A A := ⟨g_fk_rf, fun _ _ q => q⟩
theorem g_ls_tr {A B C : g_A} (h : g_ls A B) (h' : g_ls B C) : g_ls A C := ⟨g_fk_tr h.1 h'.1, fun s hs q => h.2 s hs (h'.2 s hs q)⟩
theorem g_p1_I {A : g_A} (h : g_PI A) {z p : Nat} (hp : p < 6) : ∀ i, i ≤ g_ln A p → g_PI (g_p1 A z p i).2 ∧ g_ls A (g_p1 A z p i).2 ∧ (g_p1 A z p i).1 ≤ 10 * i := by
  intro i
  induction i with
  | zero => intro _; exact ⟨h, g_ls_rf, Nat.le_refl _⟩
  | succ i ih =>
    intro hi
    obtain ⟨a, b, c⟩ := ih (by omega)
    have h10 := (h.2.2.1 p hp).2
    show g_PI (g_p1f z (10 * p + i) (g_p1 A z p i)).2 ∧ g_ls A (g_p1f z (10 * p + i) (g_p1 A z p i)).2 ∧ (g_p1f z (10 * p + i) (g_p1 A z p i)).1 ≤ 10 * (i + 1)
    unfold g_p1f
    by_cases d : (g_p1 A z p i).2 1 (10 * p + i) 0 = 2 ∨ ((g_p1 A z p i).2 1 (10 * p + i) 0 = 1 ∧ (g_p1 A z p i).2 1 (10 * p + i) 10 = 0)
    · rw [if_pos d]
      have hi' : g_iv (g_p1 A z p i).2 (10 * p + i) = true := by rw [g_fk_iv b.1 (by omega), g_iv_pj (by omega)]; exact decide_eq_true (by omega)
      have := g_PI_cu a (z := z) (by omega) hi' d
      have := g_cc_le (A := (g_p1 A z p i).2) (z := z) (s := 10 * p + i)
      exact ⟨(g_PI_cu a (z := z) (by omega) hi' d).1, g_ls_tr b (g_PI_cu a (z := z) (by omega) hi' d).2, by dsimp only; omega⟩
    · rw [if_neg d]; exact ⟨a, b, by omega⟩
theorem g_p2_I {A : g_A} {x : Nat × g_A} {p m : Nat} (hp : p < 6) (hm : m ≤ 10) (h : g_PI x.2) (hA : g_ls A x.2) (hl : g_ln A p = m) : ∀ i, i ≤ m → g_PI (g_p2 x p i).2 ∧ g_ls A (g_p2 x p i).2 ∧ (g_p2 x p i).1 ≤ x.1 + i := by
  intro i
  induction i with
  | zero => intro _; exact ⟨h, hA, Nat.le_refl _⟩
  | succ i ih =>
    intro hi
    obtain ⟨a, b, c⟩ := ih (by omega)
    show g_PI (g_p2f (10 * p + i) (g_p2 x p i)).2 ∧ g_ls A (g_p2f (10 * p + i) (g_p2 x p i)).2 ∧ (g_p2f (10 * p + i) (g_p2 x p i)).1 ≤ x.1 + (i + 1)
    unfold g_p2f
    by_cases d : (g_p2 x p i).2 1 (10 * p + i) 0 = 1 ∧ (g_p2 x p i).2 1 (10 * p + i) 10 ≠ 0 ∧ (g_p2 x p i).2 1 (10 * p + i) 11 ≠ 1 ∧ (g_p2 x p i).2 3 (g_mk (g_p2 x p i).2 (10 * p + i)) 0 = 2
    · rw [if_pos d]
      have hi' : g_iv (g_p2 x p i).2 (10 * p + i) = true := by rw [g_fk_iv b.1 (by omega), g_iv_pj (by omega)]; exact decide_eq_true (by omega)
      have := g_PI_go a (by omega) (g_fu_i hi' d.1) d.2.2.2
      exact ⟨this.1, g_ls_tr b this.2, by dsimp only; omega⟩
    · rw [if_neg d]; exact ⟨a, b, by omega⟩
theorem g_pu_I {A : g_A} (h : g_PI A) {p : Nat} (hp : p < 6) : g_PI (g_pu A p).2 ∧ g_ls A (g_pu A p).2 ∧ (g_pu A p).1 ≤ 110 := by
  have h10 := (h.2.2.1 p hp).2
  obtain ⟨a, b, c⟩ := g_p1_I h (z := g_hz A) hp (g_ln A p) (Nat.le_refl _)
  obtain ⟨a2, b2, c2⟩ := g_p2_I hp h10 a b rfl (g_ln A p) (Nat.le_refl _)
  exact ⟨a2, b2, by unfold g_pu; omega⟩
/-- what is told changes nothing of slots -/
theorem g_PI_eq {A B : g_A} (h : g_PI A) (hk : g_fk A B) (h0 : ∀ s, B 1 s 0 = A 1 s 0) (h1 : ∀ s, B 1 s 1 = A 1 s 1) : g_PI B ∧ g_ls A B := by
  have hfu : ∀ x, x < 60 → g_fu B x = g_fu A x := fun x hx => g_fk_kd hk hx (h0 x)
  have ls : g_ls A B := ⟨hk, fun x hx q => by rw [← hfu x hx]; exact q⟩
  obtain ⟨wt, wq, wl, wv, wc, wL, wT, wE, wF⟩ := h
  have hch : ∀ a, g_ch B a = g_ch A a := fun a => by unfold g_ch; rw [h0, h1]
  have olk : ∀ a x, a < 60 → x < 60 → g_lk B a x → g_lk A a x := fun a x ha hx hl => by
    rcases hl with ⟨l1, l2, l3⟩ | ⟨l1, l2⟩
    · exact Or.inl ⟨by rw [← g_fk_iv hk ha]; exact l1, by rw [← h0]; exact l2, by rw [← hch]; exact l3⟩
    · exact Or.inr ⟨by rw [← hfu a ha]; exact l1, by rw [← g_ls_nn ls wv ha l1 (by omega)]; exact l2⟩
  refine ⟨⟨g_fk_wt hk wt, g_fk_wq hk wq, g_fk_wl hk wl, g_ls_v ls wv, g_ls_c ls wv wc, fun a b x ha hb hx la lb => wL a b x ha hb hx (olk a x ha hx la) (olk b x hb hx lb), fun a ha ia ka => ?_, g_ls_E ls wE, g_ls_F ls wF⟩, ls⟩
  rw [h0] at ka
  obtain ⟨⟨x, hx, e⟩, t2, t3, t4⟩ := wT a ha (by rw [← g_fk_iv hk ha]; exact ia) ka
  have hc60 : g_ch A a < 60 := by rw [g_ch_2 ka, e, g_cl (by omega)]; omega
  rw [hch, hfu _ hc60]
  refine ⟨⟨x, hx, by rw [h1]; exact e⟩, t2, ?_, ?_⟩
  · rw [g_fk_1 hk (by omega)]; exact t3
  · rw [g_fk_mk hk, g_fk_3 hk]; exact t4
theorem g_pt_f {x : Nat × g_A} {p : Nat} : g_fk x.2 (g_pt x p) ∧ (∀ s w, g_pt x p 1 s w = x.2 1 s w) := by
  refine ⟨?_, fun s w => ?_⟩
  · refine g_fk_tr (fun g i w a b c d e => ?_) g_fk_tell
    rw [g_au_ne (by omega), g_au_ne (by omega)]
  · unfold g_pt
    rw [g_tell_1, g_au_ne (by omega), g_au_ne (by omega)]
theorem g_pr_I {A : g_A} (h : g_PI A) {p : Nat} (hp : p < 6) : g_PI (g_pr A p) ∧ g_ls A (g_pr A p) := by
  obtain ⟨a, b, c⟩ := g_pu_I h hp
  unfold g_pr
  by_cases d : g_pn A p = 0
  · rw [if_pos d]; exact ⟨a, b⟩
  · rw [if_neg d]
    have := g_PI_eq a (g_pt_f (p := p)).1 (fun s => (g_pt_f (p := p)).2 s 0) (fun s => (g_pt_f (p := p)).2 s 1)
    exact ⟨this.1, g_ls_tr b this.2⟩
theorem m_prunes {h : q_H} {A : g_A} (hI : g_PI A) {p : Nat} (hp : p < 6) : Mo_prunes (nI p) (g_ma h 31 A) = some (nI (g_pn A p), g_ma h 31 (g_pr A p)) := by
  obtain ⟨wt, wq, wl, wv, wc, wL, wT, wE, wF⟩ := id hI
  have h10 := (wl p hp).2
  have hz := g_hz_lt wt
  unfold Mo_prunes
  rw [m_horizon wt]
  simp only [Option.bind_some, m_b1 hp, m_b2 wl hp, m_b4, nI_add, cond_true]
  refine g_bd (g_lp (fun i => (nI (g_p1 A (g_hz A) p i).1, nI (10 * p + i), g_ma h 31 (g_p1 A (g_hz A) p i).2)) (nI (g_p1 A (g_hz A) p (g_ln A p)).1, g_ma h 31 (g_p1 A (g_hz A) p (g_ln A p)).2) (g_ln A p) (fun i hi => ?_) ?_ q_fu (by unfold q_fu; omega)) ?_
  · obtain ⟨a, b, c⟩ := g_p1_I hI (z := g_hz A) hp i (by omega)
    have hi' : g_iv (g_p1 A (g_hz A) p i).2 (10 * p + i) = true := by rw [g_fk_iv b.1 (by omega), g_iv_pj (by omega)]; exact decide_eq_true hi
    have es : g_p1 A (g_hz A) p (i + 1) = g_p1f (g_hz A) (10 * p + i) (g_p1 A (g_hz A) p i) := rfl
    obtain ⟨hwh, hwtu⟩ := g_PI_wh a (s := 10 * p + i) (by omega) hi'
    have hcut := m_cuts (h := h) (A := (g_p1 A (g_hz A) p i).2) (z := g_hz A) (s := 10 * p + i) (by omega) hz a.2.2.1 a.1 a.2.2.2.1 a.2.2.2.2.1 hwh hwtu
    dsimp only
    rw [if_neg (nI_ge (by omega) (by omega)), m_of0 (by omega), es]
    simp only [Option.bind_some]
    unfold g_p1f
    by_cases k2 : (g_p1 A (g_hz A) p i).2 1 (10 * p + i) 0 = 2
    · rw [if_pos k2, if_pos (Or.inl k2), hcut, nI_1]
      simp only [Option.bind_some]
      rw [nI_add]; rfl
    · rw [if_neg k2, m_isFull (by omega)]
      simp only [Option.bind_some]
      by_cases k1 : (g_p1 A (g_hz A) p i).2 1 (10 * p + i) 0 = 1
      · rw [decide_eq_true k1, if_neg (by decide), m_of10 (by omega)]
        simp only [Option.bind_some]
        by_cases k10 : (g_p1 A (g_hz A) p i).2 1 (10 * p + i) 10 = 0
        · rw [if_neg (fun q => q k10), if_pos (Or.inr ⟨k1, k10⟩), hcut, nI_1]
          simp only [Option.bind_some]
          rw [nI_add]; rfl
        · rw [if_pos k10, if_neg (fun q => by rcases q with q | q; exact k2 q; exact k10 q.2), nI_1]; rfl
      · rw [decide_eq_false k1, if_pos (by rfl), if_neg (fun q => by rcases q with q | q; exact k2 q; exact k1 q.1), nI_1]; rfl
  · dsimp only
    rw [if_pos (Int32.le_refl _)]
  · dsimp only
    obtain ⟨a1, b1, c1⟩ := g_p1_I hI (z := g_hz A) hp (g_ln A p) (Nat.le_refl _)
    refine g_bd (g_lp (fun i => (nI (g_p2 (g_p1 A (g_hz A) p (g_ln A p)) p i).1, nI (10 * p + i), g_ma h 31 (g_p2 (g_p1 A (g_hz A) p (g_ln A p)) p i).2)) (nI (g_pu A p).1, g_ma h 31 (g_pu A p).2) (g_ln A p) (fun i hi => ?_) ?_ q_fu (by unfold q_fu; omega)) ?_
    · obtain ⟨a, b, c⟩ := g_p2_I hp h10 a1 b1 rfl i (by omega)
      have hi' : g_iv (g_p2 (g_p1 A (g_hz A) p (g_ln A p)) p i).2 (10 * p + i) = true := by rw [g_fk_iv b.1 (by omega), g_iv_pj (by omega)]; exact decide_eq_true hi
      have es : g_p2 (g_p1 A (g_hz A) p (g_ln A p)) p (i + 1) = g_p2f (10 * p + i) (g_p2 (g_p1 A (g_hz A) p (g_ln A p)) p i) := rfl
      rw [es]
      dsimp only
      generalize g_p2 (g_p1 A (g_hz A) p (g_ln A p)) p i = y at a b c hi' ⊢
      rw [if_neg (nI_ge (by omega) (by omega)), m_isFull (by omega)]
      simp only [Option.bind_some]
      unfold g_p2f
      by_cases k1 : y.2 1 (10 * p + i) 0 = 1
      · have hw := a.2.2.2.1 (10 * p + i) (by omega) (g_fu_i hi' k1)
        rw [decide_eq_true k1, if_neg (by decide), m_of10 (by omega)]
        simp only [Option.bind_some]
        by_cases k10 : y.2 1 (10 * p + i) 10 = 0
        · rw [if_pos k10, if_neg (fun q => q.2.1 k10), nI_1]; rfl
        · rw [if_neg k10, m_of11 (by omega)]
          simp only [Option.bind_some]
          by_cases k11 : y.2 1 (10 * p + i) 11 = 1
          · rw [if_pos k11, if_neg (fun q => q.2.2.1 k11), nI_1]; rfl
          · rw [if_neg k11, m_of6 (by omega)]
            simp only [Option.bind_some]
            have m2 := hw.2.1.2
            have m61 := a.1.2.2
            rw [hw.1, m_stateOf (by omega)]
            simp only [Option.bind_some]
            by_cases k3 : y.2 3 (g_mk y.2 (10 * p + i)) 0 = 2
            · rw [if_pos k3, m_goes (by omega), if_pos ⟨k1, k10, k11, k3⟩, nI_1, nI_1]; rfl
            · rw [if_neg k3, if_neg (fun q => k3 q.2.2.2), nI_1]; rfl
      · rw [decide_eq_false k1, if_pos (by rfl), if_neg (fun q => k1 q.1), nI_1]; rfl
    · dsimp only
      rw [if_pos (Int32.le_refl _)]; rfl
    · dsimp only
      obtain ⟨a, b, c⟩ := g_pu_I hI hp
      unfold g_pr
      have e : (g_pu A p).1 = g_pn A p := rfl
      by_cases d : g_pn A p = 0
      · rw [if_pos d, e, d, if_neg (fun q => q (by rfl))]; rfl
      · rw [if_neg d, if_pos (nI_ne0 (by omega) (by omega)), m_g (by omega), g_w0 (by omega), m_g (by omega), g_w0 (by omega), m_tells]
        rfl
