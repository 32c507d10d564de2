/-! a store's whole picture; pruning keeps it -/
def r_g (S : g_S) (A : g_A) : Prop := S.1 1 4 0 = A 0 0 0 ∧ S.1 0 5 0 = A 0 1 0 ∧ S.1 0 6 0 = A 0 2 0 ∧ S.1 0 7 0 = A 0 3 0
def r_f (S : g_S) (A : g_A) : Prop := S.1 19 4 0 = A 0 7 0 ∧ ∀ i, i < g_nf A → S.1 20 0 i = A 5 i 0 ∧ S.1 21 0 i = A 5 i 1 ∧ S.1 22 0 i = nI (10 * (A 5 i 2).toNatClampNeg + (A 5 i 3).toNatClampNeg) ∧ S.1 23 0 i = A 5 i 4
def g_R (b : Nat) (S : g_S) (A : g_A) : Prop := r_g S A ∧ r_t S A ∧ r_h S A ∧ (∀ p, p < 6 → r_p S A p) ∧ r_n S ∧ r_i S A ∧ r_l S A ∧ r_f S A ∧ r_m b S A
theorem g_wg_cu {A : g_A} {z s : Nat} (h : g_wg A) : g_wg (g_cu A z s) := by
  by_cases hn : g_cc A z s = 0
  · have e1 : g_cu A z s = A := if_pos hn
    rw [e1]; exact h
  · have e1 : g_cu A z s = _ := if_neg hn
    rw [e1]
    have rm : ∀ n, g_wg (g_rmv A (g_ch A s) n) := by
      intro n
      induction n with
      | zero => exact h
      | succ n ih =>
        rw [g_rmv_s]
        have e : g_goes (g_rmv A (g_ch A s) n) (g_ci A (g_ch A s) n) 0 6 0 = g_rmv A (g_ch A s) n 0 6 0 := g_goes_l (by omega) (by omega)
        unfold g_wg g_nv
        rw [e]; exact ih
    exact (g_tell_nv (A := g_au (g_au (g_rmv A (g_ch A s) (g_cc A z s)) 1 s 0 _) 1 s 1 _) (rm (g_cc A z s))).1
theorem g_wg_pr {A : g_A} (h : g_wg A) {p : Nat} : g_wg (g_pr A p) := by
  have l1 : ∀ i, g_wg (g_p1 A (g_hz A) p i).2 := by
    intro i
    induction i with
    | zero => exact h
    | succ i ih =>
      show g_wg (g_p1f (g_hz A) (10 * p + i) (g_p1 A (g_hz A) p i)).2
      unfold g_p1f
      split
      · exact g_wg_cu ih
      · exact ih
  have l2 : ∀ i, g_wg (g_p2 (g_p1 A (g_hz A) p (g_ln A p)) p i).2 := by
    intro i
    induction i with
    | zero => exact l1 _
    | succ i ih =>
      show g_wg (g_p2f (10 * p + i) (g_p2 (g_p1 A (g_hz A) p (g_ln A p)) p i)).2
      unfold g_p2f
      split
      · have e : g_goes (g_p2 (g_p1 A (g_hz A) p (g_ln A p)) p i).2 (10 * p + i) 0 6 0 = (g_p2 (g_p1 A (g_hz A) p (g_ln A p)) p i).2 0 6 0 := g_goes_l (by omega) (by omega)
        unfold g_wg g_nv
        dsimp only
        rw [e]; exact ih
      · exact ih
  have h2 : g_wg (g_pu A p).2 := l2 _
  unfold g_pr
  split
  · exact h2
  · exact (g_tell_nv (A := g_au (g_au (g_pu A p).2 0 9 0 _) 0 10 0 _) h2).1
theorem g_W_pr {A : g_A} (h : g_W A) {p : Nat} (hp : p < 6) : g_W (g_pr A p) ∧ g_ls A (g_pr A p) := by
  obtain ⟨hI, hX, wg, ww, wr, wb, wd, wI⟩ := h
  obtain ⟨a, b⟩ := g_pr_I hI hp
  exact ⟨⟨a, g_PX_pr hI hX hp, g_wg_pr wg, g_fk_ww b.1 ww, g_ls_r b wr, g_fk_wb b.1 wb, g_fk_wd b.1 wd, g_ls_I b wI⟩, b⟩
theorem c_prunePageR {b : Nat} {H : q_H} {k p : Nat} {A : g_A} (hW : g_W A) (hR : g_R b (g_st H k) A) (hp : p < 6) :
    ∃ S', St_prunePage k (nI p) H = some (nI (g_pn A p), g_cw H k S') ∧ g_R b S' (g_pr A p) := by
  obtain ⟨hI, hX, wg, ww, wr, wb, wd, wI⟩ := id hW
  obtain ⟨rg, rt, rh, rp, rn, ri, rl, rf, rm⟩ := hR
  obtain ⟨S', e, c1, c2, c3, c4, c5, c6, c7⟩ := c_prunePage hI hp rt (rp p hp).2.2 rh
  obtain ⟨a, ls⟩ := g_pr_I hI hp
  have hpc := g_pc_pr hI hp
  have hfk := ls.1
  have hS : ∀ t f i, t ≠ 3 → t ≠ 5 → t ≠ 15 → t ≠ 16 → t ≠ 17 → t ≠ 18 → S'.1 t f i = (g_st H k).1 t f i := c2.1
  refine ⟨S', e, ⟨?_, ?_, ?_, ?_⟩, r_t_fk rt c2 hfk, ?_, fun q hq => ⟨?_, ?_, fun j hj => ?_⟩, ?_, ⟨?_, fun i hi => ?_⟩, (c7 ⟨rl, wg⟩).1, ⟨?_, fun i hi => ?_⟩, ?_⟩
  · rw [hS 1 4 0 (by omega) (by omega) (by omega) (by omega) (by omega) (by omega), g_fk_0 hfk (by omega)]; exact rg.1
  · rw [hS 0 5 0 (by omega) (by omega) (by omega) (by omega) (by omega) (by omega), g_fk_0 hfk (by omega)]; exact rg.2.1
  · rw [hS 0 6 0 (by omega) (by omega) (by omega) (by omega) (by omega) (by omega), g_fk_0 hfk (by omega)]; exact rg.2.2.1
  · rw [hS 0 7 0 (by omega) (by omega) (by omega) (by omega) (by omega) (by omega), g_fk_0 hfk (by omega)]; exact rg.2.2.2
  · unfold r_h
    rw [hS 6 5 0 (by omega) (by omega) (by omega) (by omega) (by omega) (by omega), g_fk_hz hfk]; exact rh
  · rw [hS 4 0 q (by omega) (by omega) (by omega) (by omega) (by omega) (by omega), g_fk_0 hfk (by omega)]; exact (rp q hq).1
  · by_cases d : q = p
    · subst d; exact c5 (rp q hq).2.1
    · rw [c4 q d, hpc.1 q hq d]; exact (rp q hq).2.1
  · by_cases d : q = p
    · subst d; exact c1 j hj
    · have hx : (10 * q + j) / 10 ≠ p := by omega
      exact r_s_eq ((rp q hq).2.2 j hj) (fun f => c3 f _ hx) (g_fk_iv hfk (by omega)) (fun w => hpc.2.2 _ w hx)
  · unfold r_n
    have hx : 60 / 10 ≠ p := by omega
    simp only [c3 _ 60 hx]
    exact rn
  · rw [hS 11 3 0 (by omega) (by omega) (by omega) (by omega) (by omega) (by omega), g_fk_0 hfk (by omega)]; exact ri.1
  · rw [g_fk_ne hfk] at hi
    rw [hS 12 0 i (by omega) (by omega) (by omega) (by omega) (by omega) (by omega), hS 13 0 i (by omega) (by omega) (by omega) (by omega) (by omega) (by omega), hS 14 0 i (by omega) (by omega) (by omega) (by omega) (by omega) (by omega), g_fk_2 hfk, g_fk_2 hfk, g_fk_ep hfk]
    exact ri.2 i hi
  · rw [hS 19 4 0 (by omega) (by omega) (by omega) (by omega) (by omega) (by omega), g_fk_0 hfk (by omega)]; exact rf.1
  · rw [g_fk_nf hfk] at hi
    rw [hS 20 0 i (by omega) (by omega) (by omega) (by omega) (by omega) (by omega), hS 21 0 i (by omega) (by omega) (by omega) (by omega) (by omega) (by omega), hS 22 0 i (by omega) (by omega) (by omega) (by omega) (by omega) (by omega), hS 23 0 i (by omega) (by omega) (by omega) (by omega) (by omega) (by omega), g_fk_5 hfk, g_fk_5 hfk, g_fk_5 hfk, g_fk_5 hfk, g_fk_5 hfk]
    exact rf.2 i hi
  · obtain ⟨⟨x, y, h1, h2, h3, h4, h5⟩, h6⟩ := rm
    have ecm : ∀ s, s < 60 → g_fu (g_pr A p) s = true → g_cm S' s = g_cm (g_st H k) s := fun s hs f => by unfold g_cm; rw [c6 s hs f]
    refine ⟨⟨x, y, ?_, ?_, h3, h4, fun s hs f => ?_⟩, fun s s' hs hs' f f' => ?_⟩
    · rw [hS 0 8 0 (by omega) (by omega) (by omega) (by omega) (by omega) (by omega)]; exact h1
    · rw [g_fk_0 hfk (by omega)]; exact h2
    · rw [ecm s hs f, g_fk_mm hfk, c6 s hs f, g_fk_1 hfk (by omega)]
      exact h5 s hs (ls.2 s hs f)
    · rw [ecm s hs f, ecm s' hs' f', g_fk_mm hfk, g_fk_mm hfk]
      exact h6 s s' hs hs' (ls.2 s hs f) (ls.2 s' hs' f')
