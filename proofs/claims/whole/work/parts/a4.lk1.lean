/-! a look at one entry -/
def g_lct (A : g_A) (i : Nat) : g_A := g_au A 0 16 0 (A 0 16 0 + q_bi (!decide (A 0 (23 + g_ep A i / 10) 0 = 1)))
theorem g_lct_o {A : g_A} {i g j w : Nat} (h : ¬ (g = 0 ∧ j = 16 ∧ w = 0)) : g_lct A i g j w = A g j w := g_au_ne h
theorem g_lct_fq {A : g_A} {i : Nat} : g_fq A (g_lct A i) := ⟨fun _ _ => g_lct_o (by omega), fun _ _ => g_lct_o (by omega), fun _ _ => g_lct_o (by omega), fun j hj => g_lct_o (by omega)⟩
theorem g_lct_W {A : g_A} {i : Nat} (hW : g_W A) : g_W (g_lct A i) := by
  have wd := hW.2.2.2.2.2.2.1
  obtain ⟨a, b⟩ := fq_e (g_lct_fq (A := A) (i := i)) (fun j w hw => g_lct_o (by omega)) (fun j hj => by rw [g_lct_o (by omega)]; exact (hW.2.1.1.2.2 j hj).2) (g_lct_o (by omega)) hW.2.1.1 hW.2.1.2.1
  have hn : g_nf (g_lct A i) = g_nf A := by unfold g_nf; rw [g_lct_o (by omega)]
  refine fq_W g_lct_fq hW a b ?_ ⟨by rw [hn, g_lct_o (by omega)]; exact wd.1, by rw [hn]; exact wd.2.1, fun j hj => ?_⟩
  · unfold g_wg g_nv
    rw [g_lct_o (by omega)]; exact hW.2.2.1
  · rw [hn] at hj
    rw [g_lct_o (by omega), g_lct_o (by omega)]
    exact wd.2.2 j hj
theorem g_lct_R {b i : Nat} {A : g_A} {S : g_S} (hW : g_W A) (hR : g_R b S A) : g_R b (g_su S 18 0 7 (S.1 18 0 7 + q_bi (!decide (A 0 (23 + g_ep A i / 10) 0 = 1)))) (g_lct A i) := by
  have l1 := r_l_count (j := 7) (v := q_bi (!decide (A 0 (23 + g_ep A i / 10) 0 = 1))) hR.2.2.2.2.2.2.1 (by omega)
  exact fq_R g_lct_fq (fun j hj => g_lct_o (by omega)) (fun t f j h => g_su_t (by omega)) rfl (r_i_eq hR.2.2.2.2.2.1 (fun t f j a c => g_su_t (by omega)) (g_lct_o (by omega)) (fun j w => g_lct_o (by omega))) l1 (r_f_eq hR.2.2.2.2.2.2.2.1 (fun t f j a c => g_su_t (by omega)) (g_lct_o (by omega)) (fun j w => g_lct_o (by omega))) hR
/-- where an entry's chain begins, it is full -/
theorem g_ch_fu {A : g_A} {i : Nat} (hW : g_W A) (hi : i < g_ne A) : (g_ch A (g_ep A i) < 60 → g_fu A (g_ch A (g_ep A i)) = true) ∧ (A 1 (g_ep A i) 0 = 2 → ∃ x, x < 10 ∧ A 1 (g_ep A i) 1 = nI x) := by
  obtain ⟨w1, w2⟩ := hW.2.1.2.1 i hi
  have e60 := (g_ep_lt hW.2.1.1 hi).1
  have wT := hW.1.2.2.2.2.2.2.1
  refine ⟨fun q => ?_, fun k => (wT _ e60 w1 k).1⟩
  rcases w2 with w2 | w2 | w2
  · rw [g_ch_1 w2.1]; exact g_fu_i w1 w2.1
  · exact (wT _ e60 w1 w2).2.1
  · exfalso
    unfold g_ch at q
    rw [w2, if_neg (by decide), if_neg (by decide)] at q
    omega
/-- the cells after a look at one entry -/
def g_lat (t : Nat) (key : Int32) (i : Nat) (A : g_A) : g_A := bif (g_wk (g_hz (g_lct A i)) t key (g_lct A i) (g_ch (g_lct A i) (g_ep A i)) 10).1 then (g_wk (g_hz (g_lct A i)) t key (g_lct A i) (g_ch (g_lct A i) (g_ep A i)) 10).2.2.2 else g_kil (g_wk (g_hz (g_lct A i)) t key (g_lct A i) (g_ch (g_lct A i) (g_ep A i)) 10).2.2.2 i key
theorem c_goThrough {b : Nat} {H : q_H} {k t i : Nat} {key : Int32} {A : g_A} (hW : g_W A) (hR : g_R b (g_st H k) A) (hn : g_nf A < 60) (hi : i < g_ne A) (ht : g_tn A t) (hJ : g_wJ A (g_ch A (g_ep A i)) 10 (g_wk (g_hz A) t key A (g_ch A (g_ep A i)) 10)) : ∃ S', St_goThrough k (nI t) key (nI i) H = some (g_cw H k S') ∧ g_R b S' (bif (g_wk (g_hz A) t key A (g_ch A (g_ep A i)) 10).1 then (g_wk (g_hz A) t key A (g_ch A (g_ep A i)) 10).2.2.2 else g_kil (g_wk (g_hz A) t key A (g_ch A (g_ep A i)) 10).2.2.2 i key) := by
  obtain ⟨w1, w2⟩ := hW.2.1.2.1 i hi
  have e60 := (g_ep_lt hW.2.1.1 hi).1
  obtain ⟨hf, hT⟩ := g_ch_fu hW hi
  obtain ⟨S1, e1, r1⟩ := c_walk (t := t) (key := key) hW hR hn hf ht
  unfold St_goThrough
  rw [c_placeAt hR.2.2.2.2.2.1 hW.2.1.1 hi]
  simp only [Option.bind_some]
  rw [c_chainFirst e60 (r_ps hR.2.2.2.1 e60) w1 hT]
  simp only [Option.bind_some]
  rw [e1]
  simp only [Option.bind_some]
  cases c : (g_wk (g_hz A) t key A (g_ch A (g_ep A i)) 10).1 with
  | true =>
    rw [if_pos (show ¬ q_bi true = 0 by decide)]
    exact ⟨S1, rfl, r1⟩
  | false =>
    rw [if_neg (show ¬ ¬ q_bi false = 0 by decide)]
    obtain ⟨S2, e2, r2⟩ := c_kil (H := g_cw H k S1) (k := k) (i := i) (key := key) hJ.2.1 (by rw [g_st_cw]; exact r1) (by unfold g_ne; rw [hJ.2.2.2.2.2.2]; exact hi)
    rw [g_cw_cw] at e2
    exact ⟨S2, e2, r2⟩
