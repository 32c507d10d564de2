/-! a look at one entry: the reference -/
theorem m_looksAt {h : q_H} {t i : Nat} {key : Int32} {A : g_A} (hW : g_W A) (hn : g_nf A < 60) (hi : i < g_ne A) (ht : g_tn A t) : Mo_looksAt (nI t) key (nI i) (nI (g_hz A)) (g_ma h 31 A) = some (g_ma h 31 (g_lat t key i A)) ∧ g_wJ (g_lct A i) (g_ch (g_lct A i) (g_ep A i)) 10 (g_wk (g_hz (g_lct A i)) t key (g_lct A i) (g_ch (g_lct A i) (g_ep A i)) 10) := by
  have e60 := (g_ep_lt hW.2.1.1 hi).1
  have hi60 : i < 60 := by have := hW.2.1.1.2.1; omega
  have hWl := g_lct_W (i := i) hW
  have eep : g_ep (g_lct A i) i = g_ep A i := by unfold g_ep; rw [g_lct_o (by omega), g_lct_o (by omega)]
  have ene : g_ne (g_lct A i) = g_ne A := by unfold g_ne; rw [g_lct_o (by omega)]
  have hn' : g_nf (g_lct A i) < 60 := by unfold g_nf; rw [g_lct_o (by omega)]; exact hn
  obtain ⟨hf, hT⟩ := g_ch_fu (A := g_lct A i) hWl (by rw [ene]; exact hi)
  rw [eep] at hf hT
  have ehz : g_hz (g_lct A i) = g_hz A := g_ft_hz (fq_ft g_lct_fq)
  obtain ⟨ew, hJ⟩ := m_walk (h := h) (t := t) (key := key) (A := g_lct A i) hWl hn' hf ((g_ft_tn (fq_ft g_lct_fq)).mpr ht)
  refine ⟨?_, hJ⟩
  unfold Mo_looksAt
  rw [m_leadsTo hW.2.1.1 hi]
  simp only [Option.bind_some]
  rw [show (10 : Int32) = nI 10 from rfl, pk_div (by omega) (by omega) (by omega), show (23 : Int32) = nI 23 from rfl, nI_add, g_inN (show 23 + g_ep A i / 10 < 1644 by omega) (by decide), cond_true, g_cl (show 23 + g_ep A i / 10 < 2 ^ 31 by omega), m_g (by omega), m_g (by omega)]
  have e8 : (if ¬ A 0 (23 + g_ep A i / 10) 0 = (1 : Int32) then (some ((1 : Int32))) else (some ((0 : Int32)))) = some (q_bi (!decide (A 0 (23 + g_ep A i / 10) 0 = 1))) := by
    by_cases c : A 0 (23 + g_ep A i / 10) 0 = 1
    · rw [if_neg (fun y => y c), decide_eq_true c]; rfl
    · rw [if_pos c, decide_eq_false c]; rfl
  rw [e8]
  simp only [Option.bind_some]
  rw [g_w0 (by omega)]
  have el : g_au A 0 16 0 (A 0 16 0 + q_bi (!decide (A 0 (23 + g_ep A i / 10) 0 = 1))) = g_lct A i := rfl
  rw [el, m_chainOf e60 hT]
  simp only [Option.bind_some]
  rw [ehz] at ew
  rw [ew]
  simp only [Option.bind_some]
  unfold g_lat
  rw [ehz]
  cases c : (g_wk (g_hz A) t key (g_lct A i) (g_ch (g_lct A i) (g_ep A i)) 10).1 with
  | true =>
    rw [if_neg (show ¬ ¬ q_bi (!true) = 0 by decide)]; rfl
  | false =>
    rw [if_pos (show ¬ q_bi (!false) = 0 by decide), mx3 hi60]
    simp only [cond_true, Option.bind_some]
    rw [m_kil hi60]; rfl
