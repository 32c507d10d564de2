/-! after the passes: both sides alike -/
theorem g_pv_f {A B : g_A} {b q : Nat} {L : List Nat} (h : g_lo4 B (g_pd A L b q)) : g_ft A B ∧ (∀ t i, B 6 t i = A 6 t i) ∧ (∀ t i, B 5 t i = A 5 t i) ∧ ∀ i, i ≤ 4 ∨ i = 7 ∨ i = 8 ∨ 17 ≤ i → B 0 i 0 = A 0 i 0 := by
  refine ⟨⟨fun t i => ?_, ?_⟩, fun t i => ?_, fun t i => ?_, fun i hi => ?_⟩
  · rw [h _ _ _ (by omega) (by omega) (by omega), g_pd_o (by omega) (by omega)]
  · rw [h _ _ _ (by omega) (by omega) (by omega), g_pd_o (by omega) (by omega)]
  · rw [h _ _ _ (by omega) (by omega) (by omega), g_pd_o (by omega) (by omega)]
  · rw [h _ _ _ (by omega) (by omega) (by omega), g_pd_o (by omega) (by omega)]
  · rw [h _ _ _ (by omega) (by omega) (by omega), g_pd_o (by omega) (by omega)]
theorem g_k_ep {A B : g_A} {K : List Nat} (h : g_k B A K) {j : Nat} (hj : j < K.length) : g_ep B j = g_ep A K[j] := by
  unfold g_ep
  rw [h.2 j hj 1 (by omega), h.2 j hj 2 (by omega)]
theorem g_k_ne {A B : g_A} {K : List Nat} (h : g_k B A K) (h60 : K.length ≤ 60) : g_ne B = K.length := by
  unfold g_ne
  rw [h.1, g_cl (by omega)]
theorem g_k_wi {A B : g_A} {K : List Nat} (h : g_k B A K) (h60 : K.length ≤ 60) (hw : g_wi A) (hK : ∀ i, i ∈ K → i < g_ne A) : g_wi B := by
  refine ⟨by rw [g_k_ne h h60]; exact h.1, by rw [g_k_ne h h60]; exact h60, fun i hi => ?_⟩
  rw [g_k_ne h h60] at hi
  rw [h.2 i hi 1 (by omega), h.2 i hi 2 (by omega), h.2 i hi 3 (by omega)]
  exact hw.2.2 _ (hK _ (List.getElem_mem hi))
theorem g_pv_W {A B : g_A} {b q : Nat} (hW : g_W A) (h : g_pv A b q (g_sL A 60) B) (hq : (g_sL A 60).length ≤ q * b) (wg : g_wg (g_pd A (g_sL A 60) b q)) : g_fv A B ∧ g_W B := by
  obtain ⟨hk, h1, h4⟩ := h
  obtain ⟨ft, f6, f5, f0⟩ := g_pv_f h4
  rw [List.take_of_length_le hq] at hk h1
  obtain ⟨hI, hX, _, _, _, _, wd, _⟩ := id hW
  obtain ⟨wt, wq, wl, wv, wc, wL, wT, wE, wF⟩ := hI
  obtain ⟨wi, we, wO⟩ := hX
  have hln : ∀ p, p < 6 → g_ln B p = g_ln A p := fun p hp => by unfold g_ln; rw [f0 (17 + p) (by omega)]
  have hiv : ∀ s, s < 60 → g_iv B s = g_iv A s := fun s hs => by unfold g_iv; rw [hln _ (by omega)]
  have hin : ∀ s, s ∈ g_sL A 60 → A 1 s 0 = 3 ∧ g_iv A s = true := fun s hs => by
    have := (g_sL_m.mp hs).2
    unfold g_sb at this
    simp only [Bool.and_eq_true, decide_eq_true_iff] at this
    exact ⟨this.2, this.1⟩
  have hfv : g_fv A B := by
    refine ⟨ft, f6, fun i hi => f0 i (by omega), fun p hp => ?_, fun s hs => ?_, fun s hs f => ⟨fun w hw _ => ?_, ?_, fun e => ?_⟩, fun s hs i e => ?_⟩
    · rw [hln p hp, f0 (17 + p) (by omega)]; exact wl p hp
    · unfold g_fu
      rw [hiv s hs, h1]
      by_cases c : s ∈ g_sL A 60
      · rw [if_pos ⟨rfl, c⟩, (hin s c).1]; rfl
      · rw [if_neg (fun y => c y.2)]
    · rw [h1, if_neg (by omega)]
    · rw [h1, if_neg (by omega)]; exact (wv s hs f).2.2.2.2.2
    · rw [h1, if_neg (by omega)] at e; exact wF s hs f e
    · rw [hiv s hs] at i
      rw [h1] at e
      by_cases c : s ∈ g_sL A 60
      · rw [if_pos ⟨rfl, c⟩] at e; exact absurd e (by decide)
      · rw [if_neg (fun y => c y.2)] at e
        refine ⟨i, e, ?_⟩
        rw [h1, if_neg (by omega)]
  have h60 : (g_kp A (g_iX (g_sL A 60))).length ≤ 60 := Nat.le_trans g_kp_le wi.2.1
  refine ⟨hfv, fv_W hfv hW (g_k_wi hk h60 wi (fun i hi => g_kp_lt hi)) (fun i hi => ?_) ?_ ?_⟩
  · rw [g_k_ne hk h60] at hi
    rw [g_k_ep hk hi]
    have hmem := List.getElem_mem hi
    generalize (g_kp A (g_iX (g_sL A 60)))[i] = y at hmem
    have hy := g_kp_lt hmem
    obtain ⟨w1, w2⟩ := we y hy
    have e60 := (g_ep_lt wi hy).1
    have hns : g_ep A y ∉ g_sL A 60 := by
      unfold g_kp at hmem
      have := (List.mem_filter.mp hmem).2
      unfold g_iX at this
      simp only [Bool.not_eq_true', decide_eq_false_iff_not] at this
      exact this
    have e0 : B 1 (g_ep A y) 0 = A 1 (g_ep A y) 0 := by rw [h1, if_neg (fun q => hns q.2)]
    have e10 : B 1 (g_ep A y) 10 = A 1 (g_ep A y) 10 := by rw [h1, if_neg (by omega)]
    rw [hiv _ e60, e0, e10]
    exact ⟨w1, w2⟩
  · unfold g_wg g_nv
    rw [h4 0 6 0 (by omega) (by omega) (by omega)]; exact wg
  · have hn : g_nf B = g_nf A := by unfold g_nf; rw [f0 7 (by omega)]
    refine ⟨by rw [hn, f0 7 (by omega)]; exact wd.1, by rw [hn]; exact wd.2.1, fun i hi => ?_⟩
    rw [hn] at hi
    rw [f5, f5]
    exact wd.2.2 i hi
theorem g_pv_R {A B : g_A} {S S' : g_S} {bb b q : Nat} (hW : g_W A) (hR : g_R bb S A) (h : g_pv A b q (g_sL A 60) B) (hq : (g_sL A 60).length ≤ q * b)
    (ck : r_k S' A (g_kp A (g_iX (g_sL A 60)))) (cl : r_l S' (g_pd A (g_sL A 60) b q) ∧ g_wg (g_pd A (g_sL A 60) b q)) (c3 : ∀ f s, S'.1 3 f s = if s ∈ g_sL A 60 then (g_emp S s 0).1 3 f s else S.1 3 f s) (co : ∀ t f i, t ≠ 3 → (t < 11 ∨ 18 < t) → S'.1 t f i = S.1 t f i) (c2 : S'.2 = S.2) : g_R bb S' B := by
  obtain ⟨fv, wB⟩ := g_pv_W hW h hq cl.2
  obtain ⟨hk, h1, h4⟩ := h
  obtain ⟨ft, f6, f5, f0⟩ := g_pv_f h4
  rw [List.take_of_length_le hq] at hk h1
  obtain ⟨rg, rt, rh, rp, rn, ri, rl, rf, rm⟩ := hR
  have h60 : (g_kp A (g_iX (g_sL A 60))).length ≤ 60 := Nat.le_trans g_kp_le hW.2.1.1.2.1
  have hiv : ∀ s, s < 60 → g_iv B s = g_iv A s := fun s hs => by unfold g_iv g_ln; rw [f0 (17 + s / 10) (by omega)]
  refine ⟨⟨?_, ?_, ?_, ?_⟩, r_t_ft rt (fun t f i a c => co t f i (by omega) (by omega)) c2 ft (fun t => f6 t 0), ?_, fun p hp => ⟨?_, ?_, fun j hj => ?_⟩, ?_, ⟨?_, fun i hi => ?_⟩, ?_, r_f_eq rf (fun t f i a c => co t f i (by omega) (by omega)) (f0 7 (by omega)) f5, ?_⟩
  · rw [co _ _ _ (by omega) (by omega), f0 _ (by omega)]; exact rg.1
  · rw [co _ _ _ (by omega) (by omega), f0 _ (by omega)]; exact rg.2.1
  · rw [co _ _ _ (by omega) (by omega), f0 _ (by omega)]; exact rg.2.2.1
  · rw [co _ _ _ (by omega) (by omega), f0 _ (by omega)]; exact rg.2.2.2
  · unfold r_h
    rw [co _ _ _ (by omega) (by omega), g_ft_hz ft]; exact rh
  · rw [co _ _ _ (by omega) (by omega), f0 _ (by omega)]; exact (rp p hp).1
  · rw [co _ _ _ (by omega) (by omega), f0 _ (by omega)]; exact (rp p hp).2.1
  · have hs : 10 * p + j < 60 := by omega
    by_cases c : 10 * p + j ∈ g_sL A 60
    · have hsb := (g_sL_m.mp c).2
      unfold g_sb at hsb
      simp only [Bool.and_eq_true, decide_eq_true_iff] at hsb
      have key := r_s_emp (S := S) (B := B) (s := 10 * p + j) (v := 0) (by rw [hiv _ hs]; exact hsb.1) (by rw [h1, if_pos ⟨rfl, c⟩]) (by decide) (by decide)
      refine r_s_eq key (fun f => ?_) rfl (fun _ => rfl)
      rw [c3, if_pos c]
    · refine r_s_eq ((rp p hp).2.2 j hj) (fun f => ?_) (hiv _ hs) (fun w => ?_)
      · rw [c3, if_neg c]
      · rw [h1, if_neg (fun y => c y.2)]
  · have h60n : (60 : Nat) ∉ g_sL A 60 := fun q => absurd (g_sL_m.mp q).1 (Nat.lt_irrefl _)
    have e : ∀ f, S'.1 3 f 60 = S.1 3 f 60 := fun f => by rw [c3, if_neg h60n]
    unfold r_n
    simp only [e]
    exact rn
  · rw [ck.1, hk.1]
  · rw [g_k_ne hk h60] at hi
    rw [g_k_ep hk hi, hk.2 i hi 0 (by omega), hk.2 i hi 3 (by omega)]
    exact ck.2 i hi
  · exact (r_l_eq cl (fun _ _ _ _ => rfl) (h4 _ _ _ (by omega) (by omega) (by omega)) (fun i w => h4 _ _ _ (by omega) (by omega) (by omega)) (fun j hj => h4 _ _ _ (by omega) (by omega) (by omega))).1
  · refine fv_m fv (f0 8 (by omega)) (co _ _ _ (by omega) (by omega)) (fun s hs f => ?_) rm
    have hns : s ∉ g_sL A 60 := fun q => by
      have := (g_sL_m.mp q).2
      unfold g_sb at this
      simp only [Bool.and_eq_true, decide_eq_true_iff] at this
      rw [(g_fu_iv f).2] at this
      exact absurd this.2 (by decide)
    rw [c3, if_neg hns]
