/-! begin, in the component -/
def g_cb (A : g_A) (n j : Nat) : Int64 := match j with | 0 => 0 | j + 1 => if g_op A (n - 1 - j) = true then g_cb A n j ||| ((1 : Int64) <<< ((nI (n - 1 - j)).toInt64 &&& 63)) else g_cb A n j
theorem g_cb_b {A : g_A} {n o : Nat} (hn : n ≤ 61) (ho : o < 64) : ∀ j, j < n → g_bt (g_cb A n j) o = (decide (n - j ≤ o ∧ o < n) && g_op A o) := by
  intro j
  induction j with
  | zero =>
    intro _
    rw [decide_eq_false (by omega)]
    show g_bt 0 o = false
    unfold g_bt
    simp
  | succ j ih =>
    intro hj
    have ih := ih (by omega)
    show g_bt (if g_op A (n - 1 - j) = true then g_cb A n j ||| ((1 : Int64) <<< ((nI (n - 1 - j)).toInt64 &&& 63)) else g_cb A n j) o = _
    by_cases d : o = n - 1 - j
    · have e1 : decide (n - (j + 1) ≤ o ∧ o < n) = true := decide_eq_true (by omega)
      rw [e1, Bool.true_and]
      by_cases c : g_op A (n - 1 - j) = true
      · rw [if_pos c, g_bt_or (by omega) ho, decide_eq_true d, d, c]; simp
      · rw [if_neg c, ih, decide_eq_false (by omega), d]
        cases z : g_op A (n - 1 - j) with
        | false => rfl
        | true => exact absurd z c
    · have e1 : decide (n - (j + 1) ≤ o ∧ o < n) = decide (n - j ≤ o ∧ o < n) := by congr 1; exact propext ⟨fun q => by omega, fun q => by omega⟩
      rw [e1]
      by_cases c : g_op A (n - 1 - j) = true
      · rw [if_pos c, g_bt_or (by omega) ho, decide_eq_false d, ih]; simp
      · rw [if_neg c, ih]
theorem g_lo_beg {A : g_A} (hw : g_wt A) (h60 : g_nx A ≤ 60) : g_lo (g_beg A) (g_nx A) = g_fst (g_op A) 1 (g_nx A - 1) := by
  unfold g_lo
  exact g_fst_congr _ _ (fun j a b => (g_beg_f hw h60).2.2.2.2 j a (by omega))
def g_oS (S : g_S) (A : g_A) : g_S := g_sl (g_su (g_su (g_su (g_su S 6 4 0 (nI (g_nx A + 1))) 7 0 (g_nx A) 0) 8 0 (g_nx A) (nI (g_lo (g_beg A) (g_nx A)))) 9 0 (g_nx A) (-1)) 10 0 (g_nx A) (g_cb A (g_nx A) (g_nx A - 1))
theorem g_oS_1 {S : g_S} {A : g_A} {t f i : Nat} : (g_oS S A).1 t f i = (g_su (g_su (g_su (g_su S 6 4 0 (nI (g_nx A + 1))) 7 0 (g_nx A) 0) 8 0 (g_nx A) (nI (g_lo (g_beg A) (g_nx A)))) 9 0 (g_nx A) (-1)).1 t f i := rfl
theorem r_t_beg {S : g_S} {A : g_A} (hr : r_t S A) (hw : g_wt A) (h60 : g_nx A ≤ 60) : r_t (g_oS S A) (g_beg A) := by
  obtain ⟨e4, en, e30, e60, ent⟩ := g_beg_f hw h60
  have n2 := hw.2.1
  have o3 : ∀ t i, t ≠ g_nx A → g_beg A 3 t i = A 3 t i := fun t i h => g_beg_o (by omega) (by omega) (by omega)
  refine ⟨?_, fun t h1 h2 => ?_⟩
  · rw [e4]
    rw [g_oS_1]
    rw [g_su_t (by omega), g_su_t (by omega), g_su_t (by omega), g_su_e]
  · rw [en] at h2
    have c7 : (g_oS S A).1 7 0 t = if t = g_nx A then 0 else S.1 7 0 t := by
      rw [g_oS_1]
      rw [g_su_t (by omega), g_su_t (by omega)]
      by_cases d : t = g_nx A
      · rw [d, g_su_e, if_pos rfl]
      · rw [g_su_t (by omega), g_su_t (by omega), if_neg d]
    have c8 : (g_oS S A).1 8 0 t = if t = g_nx A then nI (g_lo (g_beg A) (g_nx A)) else S.1 8 0 t := by
      rw [g_oS_1]
      rw [g_su_t (by omega)]
      by_cases d : t = g_nx A
      · rw [d, g_su_e, if_pos rfl]
      · rw [g_su_t (by omega), g_su_t (by omega), g_su_t (by omega), if_neg d]
    have c9 : (g_oS S A).1 9 0 t = if t = g_nx A then -1 else S.1 9 0 t := by
      rw [g_oS_1]
      by_cases d : t = g_nx A
      · rw [d, g_su_e, if_pos rfl]
      · rw [g_su_t (by omega), g_su_t (by omega), g_su_t (by omega), g_su_t (by omega), if_neg d]
    have c10 : (g_oS S A).2 10 0 t = if t = g_nx A then g_cb A (g_nx A) (g_nx A - 1) else S.2 10 0 t := by
      show (if 10 = 10 ∧ 0 = 0 ∧ t = g_nx A then _ else _) = _
      by_cases d : t = g_nx A
      · rw [if_pos ⟨rfl, rfl, d⟩, if_pos d]
      · rw [if_neg (fun q => d q.2.2), if_neg d]; rfl
    rw [c7, c8, c9, c10]
    by_cases d : t = g_nx A
    · subst d
      rw [if_pos rfl, if_pos rfl, if_pos rfl, if_pos rfl, e30, e60]
      refine ⟨rfl, rfl, by rw [if_neg (by decide)], fun o ho1 ho2 => ?_, fun o ho hc => ?_⟩
      · rw [g_cb_b (by omega) (by omega) _ (by omega), ent o ho1 ho2, decide_eq_true (by omega)]; simp
      · rw [g_cb_b (by omega) ho _ (by omega), decide_eq_false (by omega)]; rfl
    · obtain ⟨q1, q2, q3, q4, q5⟩ := hr.2 t h1 (by omega)
      have nt : ∀ o, g_nt (g_beg A) t o = g_nt A t o := fun o => by unfold g_nt; rw [o3 t _ d]
      have lo : g_lo (g_beg A) t = g_lo A t := by unfold g_lo; exact g_fst_congr _ _ (fun j _ _ => nt j)
      rw [if_neg d, if_neg d, if_neg d, if_neg d, o3 t 0 d, lo, g_beg_o (by omega) (by omega) (by omega)]
      exact ⟨q1, q2, q3, fun o a b => by rw [nt]; exact q4 o a b, q5⟩
theorem g_wt_beg {A : g_A} (hw : g_wt A) (h60 : g_nx A ≤ 60) : g_wt (g_beg A) := by
  obtain ⟨e4, en, _⟩ := g_beg_f hw h60
  have := hw.2.1
  exact ⟨by rw [en]; exact e4, by rw [en]; omega, by rw [en]; omega⟩
theorem c_setNoted {H : q_H} {k t : Nat} {x : Int64} (ht : t < 61) : Tn_setNoted k (nI t) x H = some (g_cw H k (g_sl (g_st H k) 10 0 t x)) := by
  unfold Tn_setNoted
  rw [if_neg (nI_pos (by omega)), if_neg (show ¬ (61 : Int32) ≤ nI t from nI_ge (b := 61) ht (by decide)), g_inN ht (by decide), g_cl (by omega), g_sl_cw]
  rfl
theorem c_open {H : q_H} {k : Nat} {A : g_A} (hr : r_t (g_st H k) A) (hw : g_wt A) (h60 : g_nx A ≤ 60) : Tn_open k H = some (nI (g_nx A), g_cw H k (g_su (g_oS (g_st H k) A) 6 5 0 (nI (g_hz (g_beg A))))) := by
  have n2 := hw.2.1
  unfold Tn_open
  rw [show H.1 6 4 k 0 = A 0 4 0 from hr.1, hw.1]
  refine g_bs ?_
  rw [g_sub1 (by omega)]
  refine g_lp (fun j => (g_cb A (g_nx A) j, nI (g_fst (g_op A) (g_nx A - j) j), nI (g_nx A - 1 - j))) _ (g_nx A - 1) (fun j hj => ?_) ?_ q_fu (by unfold q_fu; omega)
  · dsimp only
    rw [if_neg (show ¬ nI (g_nx A - 1 - j) < (1 : Int32) from nI_nlt (b := 1) (by omega) (by omega)), c_so hr hw (by omega) (by omega)]
    simp only [Option.bind_some]
    have em : nI (g_nx A - 1 - j) + (-1 : Int32) = nI (g_nx A - 1 - (j + 1)) := by
      have : g_nx A - 1 - j = g_nx A - 1 - (j + 1) + 1 := by omega
      rw [this, pk_m1]
    have ei : g_nx A - (j + 1) = g_nx A - 1 - j := by omega
    have ef : g_fst (g_op A) (g_nx A - (j + 1)) (j + 1) = bif g_op A (g_nx A - 1 - j) then g_nx A - 1 - j else g_fst (g_op A) (g_nx A - j) j := by
      rw [ei]
      show (bif g_op A (g_nx A - 1 - j) then g_nx A - 1 - j else g_fst (g_op A) (g_nx A - 1 - j + 1) j) = _
      have : g_nx A - 1 - j + 1 = g_nx A - j := by omega
      rw [this]
    rw [em, ef]
    show _ = some (Sum.inl ((if g_op A (g_nx A - 1 - j) = true then g_cb A (g_nx A) j ||| ((1 : Int64) <<< ((nI (g_nx A - 1 - j)).toInt64 &&& 63)) else g_cb A (g_nx A) j), _, _))
    by_cases c : A 3 (g_nx A - 1 - j) 0 = 0
    · have o : g_op A (g_nx A - 1 - j) = true := decide_eq_true c
      rw [if_neg (fun q => q c), o, if_pos rfl]; rfl
    · have o : g_op A (g_nx A - 1 - j) = false := decide_eq_false c
      rw [if_pos c, o, if_neg (by decide)]; rfl
  · dsimp only
    have e0 : nI (g_nx A - 1 - (g_nx A - 1)) < 1 := by rw [Nat.sub_self]; decide
    have e1 : g_nx A - (g_nx A - 1) = 1 := by omega
    rw [if_pos e0, nI_1, e1, ← g_lo_beg hw h60, c_put (n := 61) rfl rfl (by omega) (by decide)]
    simp only [Option.bind_some]
    rw [c_put (n := 61) rfl rfl (by omega) (by decide)]
    simp only [Option.bind_some]
    rw [c_put (n := 61) rfl rfl (by omega) (by decide)]
    simp only [Option.bind_some]
    rw [c_setNoted (by omega), g_si_cw (h := H) (t := 6) (f := 4), g_cw_si, g_cw_si, g_cw_si, g_st_cw, g_cw_cw]
    simp only [Option.bind_some]
    have hr2 : r_t (g_st (g_cw H k (g_oS (g_st H k) A)) k) (g_beg A) := by rw [g_st_cw]; exact r_t_beg hr hw h60
    have hz := c_hz hr2 (g_wt_beg hw h60)
    unfold g_oS at hz
    rw [hz]
    simp only [Option.bind_some]
    rw [g_cw_si]
    rfl
/-- a transaction more: what holds of the rows -/
theorem g_W_beg {A : g_A} (w : g_W A) (h60 : g_nx A ≤ 60) : g_W (g_beg A) := by
  obtain ⟨⟨wt, wq, wl, wv, wc, wL, wT, wE, wF⟩, ⟨wi, we, wO⟩, wg, ww, wr, wb, wd, wI⟩ := w
  obtain ⟨e4, en', e30, e60, ent⟩ := g_beg_f wt h60
  have o1 : ∀ s i, g_beg A 1 s i = A 1 s i := fun s i => g_beg_o (by omega) (by omega) (by omega)
  have o2 : ∀ s i, g_beg A 2 s i = A 2 s i := fun s i => g_beg_o (by omega) (by omega) (by omega)
  have o5 : ∀ s i, g_beg A 5 s i = A 5 s i := fun s i => g_beg_o (by omega) (by omega) (by omega)
  have o3 : ∀ t i, t < g_nx A → g_beg A 3 t i = A 3 t i := fun t i h => g_beg_o (by omega) (by omega) (by omega)
  have o6 : ∀ t i, t < g_nx A → g_beg A 6 t i = A 6 t i := fun t i h => g_beg_o (by omega) (by omega) (by omega)
  have o0 : ∀ i, i ≠ 4 → g_beg A 0 i 0 = A 0 i 0 := fun i h => g_beg_o (by omega) (by omega) (by omega)
  generalize g_beg A = B at *
  have ln : ∀ p, g_ln B p = g_ln A p := fun p => by unfold g_ln; rw [o0 _ (by omega)]
  have iv : ∀ s, g_iv B s = g_iv A s := fun s => by unfold g_iv; rw [ln]
  have fu : ∀ s, g_fu B s = g_fu A s := fun s => by unfold g_fu; rw [iv, o1]
  have mk : ∀ s, g_mk B s = g_mk A s := fun s => by unfold g_mk; rw [o1]
  have en : ∀ s, g_en B s = g_en A s := fun s => by unfold g_en; rw [o1]
  have n1 : ∀ s, g_n1 B s = g_n1 A s := fun s => by unfold g_n1; rw [o1]
  have n2 : ∀ s, g_n2 B s = g_n2 A s := fun s => by unfold g_n2; rw [o1, o1]
  have mm : ∀ s, g_mm B s = g_mm A s := fun s => by unfold g_mm; rw [o1]
  have ch : ∀ s, g_ch B s = g_ch A s := fun s => by unfold g_ch; rw [o1, o1]
  have smk : ∀ s, s < 60 → g_fu A s = true → B 3 (g_mk A s) 0 = A 3 (g_mk A s) 0 := fun s hs f => o3 _ _ (wv s hs f).2.1.2
  have sen : ∀ s, s < 60 → g_fu A s = true → g_en A s ≠ 0 → B 3 (g_en A s) 0 = A 3 (g_en A s) 0 := fun s hs f h => o3 _ _ (g_ws_en (wv s hs f) h).2.2
  have eo : ∀ s, s < 60 → g_fu A s = true → g_eo B s = g_eo A s := fun s hs f => by
    unfold g_eo
    rw [en]
    by_cases z : g_en A s = 0
    · rw [if_neg (fun q => q.1 z), if_neg (fun q => q.1 z)]
    · rw [sen s hs f z]
  have ed : ∀ s, s < 60 → g_fu A s = true → (g_ed B s ↔ g_ed A s) := fun s hs f => by
    unfold g_ed
    rw [en]
    by_cases z : g_en A s = 0
    · exact ⟨fun q => absurd z q.1, fun q => absurd z q.1⟩
    · rw [sen s hs f z]
  have nn : ∀ s, s < 60 → g_fu A s = true → g_nn B s = g_nn A s := fun s hs f => by
    unfold g_nn
    rw [eo s hs f, n1, o1, o1, o1, fu]
  have lk : ∀ a x, a < 60 → g_lk B a x → g_lk A a x := fun a x ha l => by
    rcases l with ⟨l1, l2, l3⟩ | ⟨l1, l2⟩
    · rw [iv] at l1; rw [o1] at l2; rw [ch] at l3; exact Or.inl ⟨l1, l2, l3⟩
    · rw [fu] at l1; rw [nn a ha l1] at l2; exact Or.inr ⟨l1, l2⟩
  have tn : ∀ t, g_tn A t → g_tn B t := fun t h => ⟨h.1, by rw [en']; have := h.2; omega⟩
  have ne : g_ne B = g_ne A := by unfold g_ne; rw [o0 5 (by omega)]
  have ep : ∀ i, g_ep B i = g_ep A i := fun i => by unfold g_ep; rw [o2, o2]
  have nr : g_nr B = g_nr A := by unfold g_nr; rw [o0 3 (by omega)]
  have nf : g_nf B = g_nf A := by unfold g_nf; rw [o0 7 (by omega)]
  have wt' : g_wt B := ⟨by rw [en']; exact e4, by rw [en']; have := wt.2.1; omega, by rw [en']; omega⟩
  have wn : ∀ t, t < g_nx A → g_wn B t = g_wn A t := fun t h => by unfold g_wn; rw [o6 t 0 h]
  have wp : ∀ t, t < g_nx A → ∀ i, g_wp B t i = g_wp A t i := fun t h i => by
    induction i with
    | zero => rfl
    | succ i ih =>
      rw [g_wp_s, g_wp_s, ih]
      by_cases z : g_wp A t i = 0
      · rw [if_pos z, if_pos z]
      · rw [if_neg z, if_neg z, wn _ (g_wp_lt ww wt h i)]
  refine ⟨⟨wt', fun t a b => ?_, fun p hp => by rw [ln, o0 _ (by omega)]; exact wl p hp, fun s hs f => ?_, fun s hs f e f2 => ?_, fun a b x ha hb hx la lb => wL a b x ha hb hx (lk a x ha la) (lk b x hb lb), fun a ha ia ka => ?_, fun s hs f e => ?_, fun s hs f e => ?_⟩, ⟨⟨by rw [ne, o0 5 (by omega)]; exact wi.1, by rw [ne]; exact wi.2.1, fun i hi => ?_⟩, fun i hi => ?_, fun s hs f e0 eo' e8 => ?_⟩, ⟨by unfold g_nv; rw [o0 6 (by omega)]; exact wg.1, by unfold g_nv; rw [o0 6 (by omega)]; exact wg.2⟩, ⟨fun t a b => ?_, fun t a b => ?_⟩, ⟨by rw [nr, o0 3 (by omega)]; exact wr.1, by rw [nr]; exact wr.2.1, fun s hs f => ?_⟩, by unfold g_wb; rw [o0 1 (by omega)]; exact wb, ⟨by rw [nf, o0 7 (by omega)]; exact wd.1, by rw [nf]; exact wd.2.1, fun i hi => ?_⟩, fun a b ha hb fa fb e => ?_⟩
  · by_cases d : t = g_nx A
    · rw [d, e30]; exact Or.inl rfl
    · rw [en'] at b
      rw [o3 t 0 (by omega)]; exact wq t a (by omega)
  · rw [fu] at f
    have := wv s hs f
    unfold g_ws at this ⊢
    rw [mk, en, o1, o1, o1, o1, o1, o1]
    refine ⟨this.1, tn _ this.2.1, ?_, this.2.2.2⟩
    rcases this.2.2.1 with q | q
    · exact Or.inl q
    · exact Or.inr ⟨q.1, tn _ q.2⟩
  · rw [fu] at f f2
    rw [o1] at e
    rw [n1] at f2 ⊢
    rw [mm, mm]; exact wc s hs f e f2
  · rw [iv] at ia
    rw [o1] at ka
    obtain ⟨⟨x, hx, e⟩, t2, t3, t4⟩ := wT a ha ia ka
    have hc60 : g_ch A a < 60 := by rw [g_ch_2 ka, e, g_cl (by omega)]; omega
    rw [ch, fu, mk, o1, o1, smk _ hc60 t2]
    exact ⟨⟨x, hx, e⟩, t2, t3, t4⟩
  · rw [fu] at f
    rw [en] at e ⊢
    rw [mk, smk s hs f]; exact wE s hs f e
  · rw [fu] at f
    rw [o1] at e
    rw [mk, smk s hs f]; exact wF s hs f e
  · rw [ne] at hi
    rw [o2, o2, o2]; exact wi.2.2 i hi
  · rw [ne] at hi
    rw [ep, iv, o1, o1]; exact we i hi
  · rw [fu] at f
    rw [en] at e0 eo'
    rw [sen s hs f e0] at eo'
    rw [o1] at e8
    rw [n2, fu, o1, o1]; exact wO s hs f e0 eo' e8
  · rw [en'] at b ⊢
    by_cases d : t = g_nx A
    · subst d
      have : g_wn B (g_nx A) = 0 := by unfold g_wn; rw [e60]; rfl
      rw [this, e60]; exact ⟨rfl, by omega⟩
    · rw [o6 t 0 (by omega), wn t (by omega)]
      have := ww.1 t a (by omega)
      exact ⟨this.1, by omega⟩
  · rw [en'] at b
    by_cases d : t = g_nx A
    · subst d
      refine ⟨1, ?_⟩
      rw [g_wp_s]
      have : g_wn B (g_nx A) = 0 := by unfold g_wn; rw [e60]; rfl
      show (if g_nx A = 0 then 0 else g_wn B (g_nx A)) = 0
      rw [if_neg (by omega), this]
    · obtain ⟨n, hn⟩ := ww.2 t a (by omega)
      exact ⟨n, by rw [wp t (by omega)]; exact hn⟩
  · rw [fu] at f
    rw [nr, o1, o1]; exact wr.2.2 s hs f
  · rw [nf] at hi
    rw [o5, o5]; exact wd.2.2 i hi
  · rw [fu] at fa fb
    rw [o1, o1] at e
    rw [mk, mk, en, eo a ha fa, eo b hb fb, ed a ha fa, ed b hb fb, smk a ha fa, smk b hb fb]
    exact wI a b ha hb fa fb e
theorem act_begin {b : Nat} {A : g_A} {H : q_H} (hW : g_W A) (hR : g_R b (g_st H 0) A) : g_act b A H (Rp_begin H) Mo_beginNow := by
  have wt := hW.1.1
  unfold Rp_begin
  rw [show H.1 6 4 0 0 = A 0 4 0 from hR.2.1.1, wt.1]
  by_cases c : g_nx A ≤ 60
  · rw [if_pos (show nI (g_nx A) ≤ (60 : Int32) from nI_le (b := 60) c (by decide)), c_open hR.2.1 wt c]
    simp only [Option.bind_some]
    rw [e_answer]
    refine act_ans ?_ (g_W_beg hW c) (nI_pos' (by omega)) (c1_eq (fun x hx => Or.inr (g_beg_o (by omega) (by omega) (by omega)))) (fun h => by rw [m_beginNow wt, if_pos c])
    obtain ⟨rg, rt, rh, rp, rn, ri, rl, rf, rm⟩ := hR
    have So : ∀ t f i, ¬ (6 ≤ t ∧ t ≤ 9) → (g_su (g_oS (g_st H 0) A) 6 5 0 (nI (g_hz (g_beg A)))).1 t f i = (g_st H 0).1 t f i := fun t f i h => by
      rw [g_su_t (by omega)]
      rw [g_oS_1]
      rw [g_su_t (by omega), g_su_t (by omega), g_su_t (by omega), g_su_t (by omega)]
    have o1 : ∀ s i, g_beg A 1 s i = A 1 s i := fun s i => g_beg_o (by omega) (by omega) (by omega)
    have o0 : ∀ i, i ≠ 4 → g_beg A 0 i 0 = A 0 i 0 := fun i h => g_beg_o (by omega) (by omega) (by omega)
    have iv : ∀ s, g_iv (g_beg A) s = g_iv A s := fun s => by unfold g_iv g_ln; rw [o0 _ (by omega)]
    have fu : ∀ s, g_fu (g_beg A) s = g_fu A s := fun s => by unfold g_fu; rw [iv, o1]
    refine ⟨⟨?_, ?_, ?_, ?_⟩, ?_, ?_, fun x hx => ⟨?_, ?_, fun j hj => ?_⟩, ?_, r_i_eq ri (fun t f i a b => So t f i (by omega)) (o0 5 (by omega)) (fun i w => g_beg_o (by omega) (by omega) (by omega)), ⟨?_, fun i hi => ?_, fun j hj => ?_⟩, r_f_eq rf (fun t f i a b => So t f i (by omega)) (o0 7 (by omega)) (fun i w => g_beg_o (by omega) (by omega) (by omega)), ?_⟩
    · rw [So 1 4 0 (by omega), o0 0 (by omega)]; exact rg.1
    · rw [So 0 5 0 (by omega), o0 1 (by omega)]; exact rg.2.1
    · rw [So 0 6 0 (by omega), o0 2 (by omega)]; exact rg.2.2.1
    · rw [So 0 7 0 (by omega), o0 3 (by omega)]; exact rg.2.2.2
    · have h1 := r_t_beg rt wt c
      refine ⟨by rw [g_su_t (by omega)]; exact h1.1, fun t a b => ?_⟩
      rw [g_su_t (by omega), g_su_t (by omega), g_su_t (by omega)]
      exact h1.2 t a b
    · unfold r_h; rw [g_su_e]
    · rw [So 4 0 x (by omega), o0 _ (by omega)]; exact (rp x hx).1
    · rw [So 5 0 x (by omega), o0 _ (by omega)]; exact (rp x hx).2.1
    · exact r_s_eq ((rp x hx).2.2 j hj) (fun f => So 3 f _ (by omega)) (iv _) (fun w => o1 _ w)
    · unfold r_n
      simp only [fun f => So 3 f 60 (by omega)]
      exact rn
    · rw [So 15 3 0 (by omega), o0 6 (by omega)]; exact rl.1
    · have hn : g_nv (g_beg A) = g_nv A := by unfold g_nv; rw [o0 6 (by omega)]
      rw [hn] at hi
      rw [So 16 0 i (by omega), So 17 0 i (by omega), g_beg_o (by omega) (by omega) (by omega), g_beg_o (by omega) (by omega) (by omega)]; exact rl.2.1 i hi
    · rw [So 18 0 j (by omega), o0 _ (by omega)]; exact rl.2.2 j hj
    · obtain ⟨⟨x, y, h1, h2, h3, h4, h5⟩, h6⟩ := rm
      have co : ∀ x', g_cm (g_su (g_oS (g_st H 0) A) 6 5 0 (nI (g_hz (g_beg A)))) x' = g_cm (g_st H 0) x' := fun x' => by unfold g_cm; rw [So 3 9 x' (by omega)]
      have mo : ∀ x', g_mm (g_beg A) x' = g_mm A x' := fun x' => by unfold g_mm; rw [o1]
      refine ⟨⟨x, y, by rw [So 0 8 0 (by omega)]; exact h1, by rw [o0 8 (by omega)]; exact h2, h3, h4, fun s' hs' f => ?_⟩, fun a c ha hc fa fc => ?_⟩
      · rw [fu] at f
        rw [co, mo, So 3 9 s' (by omega), o1]
        exact h5 s' hs' f
      · rw [fu] at fa fc
        rw [co, co, mo, mo]
        exact h6 a c ha hc fa fc
  · rw [if_neg (show ¬ nI (g_nx A) ≤ (60 : Int32) from fun q => c ((nI_leI (b := 60) (by have := wt.2.2; omega) (by decide)).mp q)), e_refuse]
    exact act_ref hR hW (by decide) (fun h => by rw [m_beginNow wt, if_neg c])
