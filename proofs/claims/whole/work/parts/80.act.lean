/-! acts: how both sides answer -/
def g_in (x lo hi : Int32) : Bool := !decide (x < lo) && !decide (hi < x)
theorem m_isIn {x lo hi : Int32} {h : q_H} : Mo_isIn x lo hi h = some (q_bi (g_in x lo hi)) := by
  unfold Mo_isIn g_in
  by_cases c : x < lo
  · rw [if_pos c, decide_eq_true c]; rfl
  · rw [if_neg c, decide_eq_false c]
    by_cases d : hi < x
    · rw [if_pos d, decide_eq_true d]; rfl
    · rw [if_neg d, decide_eq_false d]; rfl
theorem c_isWithin {x lo hi : Int32} {h : q_H} : Rp_isWithin x lo hi h = some (q_bi (g_in x lo hi)) := m_isIn (h := h)
def g_vl (key val size : Int32) : Bool := g_in key 0 99 && (g_in val 0 999 && g_in size 1 20)
theorem g_vl_key {key val size : Int32} (h : g_vl key val size = true) : 0 ≤ key := by
  unfold g_vl g_in at h
  simp only [Bool.and_eq_true, Bool.not_eq_true', decide_eq_false_iff_not] at h
  exact Int32.not_lt.mp h.1.1
theorem m_isValue {key val size : Int32} {h : q_H} : Mo_isValue key val size h = some (q_bi (g_vl key val size)) := by
  unfold Mo_isValue g_vl
  rw [m_isIn, m_isIn, m_isIn]
  simp only [Option.bind_some]
  cases g_in key 0 99 <;> cases g_in val 0 999 <;> cases g_in size 1 20 <;> rfl
theorem c_isVersion {key val size : Int32} {h : q_H} : Rp_isVersion key val size h = some (q_bi (g_vl key val size)) := m_isValue (h := h)
def g_rw (A : g_A) (a : Int32) : Bool := !decide (a < 0) && !decide (A 0 3 0 ≤ a)
theorem m_isRow {a : Int32} {A : g_A} {h : q_H} (hw : A 0 3 0 = nI (g_nr A)) (h40 : g_nr A ≤ 40) : Mo_isRow a (g_ma h 31 A) = some (q_bi (g_rw A a)) := by
  unfold Mo_isRow
  rw [m_g (by omega), m_isIn]
  simp only [Option.bind_some]
  rw [q_bi01]
  have : g_in a 0 (A 0 3 0 - 1) = g_rw A a := by
    unfold g_in g_rw
    by_cases c : a < 0
    · rw [decide_eq_true c]; rfl
    · rw [decide_eq_false c, hw]
      by_cases d : g_nr A = 0
      · rw [d]
        have e1 : nI 0 - 1 < a := Int32.lt_of_lt_of_le (by decide : nI 0 - 1 < (0 : Int32)) (Int32.not_lt.mp c)
        have e2 : nI 0 ≤ a := Int32.not_lt.mp c
        rw [decide_eq_true e1, decide_eq_true e2]
      · rw [g_sub1 (by omega)]
        rcases pk_ix a (n := g_nr A) (by omega) with q | q | ⟨j, hj, rfl⟩
        · exact absurd q c
        · have : nI (g_nr A - 1) < a := Int32.lt_of_lt_of_le (nI_lt (by omega) (by omega)) q
          rw [decide_eq_true this, decide_eq_true q]
        · rw [decide_eq_false (nI_nlt (by omega) (by omega)), decide_eq_false (nI_ge hj (by omega))]
  rw [this]; rfl
theorem c_hasRow {a : Int32} {A : g_A} {k : Nat} {H : q_H} (hr : H.1 0 7 k 0 = A 0 3 0) : St_hasRow k a H = some (q_bi (g_rw A a)) := by
  unfold St_hasRow g_rw
  rw [hr]
  by_cases c : a < 0
  · rw [if_pos c, decide_eq_true c]; rfl
  · rw [if_neg c, decide_eq_false c]
    by_cases d : A 0 3 0 ≤ a
    · rw [if_pos d, decide_eq_true d]; rfl
    · rw [if_neg d, decide_eq_false d]; rfl
def g_opn (A : g_A) (a : Int32) : Int32 := if g_tx A a = true then (if A 3 a.toNatClampNeg 0 = 0 then 0 else 4) else 2
def g_free (A : g_A) (a : Int32) : Int32 := if g_opn A a = 0 then (if 0 < A 6 a.toNatClampNeg 0 then 11 else 0) else g_opn A a
theorem g_opn_t {A : g_A} {a : Int32} (hw : g_wt A) (h : g_opn A a = 0) : ∃ t, a = nI t ∧ g_tn A t ∧ A 3 t 0 = 0 ∧ a.toNatClampNeg = t ∧ g_tx A a = true := by
  unfold g_opn at h
  by_cases c : g_tx A a = true
  · rw [if_pos c] at h
    obtain ⟨t, e, t1, t2⟩ := g_tx_t hw c
    have ht : a.toNatClampNeg = t := by rw [e]; exact g_cl (by have := hw.2.2; omega)
    rw [ht] at h
    by_cases d : A 3 t 0 = 0
    · exact ⟨t, e, ⟨t1, t2⟩, d, ht, c⟩
    · rw [if_neg d] at h; exact absurd h (by decide)
  · rw [if_neg c] at h; exact absurd h (by decide)
theorem g_free_t {A : g_A} {a : Int32} (hw : g_wt A) (h : g_free A a = 0) : ∃ t, a = nI t ∧ g_tn A t ∧ A 3 t 0 = 0 ∧ a.toNatClampNeg = t ∧ g_tx A a = true ∧ ¬ 0 < A 6 t 0 := by
  unfold g_free at h
  by_cases c : g_opn A a = 0
  · rw [if_pos c] at h
    obtain ⟨t, e, t1, t2, t3, t4⟩ := g_opn_t hw c
    rw [t3] at h
    by_cases d : 0 < A 6 t 0
    · rw [if_pos d] at h; exact absurd h (by decide)
    · exact ⟨t, e, t1, t2, t3, t4, d⟩
  · rw [if_neg c] at h; exact absurd h c
theorem c_asOpen {a : Int32} {A : g_A} {H : q_H} (hR : r_t (g_st H 0) A) (hw : g_wt A) : Rp_asOpen a H = some (g_opn A a) := by
  unfold Rp_asOpen g_opn
  rw [c_has hR hw]
  simp only [Option.bind_some]
  cases c : g_tx A a with
  | false => rw [if_neg (by decide), if_neg (by decide)]
  | true =>
    obtain ⟨t, e, t1, t2⟩ := g_tx_t hw c
    have ht : a.toNatClampNeg = t := by rw [e]; exact g_cl (by have := hw.2.2; omega)
    rw [if_pos (by decide), if_pos rfl, ht, e, c_so hR hw t1 t2]
    simp only [Option.bind_some]
    by_cases d : A 3 t 0 = 0
    · rw [if_neg (fun q => q d), if_pos d]
    · rw [if_pos d, if_neg d]
theorem c_asFree {a : Int32} {A : g_A} {H : q_H} (hR : r_t (g_st H 0) A) (hw : g_wt A) : Rp_asFree a H = some (g_free A a) := by
  unfold Rp_asFree g_free
  rw [c_asOpen hR hw]
  simp only [Option.bind_some]
  by_cases c : g_opn A a = 0
  · obtain ⟨t, e, t1, t2, t3, t4⟩ := g_opn_t hw c
    rw [if_neg (fun q => q c), if_pos c, t3, e, c_waits hR hw t1.1 t1.2]
    simp only [Option.bind_some]
    by_cases d : 0 < A 6 t 0
    · rw [if_pos d, if_pos d, if_neg (fun q => absurd (q ▸ d) (by decide))]
    · rw [if_neg d, if_neg d, if_pos rfl, ← e, c]
  · rw [if_pos c, if_neg c]
theorem c_isPage {a : Int32} {H : q_H} : Rp_isPage a H = some (q_bi (g_in a 0 5)) := by
  unfold Rp_isPage g_in
  by_cases c : a < 0
  · rw [if_pos c, decide_eq_true c]; rfl
  · rw [if_neg c, decide_eq_false c]
    rcases pk_ix a (n := 6) (by decide) with q | q | ⟨j, hj, rfl⟩
    · exact absurd q c
    · rw [if_pos (show (6 : Int32) ≤ a from q), decide_eq_true (show (5 : Int32) < a from Int32.lt_of_lt_of_le (by decide) q)]; rfl
    · rw [if_neg (show ¬ (6 : Int32) ≤ nI j from nI_ge (b := 6) hj (by decide)), decide_eq_false (show ¬ (5 : Int32) < nI j from nI_nlt (a := 5) (by omega) (by decide))]; rfl
theorem g_in_t {a : Int32} {n : Nat} (hn : n < 2 ^ 30) (h : g_in a 0 (nI n) = true) : ∃ p, p ≤ n ∧ a = nI p := by
  unfold g_in at h
  simp only [Bool.and_eq_true, Bool.not_eq_true', decide_eq_false_iff_not] at h
  rcases pk_ix a (n := n + 1) (by omega) with q | q | ⟨j, hj, rfl⟩
  · exact absurd q h.1
  · exact absurd (Int32.lt_of_lt_of_le (nI_lt (by omega) (by omega)) q) h.2
  · exact ⟨j, by omega, rfl⟩
/-- the clear flags are 0 or 1 -/
def g_c1 (A : g_A) : Prop := ∀ p, p < 6 → g_01 (A 0 (23 + p) 0)
theorem c1_eq {A B : g_A} (h : ∀ p, p < 6 → B 0 (23 + p) 0 = 0 ∨ B 0 (23 + p) 0 = A 0 (23 + p) 0) (c : g_c1 A) : g_c1 B := fun p hp => by
  rcases h p hp with q | q
  · rw [q]; exact Or.inl rfl
  · rw [q]; exact c p hp
theorem c1_pr {A : g_A} {p : Nat} (hI : g_PI A) (hp : p < 6) (c : g_c1 A) : g_c1 (g_pr A p) := by
  obtain ⟨q1, q2, _⟩ := g_pc_pr hI hp
  refine c1_eq (fun q hq => ?_) c
  by_cases d : q = p
  · subst d
    rw [q2]
    by_cases e : g_pn A q = 0
    · exact Or.inr (if_pos e)
    · exact Or.inl (if_neg e)
  · exact Or.inr (q1 q hq d)
theorem c1_fil {A : g_A} {s : Nat} {row key val size maker light : Int32} (hs : s < 60) (c : g_c1 A) : g_c1 (g_fil A s row key val size maker light) := by
  refine c1_eq (fun q hq => ?_) c
  by_cases d : q = s / 10
  · subst d
    unfold g_fil
    rw [if_neg (by omega), if_neg (by omega), if_pos ⟨rfl, rfl, rfl⟩]
    exact Or.inl rfl
  · exact Or.inr (g_fil_o (by omega) (by omega))
theorem c1_end {A : g_A} {s : Nat} {t p q : Int32} (c : g_c1 A) : g_c1 (g_end A s t p q) := by
  refine c1_eq (fun x hx => ?_) c
  by_cases d : x = s / 10
  · subst d
    unfold g_end
    exact Or.inl g_au_eq
  · exact Or.inr (g_end_o (by omega) (by omega))
theorem c1_ent {A : g_A} {s : Nat} {key : Int32} (c : g_c1 A) : g_c1 (g_ent A key s) := c1_eq (fun x hx => Or.inr (by
  unfold g_ent g_ef
  rw [g_au_ne (by omega), g_au_ne (by omega), g_au_ne (by omega), g_au_ne (by omega), g_au_ne (by omega)]
  unfold g_esh
  rw [if_neg (by omega)])) c
theorem c1_row {A : g_A} (c : g_c1 A) : g_c1 (g_row A) := c1_eq (fun x hx => Or.inr (g_row_o (by omega))) c
theorem c1_tell {A : g_A} {kd nm : Int32} (c : g_c1 A) : g_c1 (g_tell A kd nm) := c1_eq (fun x hx => Or.inr (by
  unfold g_tell
  rw [if_neg (by omega), if_neg (by omega)])) c
/-- frames -/
def g_is (h : q_H) (A : g_A) : Prop := h = g_ma h 31 A
def g_fH (H H' : q_H) (st : Int32) : Prop := (∀ t f k i, k ≠ 0 → k ≠ 1 → ¬ (t = 24 ∧ f = 6 ∧ k = 6 ∧ i = 0) → H'.1 t f k i = H.1 t f k i) ∧ (∀ t f k i, k ≠ 0 → k ≠ 1 → H'.2 t f k i = H.2 t f k i) ∧ H'.1 24 6 6 0 = st ∧ (r_n (g_st H 1) → r_n (g_st H' 1))
def g_fM (h h' : q_H) : Prop := (∀ t f k i, ¬ (k = 7 ∧ ((f = 0 ∧ (t = 31 ∨ t = 32 ∨ t = 33 ∨ t = 36 ∨ t = 37)) ∨ (t = 30 ∧ (f = 6 ∨ f = 7 ∨ f = 9)))) → h'.1 t f k i = h.1 t f k i) ∧ h'.2 = h.2
def g_act (b : Nat) (A : g_A) (H : q_H) (C : Option (Int32 × q_H)) (M : q_H → Option (Int32 × q_H)) : Prop := ∃ r st H', C = some (r, H') ∧ g_fH H H' st ∧ (st = 0 ↔ 0 ≤ r) ∧ ∀ h, g_is h A → ∃ A' h', g_R b (g_st H' 0) A' ∧ g_W A' ∧ M h = some (r, h') ∧ g_is h' A' ∧ g_fM h h' ∧ h'.1 30 6 7 0 = (if st = 0 then h.1 30 6 7 0 else st) ∧ (g_c1 A → g_c1 A')
theorem g_is_ma {h : q_H} {A : g_A} : g_is (g_ma h 31 A) A := by unfold g_is; rw [g_ma_ma]
theorem g_fM_rf {h : q_H} : g_fM h h := ⟨fun _ _ _ _ _ => rfl, rfl⟩
theorem g_fM_tr {h h' h'' : q_H} (a : g_fM h h') (b : g_fM h' h'') : g_fM h h'' := ⟨fun t f k i n => (b.1 t f k i n).trans (a.1 t f k i n), b.2.trans a.2⟩
theorem g_fM_ma {h : q_H} {A : g_A} : g_fM h (g_ma h 31 A) := ⟨fun t f k i n => by
  unfold g_ma
  dsimp only
  rw [if_neg (fun q => n ⟨q.2.2.1, Or.inl ⟨q.2.1, Or.inl q.1⟩⟩)], rfl⟩
theorem g_fM_si {h : q_H} {f : Nat} {v : Int32} (hf : f = 6 ∨ f = 7 ∨ f = 9) : g_fM h (q_si h 30 f 7 0 v) := ⟨fun t g k i n => by
  unfold q_si
  dsimp only
  rw [if_neg (fun q => n ⟨q.2.2.1, Or.inr ⟨q.1, by rw [q.2.1]; exact hf⟩⟩)], rfl⟩
theorem g_is_si {h : q_H} {A : g_A} {t f k i : Nat} {v : Int32} (ht : t ≠ 31) (hi : g_is h A) : g_is (q_si h t f k i v) A := by
  unfold g_is at hi ⊢
  rw [← g_ma_si_ne ht, ← hi]
theorem g_rd_e {h : q_H} {t f k i : Nat} {v : Int32} : (q_si h t f k i v).1 t f k i = v := by
  unfold q_si; dsimp only; rw [if_pos ⟨rfl, rfl, rfl, rfl⟩]
theorem g_rd_o {h : q_H} {t f k i t' f' k' i' : Nat} {v : Int32} (hn : ¬ (t' = t ∧ f' = f ∧ k' = k ∧ i' = i)) : (q_si h t f k i v).1 t' f' k' i' = h.1 t' f' k' i' := by
  unfold q_si; dsimp only; rw [if_neg hn]
theorem g_st_an {H : q_H} {S' : g_S} {st : Int32} : g_st (q_si (g_cw H 0 S') 24 6 6 0 st) 0 = S' := by
  rw [g_st_sn (by decide), g_st_cw]
theorem g_fH_an {H : q_H} {S' : g_S} {st : Int32} : g_fH H (q_si (g_cw H 0 S') 24 6 6 0 st) st := by
  refine ⟨fun t f k i h0 h1 hn => ?_, fun t f k i h0 h1 => ?_, g_rd_e, fun q => ?_⟩
  · rw [g_rd_o hn, g_cw_rn h0]
  · show (g_cw H 0 S').2 t f k i = _
    rw [g_cw_rm h0]
  · rw [g_st_sn (by decide), g_st_cn (by decide)]; exact q
/-- an answer -/
theorem act_ans {b : Nat} {A A' : g_A} {H : q_H} {S' : g_S} {r : Int32} {M : q_H → Option (Int32 × q_H)} (hR : g_R b S' A') (hW : g_W A') (hr : 0 ≤ r) (hC : g_c1 A → g_c1 A') (hM : ∀ h, M (g_ma h 31 A) = some (r, g_ma h 31 A')) : g_act b A H (some (r, q_si (g_cw H 0 S') 24 6 6 0 0)) M := by
  refine ⟨r, 0, _, rfl, g_fH_an, ⟨fun _ => hr, fun _ => rfl⟩, fun h hi => ⟨A', g_ma h 31 A', by rw [g_st_an]; exact hR, hW, ?_, g_is_ma, g_fM_ma, ?_, hC⟩⟩
  · have := hM h
    unfold g_is at hi
    rw [← hi] at this; exact this
  · rw [if_pos rfl, g_ma_ne (by decide)]
/-- a refusal -/
theorem act_ref {b : Nat} {A : g_A} {H : q_H} {st : Int32} {M : q_H → Option (Int32 × q_H)} (hR : g_R b (g_st H 0) A) (hW : g_W A) (hs : st ≠ 0) (hM : ∀ h, M (g_ma h 31 A) = some (-1, q_si (g_ma h 31 A) 30 6 7 0 st)) : g_act b A H (some (-1, q_si H 24 6 6 0 st)) M := by
  refine ⟨-1, st, _, rfl, ?_, ⟨fun q => absurd q hs, fun q => absurd q (by decide)⟩, fun h hi => ⟨A, q_si h 30 6 7 0 st, by rw [g_st_sn (by decide)]; exact hR, hW, ?_, g_is_si (by decide) hi, g_fM_si (Or.inl rfl), ?_, fun q => q⟩⟩
  · have := g_fH_an (H := H) (S' := g_st H 0) (st := st)
    rw [g_cw_st] at this; exact this
  · have := hM h
    unfold g_is at hi
    rw [← hi] at this; exact this
  · rw [if_neg hs, g_rd_e]
theorem g_R_mono {b b' : Nat} {S : g_S} {A : g_A} (h : g_R b S A) (hb : b ≤ b') : g_R b' S A := by
  obtain ⟨rg, rt, rh, rp, rn, ri, rl, rf, ⟨⟨x, y, h1, h2, h3, h4, h5⟩, h6⟩⟩ := h
  exact ⟨rg, rt, rh, rp, rn, ri, rl, rf, ⟨⟨x, y, h1, h2, by omega, by omega, h5⟩, h6⟩⟩
theorem e_answer {r : Int32} {H : q_H} : Rp_answer r H = some (r, q_si H 24 6 6 0 0) := rfl
theorem e_refuse {st : Int32} {H : q_H} : Rp_refuse st H = some (-1, q_si H 24 6 6 0 st) := rfl
theorem e_Mrefuse {st : Int32} {H : q_H} : Mo_refuse st H = some (-1, q_si H 30 6 7 0 st) := rfl
theorem act_prune {b : Nat} {A : g_A} {H : q_H} {a : Int32} (hW : g_W A) (hR : g_R b (g_st H 0) A) : g_act b A H (Rp_prune a H) (Mo_pruneNow a) := by
  unfold Rp_prune
  rw [c_isPage]
  simp only [Option.bind_some]
  cases c : g_in a 0 5 with
  | false =>
    rw [if_pos (by rfl), e_refuse]
    refine act_ref hR hW (by decide) (fun h => ?_)
    unfold Mo_pruneNow
    rw [m_isIn, c]; rfl
  | true =>
    obtain ⟨p, hp, rfl⟩ := g_in_t (n := 5) (by decide) c
    rw [if_neg (by decide)]
    obtain ⟨S', e, hR'⟩ := c_prunePageR hW hR (p := p) (by omega)
    rw [e]
    simp only [Option.bind_some]
    rw [e_answer]
    have n110 : g_pn A p ≤ 110 := (g_pu_I hW.1 (p := p) (by omega)).2.2
    refine act_ans hR' (g_W_pr hW (by omega)).1 (nI_pos' (by omega)) (c1_pr hW.1 (by omega)) (fun h => ?_)
    unfold Mo_pruneNow
    rw [m_isIn, c, m_prunes hW.1 (by omega)]; rfl
