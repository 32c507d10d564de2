/-! the text: numbers of a line -/
theorem q_lp_l {σ ρ : Type} {body : σ → Option (σ ⊕ ρ)} {s s' : σ} {f : Nat} (h : body s = some (.inl s')) : q_lp body (f + 1) s = q_lp body f s' := by
  conv => lhs; unfold q_lp
  rw [h]
theorem q_lp_r {σ ρ : Type} {body : σ → Option (σ ⊕ ρ)} {s : σ} {r : ρ} {f : Nat} (h : body s = some (.inr r)) : q_lp body (f + 1) s = some r := by
  conv => lhs; unfold q_lp
  rw [h]
theorem nI_e {a b : Nat} (ha : a < 2 ^ 31) (hb : b < 2 ^ 31) (h : ¬ a = b) : ¬ nI a = nI b := fun q => h ((nI_eq ha hb).mp q)
def x_nb (w : Nat) : Nat := [1, 1, 1, 3, 0, 4, 5, 2, 1, 1, 1, 0, 2, 0].getD w 0
theorem x_nb_5 : ∀ w, w < 14 → x_nb w ≤ 5 := by decide
theorem x_14 {w : Nat} (h : w < 14) : w = 0 ∨ w = 1 ∨ w = 2 ∨ w = 3 ∨ w = 4 ∨ w = 5 ∨ w = 6 ∨ w = 7 ∨ w = 8 ∨ w = 9 ∨ w = 10 ∨ w = 11 ∨ w = 12 ∨ w = 13 := by omega
theorem c_numbersOf {w : Nat} {H : q_H} (hw : w < 14) : Tx_numbersOf (nI w) H = some (nI (x_nb w)) := by
  rcases x_14 hw with rfl | rfl | rfl | rfl | rfl | rfl | rfl | rfl | rfl | rfl | rfl | rfl | rfl | rfl <;> rfl
def x_cb (w i : Nat) (v : Int32) : Bool := if w = 0 then g_in v 32 96 else if w = 1 then g_in v 1 8 else if w = 2 then g_in v 0 30 else if w = 3 then (if i = 0 then g_in v 0 99 else if i = 1 then true else g_in v 1 20) else true
theorem c_canBe {w i : Nat} {H : q_H} {v : Int32} (hw : w < 14) (hi : i < 5) (h7 : H.1 25 7 6 0 = nI w) (h6 : H.1 25 6 6 0 = v) : Tx_canBe (nI i) H = some (q_bi (x_cb w i v)) := by
  unfold Tx_canBe x_cb
  rw [h7, h6]
  by_cases w0 : w = 0
  · subst w0
    rw [if_pos (by decide), if_pos rfl, c_isWithin]
    simp only [Option.bind_some]
    rw [q_bi01]; rfl
  · by_cases w1 : w = 1
    · subst w1
      rw [if_neg (by decide), if_pos (by decide), if_neg w0, if_pos rfl, c_isWithin]
      simp only [Option.bind_some]
      rw [q_bi01]; rfl
    · by_cases w2 : w = 2
      · subst w2
        rw [if_neg (by decide), if_neg (by decide), if_pos (by decide), if_neg w0, if_neg w1, if_pos rfl, c_isWithin]
        simp only [Option.bind_some]
        rw [q_bi01]; rfl
      · rw [if_neg w0, if_neg w1, if_neg w2, if_neg (show ¬ nI w = 0 from nI_e (b := 0) (by omega) (by omega) w0), if_neg (show ¬ nI w = 1 from nI_e (b := 1) (by omega) (by omega) w1), if_neg (show ¬ nI w = 2 from nI_e (b := 2) (by omega) (by omega) w2)]
        by_cases w3 : w = 3
        · subst w3
          rw [if_pos (by decide), if_pos rfl]
          by_cases i0 : i = 0
          · subst i0
            rw [if_neg (by decide), if_pos rfl, c_isWithin]
            simp only [Option.bind_some]
            rw [q_bi01]; rfl
          · rw [if_pos (show ¬ nI i = 0 from nI_e (b := 0) (by omega) (by omega) i0), if_neg i0]
            by_cases i1 : i = 1
            · subst i1
              rw [if_pos (by decide), if_pos rfl]; rfl
            · rw [if_neg (show ¬ nI i = 1 from nI_e (b := 1) (by omega) (by omega) i1), if_neg i1, c_isWithin]
              simp only [Option.bind_some]
              cases g_in v 1 20 <;> rfl
        · rw [if_neg (show ¬ nI w = 3 from nI_e (b := 3) (by omega) (by omega) w3), if_neg w3]; rfl
/-- what the reference knows of the text -/
def x_sm (h : q_H) (T : Nat → Int32) (n : Nat) : Prop := (∀ i, i < 700 → g_by (T i) (h.1 38 0 7 i)) ∧ h.1 30 21 7 0 = nI n ∧ (∀ k, k < 14 → h.2 39 0 7 k = Int64.ofNat (x_W.getD k 0)) ∧ ∀ k, k < 14 → h.1 40 0 7 k = nI (x_nb k)
/-- the token at p has been read -/
def x_rd (h : q_H) (T : Nat → Int32) (n p : Nat) : Prop := h.1 30 17 7 0 = nI (x_sk T n p) ∧ h.1 30 19 7 0 = nI (x_kd T n (x_sk T n p)) ∧ (x_kd T n (x_sk T n p) = 1 ∨ x_kd T n (x_sk T n p) = 2 ∨ x_kd T n (x_sk T n p) = 3 → h.1 30 18 7 0 = nI (x_en T n (x_sk T n p))) ∧ (x_kd T n (x_sk T n p) = 2 → h.1 30 20 7 0 = x_nm T (x_sk T n p) (x_dg T n (x_sk T n p))) ∧ (x_kd T n (x_sk T n p) = 1 → h.2 30 22 7 0 = x_ha T (x_sk T n p) (x_lt T n (x_sk T n p)))
def x_tn (H H' : q_H) : Prop := (∀ t f k i, ¬ (t = 25 ∧ k = 6 ∧ ((3 ≤ f ∧ f ≤ 6) ∨ f = 15 ∨ f = 16)) → ¬ (t = 27 ∧ k = 6) → H'.1 t f k i = H.1 t f k i) ∧ H'.2 = H.2
theorem x_tn_tr {H H' H'' : q_H} (a : x_tn H H') (b : x_tn H' H'') : x_tn H H'' := ⟨fun t f k i n m => (b.1 t f k i n m).trans (a.1 t f k i n m), b.2.trans a.2⟩
theorem g_tf_n {H H' : q_H} (a : g_tf H H') : x_tn H H' := ⟨fun t f k i n _ => a.1 t f k i (fun q => n ⟨q.1, q.2.1, Or.inl q.2.2⟩), a.2⟩
theorem x_tn_25 {H : q_H} {f : Nat} {v : Int32} (h : f = 15 ∨ f = 16) : x_tn H (q_si H 25 f 6 0 v) := ⟨fun t g k j n _ => g_rd_o (fun q => n ⟨q.1, by omega⟩), rfl⟩
theorem x_tn_27 {H : q_H} {i : Nat} {v : Int32} : x_tn H (q_si H 27 0 6 i v) := ⟨fun t g k j _ m => g_rd_o (fun q => m ⟨q.1, q.2.2.1⟩), rfl⟩
theorem x_tn_rf {H : q_H} : x_tn H H := ⟨fun _ _ _ _ _ _ => rfl, rfl⟩
theorem x_tn_T {H H' : q_H} (a : x_tn H H') : g_T H' = g_T H := by funext i; exact a.1 26 0 6 i (by omega) (by omega)
def g_tq (h h' : q_H) : Prop := (∀ t f k i, ¬ (t = 30 ∧ k = 7 ∧ 15 ≤ f ∧ f ≤ 20) → ¬ (t = 41 ∧ k = 7) → h'.1 t f k i = h.1 t f k i) ∧ ∀ t f k i, ¬ (t = 30 ∧ k = 7 ∧ f = 22) → h'.2 t f k i = h.2 t f k i
theorem g_tq_tr {H H' H'' : q_H} (a : g_tq H H') (b : g_tq H' H'') : g_tq H H'' := ⟨fun t f k i n m => (b.1 t f k i n m).trans (a.1 t f k i n m), fun t f k i n => (b.2 t f k i n).trans (a.2 t f k i n)⟩
theorem g_tm_q {H H' : q_H} (a : g_tm H H') : g_tq H H' := ⟨fun t f k i n _ => a.1 t f k i (fun q => n ⟨q.1, by omega⟩), a.2⟩
theorem g_tq_30 {H : q_H} {f : Nat} {v : Int32} (h : f = 15 ∨ f = 16) : g_tq H (q_si H 30 f 7 0 v) := ⟨fun t g k j n _ => g_rd_o (fun q => n ⟨q.1, by omega⟩), fun _ _ _ _ _ => rfl⟩
theorem g_tq_41 {H : q_H} {i : Nat} {v : Int32} : g_tq H (q_si H 41 0 7 i v) := ⟨fun t g k j _ m => g_rd_o (fun q => m ⟨q.1, q.2.2.1⟩), fun _ _ _ _ _ => rfl⟩
theorem g_tq_rf {H : q_H} : g_tq H H := ⟨fun _ _ _ _ _ _ => rfl, fun _ _ _ _ _ => rfl⟩
theorem x_sm_q {h h' : q_H} {T : Nat → Int32} {n : Nat} (a : g_tq h h') (s : x_sm h T n) : x_sm h' T n :=
  ⟨fun i hi => by rw [a.1 38 0 7 i (by omega) (by omega)]; exact s.1 i hi, by rw [a.1 30 21 7 0 (by omega) (by omega)]; exact s.2.1, fun k hk => by rw [a.2 39 0 7 k (by omega)]; exact s.2.2.1 k hk, fun k hk => by rw [a.1 40 0 7 k (by omega) (by omega)]; exact s.2.2.2 k hk⟩
theorem m_must1 {a b : Int32} {h : q_H} : Mo_must 1 a b h = some h := rfl
def x_ft (k : Nat) : Nat := if k = 4 then 1 else 2
theorem m_must0 {f k : Nat} {b : Int32} {h : q_H} (hf : f < 10) (h0 : h.1 30 15 7 0 = 0) (hk : k ≤ 4) (hs : h.1 30 19 7 0 = nI k) : Mo_must 0 (nI f) b h = some (q_si (q_si h 30 15 7 0 (nI (if f = 2 then x_ft k else f))) 30 16 7 0 b) := by
  unfold Mo_must x_ft
  rw [if_neg (fun q => q rfl), h0, if_pos (Int32.le_refl 0), hs]
  by_cases c : f = 2
  · subst c
    rw [if_neg (fun q => q rfl), if_pos rfl]
    by_cases d : k = 4
    · subst d
      rw [if_neg (fun q => q rfl), if_pos rfl]; rfl
    · rw [if_pos (show ¬ nI k = 4 from nI_e (b := 4) (by omega) (by omega) d), if_neg d]
  · rw [if_pos (show ¬ nI f = 2 from nI_e (b := 2) (by omega) (by omega) c), if_neg c]
theorem m_mustW {a b c : Int32} {h : q_H} (h0 : ¬ h.1 30 15 7 0 ≤ 0) : Mo_must a b c h = some h := by
  unfold Mo_must
  by_cases d : a = 0
  · rw [if_neg (fun q => q d), if_neg h0]
  · rw [if_pos d]
theorem x_kd_4 {T : Nat → Int32} {n q : Nat} : x_kd T n q ≤ 4 := by
  unfold x_kd
  repeat' split
  all_goals omega
theorem c_readKind {H : q_H} {n p w : Nat} (hn : n ≤ 700) (hl : H.1 25 2 6 0 = nI n) (hp : p ≤ n) (ha : H.1 25 3 6 0 = nI p) (hw : w ≤ 4) : ∃ H', Tx_readKind (nI w) H = some (q_bi (decide (x_kd (g_T H) n (x_sk (g_T H) n p) = w)), H') ∧ x_tn H H' ∧ H'.1 25 3 6 0 = nI (x_en (g_T H) n (x_sk (g_T H) n p)) ∧ H'.1 25 5 6 0 = nI (x_sk (g_T H) n p) ∧ (∀ i, H'.1 27 0 6 i = H.1 27 0 6 i) ∧ (x_kd (g_T H) n (x_sk (g_T H) n p) = w → g_tf H H' ∧ (w = 2 → H'.1 25 6 6 0 = x_nm (g_T H) (x_sk (g_T H) n p) (x_dg (g_T H) n (x_sk (g_T H) n p)))) ∧ (¬ x_kd (g_T H) n (x_sk (g_T H) n p) = w → H'.1 25 15 6 0 = nI (x_ft (x_kd (g_T H) n (x_sk (g_T H) n p))) ∧ H'.1 25 16 6 0 = nI (x_sk (g_T H) n p)) := by
  obtain ⟨H1, e, f, k3, k4, k5, k6⟩ := c_readToken hn hl hp ha
  have k4' := x_kd_4 (T := g_T H) (n := n) (q := x_sk (g_T H) n p)
  unfold Tx_readKind
  rw [e]
  simp only [Option.bind_some]
  unfold Tx_isGood
  rw [k4, k5]
  by_cases c : x_kd (g_T H) n (x_sk (g_T H) n p) = w
  · rw [if_neg (fun q => q (by rw [c])), decide_eq_true c]
    exact ⟨H1, rfl, g_tf_n f, k3, k5, fun i => f.1 _ _ _ _ (by omega), fun _ => ⟨f, fun q => k6 (by omega)⟩, fun q => absurd c q⟩
  · rw [if_pos (fun q => c ((nI_eq (by omega) (by omega)).mp q)), decide_eq_false c]
    unfold Tx_blame x_ft
    have fin : ∀ v : Int32, x_tn H (q_si (q_si H1 25 15 6 0 v) 25 16 6 0 (nI (x_sk (g_T H) n p))) ∧ (q_si (q_si H1 25 15 6 0 v) 25 16 6 0 (nI (x_sk (g_T H) n p))).1 25 3 6 0 = nI (x_en (g_T H) n (x_sk (g_T H) n p)) ∧ (q_si (q_si H1 25 15 6 0 v) 25 16 6 0 (nI (x_sk (g_T H) n p))).1 25 5 6 0 = nI (x_sk (g_T H) n p) ∧ (∀ i, (q_si (q_si H1 25 15 6 0 v) 25 16 6 0 (nI (x_sk (g_T H) n p))).1 27 0 6 i = H.1 27 0 6 i) := fun v => ⟨x_tn_tr (x_tn_tr (g_tf_n f) (x_tn_25 (by omega))) (x_tn_25 (by omega)), by rw [g_rd_o (by omega), g_rd_o (by omega)]; exact k3, by rw [g_rd_o (by omega), g_rd_o (by omega)]; exact k5, fun i => by rw [g_rd_o (by omega), g_rd_o (by omega)]; exact f.1 _ _ _ _ (by omega)⟩
    by_cases d : x_kd (g_T H) n (x_sk (g_T H) n p) = 4
    · rw [if_neg (fun q => q (by rw [d]; rfl)), if_pos d]
      obtain ⟨a1, a2, a3, a4⟩ := fin 1
      exact ⟨_, rfl, a1, a2, a3, a4, fun q => absurd q c, fun _ => ⟨by rw [g_rd_o (by omega), g_rd_e]; rfl, g_rd_e⟩⟩
    · rw [if_pos (show ¬ nI (x_kd (g_T H) n (x_sk (g_T H) n p)) = 4 from nI_e (b := 4) (by omega) (by omega) d), if_neg d]
      obtain ⟨a1, a2, a3, a4⟩ := fin 2
      exact ⟨_, rfl, a1, a2, a3, a4, fun q => absurd q c, fun _ => ⟨by rw [g_rd_o (by omega), g_rd_e]; rfl, g_rd_e⟩⟩
