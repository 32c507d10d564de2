/-! a store is copied -/
theorem g_rdn {h : q_H} {t f k i t' f' k' i' : Nat} {v : Int32} (hk : k' ≠ k) : (q_si h t f k i v).1 t' f' k' i' = h.1 t' f' k' i' := by
  unfold q_si
  dsimp only
  rw [if_neg (fun q => hk q.2.2.1)]
theorem g_rdn2 {h : q_H} {t f k i : Nat} {v : Int32} : (q_si h t f k i v).2 = h.2 := rfl
def g_pcp (D T : g_S) (t n : Nat) : g_S := (fun a b c => if a = t ∧ b = 0 ∧ c < n then T.1 t 0 c else D.1 a b c, D.2)
def g_lcp (D T : g_S) (t n : Nat) : g_S := (D.1, fun a b c => if a = t ∧ b = 0 ∧ c < n then T.2 t 0 c else D.2 a b c)
theorem c_acp {H : q_H} {k k1 t n : Nat} : q_acp t k1 t k n H = g_cw H k (g_pcp (g_st H k) (g_st H k1) t n) := by
  unfold q_acp g_cw g_pcp g_st
  refine Prod.ext ?_ ?_
  · funext a b c d
    dsimp only
    by_cases e : c = k
    · subst e
      rw [if_pos rfl]
      by_cases z : a = t ∧ b = 0 ∧ d < n
      · rw [if_pos z, if_pos ⟨z.1, z.2.1, rfl, z.2.2⟩]
      · rw [if_neg z, if_neg (fun q => z ⟨q.1, q.2.1, q.2.2.2⟩)]
    · rw [if_neg e, if_neg (fun q => e q.2.2.1)]
  · funext a b c d
    dsimp only
    by_cases e : c = k
    · rw [if_pos e, e]
    · rw [if_neg e]
theorem c_acl {H : q_H} {k k1 t n : Nat} : q_acl t k1 t k n H = g_cw H k (g_lcp (g_st H k) (g_st H k1) t n) := by
  unfold q_acl g_cw g_lcp g_st
  refine Prod.ext ?_ ?_
  · funext a b c d
    dsimp only
    by_cases e : c = k
    · rw [if_pos e, e]
    · rw [if_neg e]
  · funext a b c d
    dsimp only
    by_cases e : c = k
    · subst e
      rw [if_pos rfl]
      by_cases z : a = t ∧ b = 0 ∧ d < n
      · rw [if_pos z, if_pos ⟨z.1, z.2.1, rfl, z.2.2⟩]
      · rw [if_neg z, if_neg (fun q => z ⟨q.1, q.2.1, q.2.2.2⟩)]
    · rw [if_neg e, if_neg (fun q => e q.2.2.1)]
theorem c_copy {H : q_H} {k k1 t n : Nat} (h0 : q_at t = 0) (h1 : q_al t = n) (hn : n < 2000) : Rp_copy t k1 t k H = some (g_cw H k (g_pcp (g_st H k) (g_st H k1) t n)) := by
  unfold Rp_copy
  rw [h0, h1]
  have e : (if Int32.ofNat n < Int32.ofNat n then Int32.ofNat n else Int32.ofNat n) = nI n := by
    split <;> rfl
  rw [e, g_cl (by omega), show (!Nat.beq 0 9) = true from rfl, decide_eq_true (nI_pos' (n := n) (by omega)), Nat.ble_eq_true_of_le (Nat.le_refl n)]
  show some (q_acp t k1 t k n H) = _
  rw [c_acp]
def g_slc (D T : g_S) (i : Nat) : g_S := (fun a b c => if a = 3 ∧ b < 12 ∧ c < i then T.1 3 b c else D.1 a b c, D.2)
theorem c_slc {H : q_H} {k k1 i : Nat} {D : g_S} (hk : k1 ≠ k) (h10 : q_01 (H.1 3 10 k1 i) = true) (h11 : q_01 (H.1 3 11 k1 i) = true) : Sl_copyFrom k i k1 i (g_cw H k (g_slc D (g_st H k1) i)) = some (g_cw H k (g_slc D (g_st H k1) (i + 1))) := by
  unfold Sl_copyFrom
  simp only [Option.bind_some, g_rdn hk, g_cw_rn hk, h10, h11, cond_true]
  congr 1
  rw [g_cw_si, g_cw_si, g_cw_si, g_cw_si, g_cw_si, g_cw_si, g_cw_si, g_cw_si, g_cw_si, g_cw_si, g_cw_si, g_cw_si]
  congr 1
  refine Prod.ext ?_ rfl
  funext a b c
  unfold g_su g_slc g_st
  dsimp only
  by_cases e : a = 3 ∧ c = i
  · obtain ⟨rfl, rfl⟩ := e
    by_cases hb : b < 12
    · have : b = 0 ∨ b = 1 ∨ b = 2 ∨ b = 3 ∨ b = 4 ∨ b = 5 ∨ b = 6 ∨ b = 7 ∨ b = 8 ∨ b = 9 ∨ b = 10 ∨ b = 11 := by omega
      rcases this with rfl | rfl | rfl | rfl | rfl | rfl | rfl | rfl | rfl | rfl | rfl | rfl <;> simp
    · rw [if_neg (by omega), if_neg (by omega), if_neg (by omega), if_neg (by omega), if_neg (by omega), if_neg (by omega), if_neg (by omega), if_neg (by omega), if_neg (by omega), if_neg (by omega), if_neg (by omega), if_neg (by omega), if_neg (by omega), if_neg (by omega)]
  · rw [if_neg (fun q => e ⟨q.1, q.2.2⟩), if_neg (fun q => e ⟨q.1, q.2.2⟩), if_neg (fun q => e ⟨q.1, q.2.2⟩), if_neg (fun q => e ⟨q.1, q.2.2⟩), if_neg (fun q => e ⟨q.1, q.2.2⟩), if_neg (fun q => e ⟨q.1, q.2.2⟩), if_neg (fun q => e ⟨q.1, q.2.2⟩), if_neg (fun q => e ⟨q.1, q.2.2⟩), if_neg (fun q => e ⟨q.1, q.2.2⟩), if_neg (fun q => e ⟨q.1, q.2.2⟩), if_neg (fun q => e ⟨q.1, q.2.2⟩), if_neg (fun q => e ⟨q.1, q.2.2⟩)]
    by_cases z : a = 3 ∧ b < 12 ∧ c < i
    · rw [if_pos z, if_pos (by omega)]
    · rw [if_neg z, if_neg (by omega)]
def g_cp1 (D T : g_S) : g_S := g_su (g_pcp (g_pcp (g_slc D T 60) T 4 6) T 5 6) 1 4 0 (T.1 1 4 0)
def g_cp2 (D T : g_S) : g_S := g_su (g_su (g_lcp (g_pcp (g_pcp (g_pcp D T 7 61) T 8 61) T 9 61) T 10 61) 6 4 0 (T.1 6 4 0)) 6 5 0 (T.1 6 5 0)
def g_cp3 (D T : g_S) : g_S := g_su (g_pcp (g_pcp (g_pcp D T 12 60) T 13 60) T 14 60) 11 3 0 (T.1 11 3 0)
def g_cp4 (D T : g_S) : g_S := g_su (g_pcp (g_pcp (g_pcp D T 16 24) T 17 24) T 18 8) 15 3 0 (T.1 15 3 0)
def g_cp5 (D T : g_S) : g_S := g_su (g_pcp (g_pcp (g_pcp (g_pcp D T 20 60) T 21 60) T 22 60) T 23 60) 19 4 0 (T.1 19 4 0)
def g_cp6 (D T : g_S) : g_S := g_su (g_su (g_su (g_su D 0 5 0 (T.1 0 5 0)) 0 6 0 (T.1 0 6 0)) 0 7 0 (T.1 0 7 0)) 0 8 0 (T.1 0 8 0)
def g_cpS (D T : g_S) : g_S := g_cp6 (g_cp5 (g_cp4 (g_cp3 (g_cp2 (g_cp1 D T) T) T) T) T) T
section g_C
variable {H : q_H} {k k1 : Nat}
theorem c_cp1 (hk : k1 ≠ k) (h01 : ∀ i, i < 60 → q_01 (H.1 3 10 k1 i) = true ∧ q_01 (H.1 3 11 k1 i) = true) : Pg_copyFrom k k1 H = some (g_cw H k (g_cp1 (g_st H k) (g_st H k1))) := by
  unfold Pg_copyFrom
  refine g_bs ?_
  refine g_lp (fun i => (nI i, g_cw H k (g_slc (g_st H k) (g_st H k1) i))) _ 60 (fun i hi => ?_) ?_ q_fu (by decide) |> fun q => (by
    have e : (((0 : Int32), H) : Int32 × q_H) = (nI 0, g_cw H k (g_slc (g_st H k) (g_st H k1) 0)) := by
      have : g_slc (g_st H k) (g_st H k1) 0 = g_st H k := by
        refine Prod.ext ?_ rfl
        funext a b c
        unfold g_slc
        dsimp only
        rw [if_neg (by omega)]
      rw [this, g_cw_st]; rfl
    rw [e]; exact q)
  · dsimp only
    rw [if_neg (show ¬ (60 : Int32) ≤ nI i from nI_ge (b := 60) hi (by decide)), c_at hi]
    simp only [Option.bind_some]
    rw [c_at hi]
    simp only [Option.bind_some]
    rw [c_slc hk (h01 i hi).1 (h01 i hi).2, nI_1]
    rfl
  · dsimp only
    rw [if_pos (show (60 : Int32) ≤ nI 60 by decide), c_copy (n := 6) rfl rfl (by decide), g_st_cw, g_st_cn hk, g_cw_cw]
    simp only [Option.bind_some]
    rw [c_copy (n := 6) rfl rfl (by decide), g_st_cw, g_st_cn hk, g_cw_cw]
    simp only [Option.bind_some]
    rw [g_cw_rn hk, g_cw_si]
    rfl
theorem c_cp2 (hk : k1 ≠ k) : Tn_copyFrom k k1 H = some (g_cw H k (g_cp2 (g_st H k) (g_st H k1))) := by
  unfold Tn_copyFrom
  rw [c_copy (n := 61) rfl rfl (by decide)]
  simp only [Option.bind_some]
  rw [c_copy (n := 61) rfl rfl (by decide), g_st_cw, g_st_cn hk, g_cw_cw]
  simp only [Option.bind_some]
  rw [c_copy (n := 61) rfl rfl (by decide), g_st_cw, g_st_cn hk, g_cw_cw]
  simp only [Option.bind_some]
  have e : (if (61 : Int32) < (61 : Int32) then (61 : Int32) else (61 : Int32)) = nI 61 := by decide
  rw [e, show (decide ((0 : Int32) ≤ nI 61) && (Nat.ble (nI 61).toNatClampNeg 61 && Nat.ble (nI 61).toNatClampNeg 61)) = true by decide, g_cl (by decide)]
  simp only [cond_true]
  rw [c_acl, g_st_cw, g_st_cn hk, g_cw_cw]
  rw [g_cw_rn hk, g_cw_si, g_cw_rn hk, g_cw_si]
  rfl
theorem c_cp3 (hk : k1 ≠ k) : Ix_copyFrom k k1 H = some (g_cw H k (g_cp3 (g_st H k) (g_st H k1))) := by
  unfold Ix_copyFrom
  rw [c_copy (n := 60) rfl rfl (by decide)]
  simp only [Option.bind_some]
  rw [c_copy (n := 60) rfl rfl (by decide), g_st_cw, g_st_cn hk, g_cw_cw]
  simp only [Option.bind_some]
  rw [c_copy (n := 60) rfl rfl (by decide), g_st_cw, g_st_cn hk, g_cw_cw]
  simp only [Option.bind_some]
  rw [g_cw_rn hk, g_cw_si]
  rfl
theorem c_cp4 (hk : k1 ≠ k) : Lg_copyFrom k k1 H = some (g_cw H k (g_cp4 (g_st H k) (g_st H k1))) := by
  unfold Lg_copyFrom
  rw [c_copy (n := 24) rfl rfl (by decide)]
  simp only [Option.bind_some]
  rw [c_copy (n := 24) rfl rfl (by decide), g_st_cw, g_st_cn hk, g_cw_cw]
  simp only [Option.bind_some]
  rw [c_copy (n := 8) rfl rfl (by decide), g_st_cw, g_st_cn hk, g_cw_cw]
  simp only [Option.bind_some]
  rw [g_cw_rn hk, g_cw_si]
  rfl
theorem c_cp5 (hk : k1 ≠ k) : Fo_copyFrom k k1 H = some (g_cw H k (g_cp5 (g_st H k) (g_st H k1))) := by
  unfold Fo_copyFrom
  rw [c_copy (n := 60) rfl rfl (by decide)]
  simp only [Option.bind_some]
  rw [c_copy (n := 60) rfl rfl (by decide), g_st_cw, g_st_cn hk, g_cw_cw]
  simp only [Option.bind_some]
  rw [c_copy (n := 60) rfl rfl (by decide), g_st_cw, g_st_cn hk, g_cw_cw]
  simp only [Option.bind_some]
  rw [c_copy (n := 60) rfl rfl (by decide), g_st_cw, g_st_cn hk, g_cw_cw]
  simp only [Option.bind_some]
  rw [g_cw_rn hk, g_cw_si]
  rfl
theorem c_copyFrom (hk : k1 ≠ k) (h01 : ∀ i, i < 60 → q_01 (H.1 3 10 k1 i) = true ∧ q_01 (H.1 3 11 k1 i) = true) : St_copyFrom k k1 H = some (g_cw H k (g_cpS (g_st H k) (g_st H k1))) := by
  unfold St_copyFrom
  rw [c_cp1 hk h01]
  simp only [Option.bind_some]
  rw [c_cp2 hk, g_st_cw, g_st_cn hk, g_cw_cw]
  simp only [Option.bind_some]
  rw [c_cp3 hk, g_st_cw, g_st_cn hk, g_cw_cw]
  simp only [Option.bind_some]
  rw [c_cp4 hk, g_st_cw, g_st_cn hk, g_cw_cw]
  simp only [Option.bind_some]
  rw [c_cp5 hk, g_st_cw, g_st_cn hk, g_cw_cw]
  simp only [Option.bind_some, g_rdn hk, g_cw_rn hk]
  rw [g_cw_si, g_cw_si, g_cw_si, g_cw_si]
  rfl
end g_C
/-- what a copy has -/
theorem g_cpS_r {D T : g_S} : (∀ f i, f < 12 → i < 60 → (g_cpS D T).1 3 f i = T.1 3 f i) ∧ (∀ f, (g_cpS D T).1 3 f 60 = D.1 3 f 60) ∧ (∀ i, i < 6 → (g_cpS D T).1 4 0 i = T.1 4 0 i ∧ (g_cpS D T).1 5 0 i = T.1 5 0 i) ∧ (g_cpS D T).1 1 4 0 = T.1 1 4 0 ∧
    (∀ i, i < 61 → (g_cpS D T).1 7 0 i = T.1 7 0 i ∧ (g_cpS D T).1 8 0 i = T.1 8 0 i ∧ (g_cpS D T).1 9 0 i = T.1 9 0 i ∧ (g_cpS D T).2 10 0 i = T.2 10 0 i) ∧ (g_cpS D T).1 6 4 0 = T.1 6 4 0 ∧ (g_cpS D T).1 6 5 0 = T.1 6 5 0 ∧
    (∀ i, i < 60 → (g_cpS D T).1 12 0 i = T.1 12 0 i ∧ (g_cpS D T).1 13 0 i = T.1 13 0 i ∧ (g_cpS D T).1 14 0 i = T.1 14 0 i) ∧ (g_cpS D T).1 11 3 0 = T.1 11 3 0 ∧
    (∀ i, i < 24 → (g_cpS D T).1 16 0 i = T.1 16 0 i ∧ (g_cpS D T).1 17 0 i = T.1 17 0 i) ∧ (∀ i, i < 8 → (g_cpS D T).1 18 0 i = T.1 18 0 i) ∧ (g_cpS D T).1 15 3 0 = T.1 15 3 0 ∧
    (∀ i, i < 60 → (g_cpS D T).1 20 0 i = T.1 20 0 i ∧ (g_cpS D T).1 21 0 i = T.1 21 0 i ∧ (g_cpS D T).1 22 0 i = T.1 22 0 i ∧ (g_cpS D T).1 23 0 i = T.1 23 0 i) ∧ (g_cpS D T).1 19 4 0 = T.1 19 4 0 ∧
    (g_cpS D T).1 0 5 0 = T.1 0 5 0 ∧ (g_cpS D T).1 0 6 0 = T.1 0 6 0 ∧ (g_cpS D T).1 0 7 0 = T.1 0 7 0 ∧ (g_cpS D T).1 0 8 0 = T.1 0 8 0 := by
  unfold g_cpS g_cp6 g_cp5 g_cp4 g_cp3 g_cp2 g_cp1 g_su g_pcp g_lcp g_slc
  dsimp only
  refine ⟨fun f i hf hi => ?_, fun f => ?_, fun i hi => ⟨?_, ?_⟩, ?_, fun i hi => ⟨?_, ?_, ?_, ?_⟩, ?_, ?_, fun i hi => ⟨?_, ?_, ?_⟩, ?_, fun i hi => ⟨?_, ?_⟩, fun i hi => ?_, ?_, fun i hi => ⟨?_, ?_, ?_, ?_⟩, ?_, ?_, ?_, ?_, ?_⟩
  · simp [hf, hi]
  all_goals simp
  all_goals (intro z; omega)
theorem g_R_cp {b : Nat} {D T : g_S} {A : g_A} (hR : g_R b T A) (hn : r_n D) (hW : g_W A) : g_R b (g_cpS D T) A := by
  obtain ⟨rg, rt, rh, rp, rn, ri, rl, rf, rm⟩ := hR
  obtain ⟨c3, c60, c4, c1, c7, c64, c65, c12, c11, c16, c18, c15, c20, c19, c05, c06, c07, c08⟩ := g_cpS_r (D := D) (T := T)
  obtain ⟨hI, hX, wg, ww, wr, wb, wd, wI⟩ := hW
  have n61 := hI.1.2.2
  refine ⟨⟨by rw [c1]; exact rg.1, by rw [c05]; exact rg.2.1, by rw [c06]; exact rg.2.2.1, by rw [c07]; exact rg.2.2.2⟩, ⟨by rw [c64]; exact rt.1, fun t h1 h2 => ?_⟩, by unfold r_h; rw [c65]; exact rh, fun p hp => ⟨by rw [(c4 p hp).1]; exact (rp p hp).1, by rw [(c4 p hp).2]; exact (rp p hp).2.1, fun j hj => ?_⟩, ?_, ⟨by rw [c11]; exact ri.1, fun i hi => ?_⟩, ⟨by rw [c15]; exact rl.1, fun i hi => ?_, fun j hj => by rw [c18 j hj]; exact rl.2.2 j hj⟩, ⟨by rw [c19]; exact rf.1, fun i hi => ?_⟩, ?_⟩
  · obtain ⟨q7, q8, q9, q10⟩ := c7 t (by omega)
    rw [q7, q8, q9, q10]; exact rt.2 t h1 h2
  · have hs := (rp p hp).2.2 j hj
    have hx : 10 * p + j < 60 := by omega
    unfold r_s at hs ⊢
    rw [c3 0 _ (by omega) hx, c3 1 _ (by omega) hx, c3 2 _ (by omega) hx, c3 3 _ (by omega) hx, c3 4 _ (by omega) hx, c3 5 _ (by omega) hx, c3 6 _ (by omega) hx, c3 7 _ (by omega) hx, c3 8 _ (by omega) hx, c3 10 _ (by omega) hx, c3 11 _ (by omega) hx]
    exact hs
  · unfold r_n
    simp only [c60]
    exact hn
  · obtain ⟨q1, q2, q3⟩ := c12 i (by have := hX.1.2.1; omega)
    rw [q1, q2, q3]; exact ri.2 i hi
  · obtain ⟨q1, q2⟩ := c16 i (by have := wg.2; omega)
    rw [q1, q2]; exact rl.2.1 i hi
  · obtain ⟨q1, q2, q3, q4⟩ := c20 i (by have := wd.2.1; omega)
    rw [q1, q2, q3, q4]; exact rf.2 i hi
  · obtain ⟨⟨x, y, h1, h2, h3, h4, h5⟩, h6⟩ := rm
    have cm : ∀ s, s < 60 → g_cm (g_cpS D T) s = g_cm T s := fun s hs => by unfold g_cm; rw [c3 9 s (by omega) hs]
    refine ⟨⟨x, y, by rw [c08]; exact h1, h2, h3, h4, fun s hs f => ?_⟩, fun s s' hs hs' f f' => ?_⟩
    · rw [cm s hs, c3 9 s (by omega) hs]; exact h5 s hs f
    · rw [cm s hs, cm s' hs']; exact h6 s s' hs hs' f f'
/-- the boolean cells of a store -/
theorem g_R_01 {b : Nat} {H : q_H} {k : Nat} {A : g_A} (hR : g_R b (g_st H k) A) (hv : g_wv A) : ∀ i, i < 60 → q_01 (H.1 3 10 k i) = true ∧ q_01 (H.1 3 11 k i) = true := by
  intro i hi
  have hs := r_ps hR.2.2.2.1 hi
  cases f : g_fu A i with
  | true =>
    obtain ⟨s0, s1, s2, s3, s4, s5, s6, s7, s8, s10, s11⟩ := hs.1 f
    rw [show H.1 3 10 k i = _ from s10, show H.1 3 11 k i = _ from s11]
    have := hv i hi f
    refine ⟨?_, ?_⟩
    · rcases this.2.2.2.2.1 with q | q <;> rw [q] <;> rfl
    · rcases this.2.2.2.2.2 with q | q <;> rw [q] <;> rfl
  | false =>
    obtain ⟨s0, s1, s2, s3, s4, s5, s6, s7, s8, s10, s11⟩ := hs.2 f
    rw [show H.1 3 10 k i = _ from s10, show H.1 3 11 k i = _ from s11]
    exact ⟨rfl, rfl⟩
