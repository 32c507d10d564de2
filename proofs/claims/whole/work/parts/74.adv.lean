/-! a version comes into a slot of a store; one is ended -/
section g_FIL
variable {A : g_A} {s : Nat} {row key val size maker light : Int32}
theorem g_fil_o {g i w : Nat} (h1 : ¬ (g = 1 ∧ i = s)) (h0 : ¬ (g = 0 ∧ (i = 8 ∨ i = 11 ∨ i = 17 + s / 10 ∨ i = 23 + s / 10))) : g_fil A s row key val size maker light g i w = A g i w := by
  unfold g_fil
  rw [if_neg (fun q => h1 ⟨q.1, q.2.1⟩), if_neg (fun q => h0 ⟨q.1, Or.inl q.2.2⟩), if_neg (fun q => h0 ⟨q.1, Or.inr (Or.inr (Or.inr q.2.2))⟩), if_neg (fun q => h0 ⟨q.1, Or.inr (Or.inr (Or.inl q.2.2.1))⟩), if_neg (fun q => h0 ⟨q.1, Or.inr (Or.inl q.2.2.1)⟩)]
theorem g_fil_s {w : Nat} (hw : w < 13) : g_fil A s row key val size maker light 1 s w = g_fsl (A 0 8 0) row key val size maker light w := by
  unfold g_fil; rw [if_pos ⟨rfl, rfl, hw⟩]
theorem g_fil_8 : g_fil A s row key val size maker light 0 8 0 = A 0 8 0 + 1 := by
  unfold g_fil; rw [if_neg (by omega), if_pos ⟨rfl, rfl, rfl⟩]
theorem g_fil_c : g_fil A s row key val size maker light 0 (23 + s / 10) 0 = 0 := by
  unfold g_fil; rw [if_neg (by omega), if_neg (by omega), if_pos ⟨rfl, rfl, rfl⟩]
theorem g_fil_n (hs : s < 60) : g_fil A s row key val size maker light 0 (17 + s / 10) 0 = if s % 10 = g_ln A (s / 10) then A 0 (17 + s / 10) 0 + 1 else A 0 (17 + s / 10) 0 := by
  unfold g_fil
  rw [if_neg (by omega), if_neg (by omega), if_neg (by omega)]
  by_cases c : s % 10 = g_ln A (s / 10)
  · rw [if_pos ⟨rfl, rfl, rfl, c⟩, if_pos c]
  · rw [if_neg (fun q => c q.2.2.2), if_neg (by omega), if_neg c]
theorem g_fil_11 : g_fil A s row key val size maker light 0 11 0 = if s % 10 = g_ln A (s / 10) then A 0 11 0 else A 0 11 0 + 1 := by
  unfold g_fil
  rw [if_neg (by omega), if_neg (by omega), if_neg (by omega), if_neg (by omega)]
  by_cases c : s % 10 = g_ln A (s / 10)
  · rw [if_neg (fun q => q.2.2.2 c), if_pos c]
  · rw [if_pos ⟨rfl, rfl, rfl, c⟩, if_neg c]
theorem g_fil_wl (hs : s < 60) (hl : g_wl A) : g_wl (g_fil A s row key val size maker light) ∧ (∀ p, p < 6 → p ≠ s / 10 → g_ln (g_fil A s row key val size maker light) p = g_ln A p) ∧ g_ln (g_fil A s row key val size maker light) (s / 10) = (if s % 10 = g_ln A (s / 10) then g_ln A (s / 10) + 1 else g_ln A (s / 10)) := by
  have o : ∀ p, p < 6 → p ≠ s / 10 → g_ln (g_fil A s row key val size maker light) p = g_ln A p := fun p hp hn => by
    unfold g_ln; rw [g_fil_o (by omega) (by omega)]
  have e : g_fil A s row key val size maker light 0 (17 + s / 10) 0 = nI (if s % 10 = g_ln A (s / 10) then g_ln A (s / 10) + 1 else g_ln A (s / 10)) := by
    rw [g_fil_n hs, (hl (s / 10) (by omega)).1]
    by_cases c : s % 10 = g_ln A (s / 10)
    · rw [if_pos c, if_pos c, nI_1]
    · rw [if_neg c, if_neg c]
  have h10 := (hl (s / 10) (by omega)).2
  have e2 : g_ln (g_fil A s row key val size maker light) (s / 10) = (if s % 10 = g_ln A (s / 10) then g_ln A (s / 10) + 1 else g_ln A (s / 10)) := by
    show (g_fil A s row key val size maker light 0 (17 + s / 10) 0).toNatClampNeg = _
    rw [e, g_cl (by split <;> omega)]
  refine ⟨fun p hp => ?_, o, e2⟩
  by_cases c : p = s / 10
  · subst c
    rw [e2, e]
    refine ⟨rfl, ?_⟩
    split <;> omega
  · rw [o p hp c, g_fil_o (by omega) (by omega)]; exact hl p hp
theorem g_fil_iv (hs : s < 60) (hl : g_wl A) (hv : s % 10 ≤ g_ln A (s / 10)) : g_iv (g_fil A s row key val size maker light) s = true ∧ ∀ x, x < 60 → x ≠ s → g_iv (g_fil A s row key val size maker light) x = g_iv A x := by
  obtain ⟨_, o, e⟩ := g_fil_wl (row := row) (key := key) (val := val) (size := size) (maker := maker) (light := light) hs hl
  refine ⟨?_, fun x hx hn => ?_⟩
  · unfold g_iv
    rw [e]
    refine decide_eq_true ?_
    split <;> omega
  · unfold g_iv
    by_cases c : x / 10 = s / 10
    · rw [c, e]
      by_cases d : s % 10 = g_ln A (s / 10)
      · rw [if_pos d]
        congr 1
        exact propext ⟨fun q => by omega, fun q => by omega⟩
      · rw [if_neg d]
    · rw [o _ (by omega) c]
theorem g_fil_fu (hs : s < 60) (hl : g_wl A) (hv : s % 10 ≤ g_ln A (s / 10)) : g_fu (g_fil A s row key val size maker light) s = true ∧ ∀ x, x < 60 → x ≠ s → g_fu (g_fil A s row key val size maker light) x = g_fu A x := by
  obtain ⟨a, b⟩ := g_fil_iv (row := row) (key := key) (val := val) (size := size) (maker := maker) (light := light) hs hl hv
  refine ⟨g_fu_i a (by rw [g_fil_s (by omega)]; rfl), fun x hx hn => ?_⟩
  unfold g_fu
  rw [b x hx hn, g_fil_o (by omega) (by omega)]
end g_FIL
def g_aS1 (S : g_S) (s ln : Nat) : g_S := g_su (g_emp (if ln ≤ s % 10 then g_su S 4 0 (s / 10) (nI (s % 10) + 1) else S) s 1) 5 0 (s / 10) 0
def g_aS2 (S : g_S) (s ln : Nat) : g_S := if ln ≤ s % 10 then g_aS1 S s ln else g_su (g_aS1 S s ln) 18 0 2 (S.1 18 0 2 + 1)
def g_aS (S : g_S) (s ln : Nat) (row key val size maker light : Int32) : g_S := g_su (g_su (g_su (g_su (g_su (g_su (g_su (g_su (g_aS2 S s ln) 3 2 s row) 3 3 s key) 3 4 s val) 3 5 s size) 3 6 s maker) 3 10 s light) 3 9 s (S.1 0 8 0)) 0 8 0 (S.1 0 8 0 + 1)
theorem g_aS1_o {S : g_S} {s ln t f i : Nat} (h3 : ¬ (t = 3 ∧ i = s)) (h4 : ¬ (t = 4 ∧ i = s / 10)) (h5 : ¬ (t = 5 ∧ i = s / 10)) : (g_aS1 S s ln).1 t f i = S.1 t f i := by
  unfold g_aS1
  rw [g_su_t (fun q => h5 ⟨q.1, q.2.2⟩)]
  unfold g_emp
  dsimp only
  rw [if_neg (fun q => h3 ⟨q.1, q.2.1⟩)]
  split
  · exact g_su_t (fun q => h4 ⟨q.1, q.2.2⟩)
  · rfl
theorem g_aS_o {S : g_S} {s ln t f i : Nat} {row key val size maker light : Int32} (h3 : ¬ (t = 3 ∧ i = s)) (h4 : ¬ (t = 4 ∧ i = s / 10)) (h5 : ¬ (t = 5 ∧ i = s / 10)) (h18 : ¬ (t = 18 ∧ i = 2)) (h0 : ¬ (t = 0 ∧ f = 8)) : (g_aS S s ln row key val size maker light).1 t f i = S.1 t f i := by
  unfold g_aS
  rw [g_su_t (fun q => h0 ⟨q.1, q.2.1⟩), g_su_t (fun q => h3 ⟨q.1, q.2.2⟩), g_su_t (fun q => h3 ⟨q.1, q.2.2⟩), g_su_t (fun q => h3 ⟨q.1, q.2.2⟩), g_su_t (fun q => h3 ⟨q.1, q.2.2⟩), g_su_t (fun q => h3 ⟨q.1, q.2.2⟩), g_su_t (fun q => h3 ⟨q.1, q.2.2⟩), g_su_t (fun q => h3 ⟨q.1, q.2.2⟩)]
  unfold g_aS2
  split
  · exact g_aS1_o h3 h4 h5
  · rw [g_su_t (fun q => h18 ⟨q.1, q.2.2⟩)]; exact g_aS1_o h3 h4 h5
theorem g_aS_2 {S : g_S} {s ln : Nat} {row key val size maker light : Int32} : (g_aS S s ln row key val size maker light).2 = S.2 := by
  unfold g_aS g_aS2 g_aS1 g_su g_emp
  dsimp only
  split <;> rfl
theorem g_aS_s {S : g_S} {s ln : Nat} {row key val size maker light : Int32} :
    let T := g_aS S s ln row key val size maker light
    T.1 3 0 s = 1 ∧ T.1 3 1 s = -1 ∧ T.1 3 2 s = row ∧ T.1 3 3 s = key ∧ T.1 3 4 s = val ∧ T.1 3 5 s = size ∧ T.1 3 6 s = maker ∧ T.1 3 7 s = -1 ∧ T.1 3 8 s = -1 ∧ T.1 3 10 s = light ∧ T.1 3 11 s = 0 ∧ T.1 3 9 s = S.1 0 8 0 := by
  have e : ∀ f, (g_aS2 S s ln).1 3 f s = (g_emp (if ln ≤ s % 10 then g_su S 4 0 (s / 10) (nI (s % 10) + 1) else S) s 1).1 3 f s := fun f => by
    unfold g_aS2
    split
    · unfold g_aS1; rw [g_su_t (by omega)]; rename_i h; rw [if_pos h]
    · rw [g_su_t (by omega)]; unfold g_aS1; rw [g_su_t (by omega)]; rename_i h; rw [if_neg h]
  obtain ⟨m0, m1, m2, m3, m4, m5, m6, m7, m8, m10, m11⟩ := g_emp_s (S := if ln ≤ s % 10 then g_su S 4 0 (s / 10) (nI (s % 10) + 1) else S) (i := s) (v := 1)
  dsimp only
  unfold g_aS
  refine ⟨?_, ?_, ?_, ?_, ?_, ?_, ?_, ?_, ?_, ?_, ?_, ?_⟩
  · rw [g_su_t (by omega), g_su_t (by omega), g_su_t (by omega), g_su_t (by omega), g_su_t (by omega), g_su_t (by omega), g_su_t (by omega), g_su_t (by omega), e]; exact m0
  · rw [g_su_t (by omega), g_su_t (by omega), g_su_t (by omega), g_su_t (by omega), g_su_t (by omega), g_su_t (by omega), g_su_t (by omega), g_su_t (by omega), e]; exact m1
  · rw [g_su_t (by omega), g_su_t (by omega), g_su_t (by omega), g_su_t (by omega), g_su_t (by omega), g_su_t (by omega), g_su_t (by omega), g_su_e]
  · rw [g_su_t (by omega), g_su_t (by omega), g_su_t (by omega), g_su_t (by omega), g_su_t (by omega), g_su_t (by omega), g_su_e]
  · rw [g_su_t (by omega), g_su_t (by omega), g_su_t (by omega), g_su_t (by omega), g_su_t (by omega), g_su_e]
  · rw [g_su_t (by omega), g_su_t (by omega), g_su_t (by omega), g_su_t (by omega), g_su_e]
  · rw [g_su_t (by omega), g_su_t (by omega), g_su_t (by omega), g_su_e]
  · rw [g_su_t (by omega), g_su_t (by omega), g_su_t (by omega), g_su_t (by omega), g_su_t (by omega), g_su_t (by omega), g_su_t (by omega), g_su_t (by omega), e]; exact m7
  · rw [g_su_t (by omega), g_su_t (by omega), g_su_t (by omega), g_su_t (by omega), g_su_t (by omega), g_su_t (by omega), g_su_t (by omega), g_su_t (by omega), e]; exact m8
  · rw [g_su_t (by omega), g_su_t (by omega), g_su_e]
  · rw [g_su_t (by omega), g_su_t (by omega), g_su_t (by omega), g_su_t (by omega), g_su_t (by omega), g_su_t (by omega), g_su_t (by omega), g_su_t (by omega), e]; exact m11
  · rw [g_su_t (by omega), g_su_e]
theorem c_addV {H : q_H} {k s : Nat} {A : g_A} {row key val size maker light : Int32} (hs : s < 60) (hP : r_p (g_st H k) A (s / 10)) (hl : g_wl A) (hg : light = 0 ∨ light = 1) :
    St_addVersion k (nI s) row key val size maker light H = if ¬ light = 0 then some (g_cw H k (g_aS (g_st H k) s (g_ln A (s / 10)) row key val size maker light)) else ((Ix_add k key (nI s) (g_cw H k (g_aS (g_st H k) s (g_ln A (s / 10)) row key val size maker light))).bind fun x15 => some x15) := by
  have hp : s / 10 < 6 := by omega
  have h10 := (hl (s / 10) hp).2
  have q01 : q_01 light = true := by rcases hg with rfl | rfl <;> rfl
  have take : Pg_take k (nI s) H = some (if g_ln A (s / 10) ≤ s % 10 then 0 else 1, g_cw H k (g_aS1 (g_st H k) s (g_ln A (s / 10)))) := by
    unfold Pg_take g_aS1
    rw [c_pageOf hs, c_slotOf hs]
    simp only [Option.bind_some]
    rw [c_lengthOf hp hP hl]
    simp only [Option.bind_some]
    by_cases c : g_ln A (s / 10) ≤ s % 10
    · rw [if_pos (nI_le c (by omega)), if_pos c, if_pos c]
      simp only [Option.bind_some]
      rw [if_neg (fun q => q trivial), c_put (n := 6) rfl rfl hp (by decide)]
      simp only [Option.bind_some]
      rw [c_at hs]
      simp only [Option.bind_some]
      rw [c_empty, g_si_cw, g_st_cw, g_cw_cw]
      simp only [Option.bind_some]
      rw [c_setClear0 hp, g_st_cw, g_cw_cw]
      rfl
    · rw [if_neg (nI_ge (by omega) (by omega)), if_neg c, if_neg c]
      simp only [Option.bind_some]
      rw [if_pos (by decide), c_at hs]
      simp only [Option.bind_some]
      rw [c_empty]
      simp only [Option.bind_some]
      rw [c_setClear0 hp, g_st_cw, g_cw_cw]
      rfl
  unfold St_addVersion
  rw [take]
  simp only [Option.bind_some]
  have cnt' : (if (if g_ln A (s / 10) ≤ s % 10 then (0 : Int32) else 1) = 0 then (some (g_cw H k (g_aS1 (g_st H k) s (g_ln A (s / 10))))) else ((Lg_count k (2 : Int32) (1 : Int32) (g_cw H k (g_aS1 (g_st H k) s (g_ln A (s / 10))))).bind fun x7 => some (x7))) = some (g_cw H k (g_aS2 (g_st H k) s (g_ln A (s / 10)))) := by
    unfold g_aS2
    by_cases c : g_ln A (s / 10) ≤ s % 10
    · rw [if_pos c, if_pos c, if_pos rfl]
    · rw [if_neg c, if_neg c, if_neg (by decide), show (2 : Int32) = nI 2 from rfl, c_count (by omega), g_st_cw, g_cw_cw, g_cw_rd, g_aS1_o (by omega) (by omega) (by omega)]
      rfl
  rw [cnt']
  simp only [Option.bind_some]
  rw [c_at hs]
  simp only [Option.bind_some]
  rw [q01]
  simp only [cond_true]
  have m8 : (g_aS2 (g_st H k) s (g_ln A (s / 10))).1 0 8 0 = (g_st H k).1 0 8 0 := by
    unfold g_aS2
    split
    · exact g_aS1_o (by omega) (by omega) (by omega)
    · rw [g_su_t (by omega)]; exact g_aS1_o (by omega) (by omega) (by omega)
  have e8 : ∀ T : g_S, T.1 0 8 0 = (g_st H k).1 0 8 0 → True := fun _ _ => trivial
  rw [g_cw_si, g_cw_si, g_cw_si, g_cw_si, g_cw_si, g_cw_si, g_cw_rd, g_cw_si, g_cw_rd, g_cw_si]
  rw [g_su_t (t' := 0) (by omega), g_su_t (t' := 0) (by omega), g_su_t (t' := 0) (by omega), g_su_t (t' := 0) (by omega), g_su_t (t' := 0) (by omega), g_su_t (t' := 0) (by omega), m8]
  rw [g_su_t (t' := 0) (by omega), g_su_t (t' := 0) (by omega), g_su_t (t' := 0) (by omega), g_su_t (t' := 0) (by omega), g_su_t (t' := 0) (by omega), g_su_t (t' := 0) (by omega), g_su_t (t' := 0) (by omega), m8]
  rfl
