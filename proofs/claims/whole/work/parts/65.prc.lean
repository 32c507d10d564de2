/-! a page is pruned, in a store of the component -/
def g_emp (S : g_S) (i : Nat) (v : Int32) : g_S := (fun t f j => if t = 3 ∧ j = i ∧ f ≤ 11 then (if f = 0 then v else if f = 5 ∨ f = 10 ∨ f = 11 then 0 else -1) else S.1 t f j, S.2)
theorem c_empty {H : q_H} {k i : Nat} {v : Int32} : Sl_empty k i v H = some (g_cw H k (g_emp (g_st H k) i v)) := by
  unfold Sl_empty
  have key : (q_si (q_si (q_si (q_si (q_si (q_si (q_si (q_si (q_si (q_si (q_si (q_si H 3 0 k i v) 3 1 k i (-1 : Int32)) 3 2 k i (-1 : Int32)) 3 3 k i (-1 : Int32)) 3 4 k i (-1 : Int32)) 3 5 k i (0 : Int32)) 3 6 k i (-1 : Int32)) 3 7 k i (-1 : Int32)) 3 8 k i (-1 : Int32)) 3 9 k i (-1 : Int32)) 3 10 k i (0 : Int32)) 3 11 k i (0 : Int32)) = g_cw H k (g_emp (g_st H k) i v) := by
    rw [g_si_cw (h := H) (f := 0), g_cw_si, g_cw_si, g_cw_si, g_cw_si, g_cw_si, g_cw_si, g_cw_si, g_cw_si, g_cw_si, g_cw_si, g_cw_si]
    congr 1
    refine Prod.ext ?_ rfl
    funext t f j
    unfold g_su g_emp
    dsimp only
    by_cases e : t = 3 ∧ j = i
    · obtain ⟨rfl, rfl⟩ := e
      by_cases hf : f ≤ 11
      · have : f = 0 ∨ f = 1 ∨ f = 2 ∨ f = 3 ∨ f = 4 ∨ f = 5 ∨ f = 6 ∨ f = 7 ∨ f = 8 ∨ f = 9 ∨ f = 10 ∨ f = 11 := by omega
        rcases this with rfl | rfl | rfl | rfl | rfl | rfl | rfl | rfl | rfl | rfl | rfl | rfl <;> simp
      · rw [if_neg (by omega), if_neg (by omega), if_neg (by omega), if_neg (by omega), if_neg (by omega), if_neg (by omega), if_neg (by omega), if_neg (by omega), if_neg (by omega), if_neg (by omega), if_neg (by omega), if_neg (by omega), if_neg (by omega)]
    · rw [if_neg (fun q => e ⟨q.1, q.2.2⟩), if_neg (fun q => e ⟨q.1, q.2.2⟩), if_neg (fun q => e ⟨q.1, q.2.2⟩), if_neg (fun q => e ⟨q.1, q.2.2⟩), if_neg (fun q => e ⟨q.1, q.2.2⟩), if_neg (fun q => e ⟨q.1, q.2.2⟩), if_neg (fun q => e ⟨q.1, q.2.2⟩), if_neg (fun q => e ⟨q.1, q.2.2⟩), if_neg (fun q => e ⟨q.1, q.2.2⟩), if_neg (fun q => e ⟨q.1, q.2.2⟩), if_neg (fun q => e ⟨q.1, q.2.2⟩), if_neg (fun q => e ⟨q.1, q.2.2⟩), if_neg (fun q => e ⟨q.1, q.2.1⟩)]
  exact congrArg some key
theorem g_emp_s {S : g_S} {i : Nat} {v : Int32} : (g_emp S i v).1 3 0 i = v ∧ (g_emp S i v).1 3 1 i = -1 ∧ (g_emp S i v).1 3 2 i = -1 ∧ (g_emp S i v).1 3 3 i = -1 ∧ (g_emp S i v).1 3 4 i = -1 ∧ (g_emp S i v).1 3 5 i = 0 ∧ (g_emp S i v).1 3 6 i = -1 ∧ (g_emp S i v).1 3 7 i = -1 ∧ (g_emp S i v).1 3 8 i = -1 ∧ (g_emp S i v).1 3 10 i = 0 ∧ (g_emp S i v).1 3 11 i = 0 := by
  unfold g_emp
  simp
theorem g_emp_n {S : g_S} {i j f : Nat} {v : Int32} (h : j ≠ i) : (g_emp S i v).1 3 f j = S.1 3 f j := by
  unfold g_emp
  dsimp only
  rw [if_neg (fun q => h q.2.1)]
theorem g_emp_t {S : g_S} {i j f t : Nat} {v : Int32} (h : t ≠ 3) : (g_emp S i v).1 t f j = S.1 t f j := by
  unfold g_emp
  dsimp only
  rw [if_neg (fun q => h q.1)]
/-- a slot's picture rests on its own cells -/
theorem r_s_eq {S S' : g_S} {A B : g_A} {s : Nat} (h : r_s S A s) (hS : ∀ f, S'.1 3 f s = S.1 3 f s) (hi : g_iv B s = g_iv A s) (hA : ∀ w, B 1 s w = A 1 s w) : r_s S' B s := by
  have hf : g_fu B s = g_fu A s := by unfold g_fu; rw [hi, hA]
  unfold r_s
  rw [hf, hi]
  simp only [hS, hA]
  exact h
theorem r_s_emp {S : g_S} {B : g_A} {s : Nat} {v : Int32} (hi : g_iv B s = true) (h0 : B 1 s 0 = v) (hv : v ≠ 1) (hv2 : v ≠ 2) : r_s (g_emp S s v) B s := by
  have hf : g_fu B s = false := by unfold g_fu; rw [h0, decide_eq_false hv]; simp
  obtain ⟨e0, e1, e2, e3, e4, e5, e6, e7, e8, e10, e11⟩ := g_emp_s (S := S) (i := s) (v := v)
  refine ⟨fun q => (by rw [hf] at q; cases q), fun _ => ⟨?_, ?_, e2, e3, e4, e5, e6, e7, e8, e10, e11⟩⟩
  · rw [e0, if_pos hi, h0]
  · rw [e1, if_neg (fun q => hv2 (by rw [← h0]; exact q.2))]
def g_fs (S S' : g_S) : Prop := (∀ t f i, t ≠ 3 → t ≠ 5 → t ≠ 15 → t ≠ 16 → t ≠ 17 → t ≠ 18 → S'.1 t f i = S.1 t f i) ∧ S'.2 = S.2
theorem g_fs_rf {S : g_S} : g_fs S S := ⟨fun _ _ _ _ _ _ _ _ _ => rfl, rfl⟩
theorem g_fs_tr {S T U : g_S} (h : g_fs S T) (h' : g_fs T U) : g_fs S U := ⟨fun t f i a b c d e g => (h'.1 t f i a b c d e g).trans (h.1 t f i a b c d e g), h'.2.trans h.2⟩
theorem g_fs_emp {S : g_S} {i : Nat} {v : Int32} : g_fs S (g_emp S i v) := ⟨fun t f j a _ _ _ _ _ => g_emp_t a, rfl⟩
theorem g_su_t {S : g_S} {t f i t' f' i' : Nat} {v : Int32} (h : ¬ (t' = t ∧ f' = f ∧ i' = i)) : (g_su S t f i v).1 t' f' i' = S.1 t' f' i' := by unfold g_su; dsimp only; rw [if_neg h]
theorem g_su_e {S : g_S} {t f i : Nat} {v : Int32} : (g_su S t f i v).1 t f i = v := by unfold g_su; dsimp only; rw [if_pos ⟨rfl, rfl, rfl⟩]
theorem g_fs_su {S : g_S} {t f i : Nat} {v : Int32} (h : t = 3 ∨ t = 5 ∨ t = 15 ∨ t = 16 ∨ t = 17 ∨ t = 18) : g_fs S (g_su S t f i v) := ⟨fun t' f' i' a b c d e g => g_su_t (by omega), rfl⟩
theorem g_tellS_t {S : g_S} {kd nm : Int32} {t f i : Nat} (h : t ≠ 15) (h1 : t ≠ 16) (h2 : t ≠ 17) : (g_tellS S kd nm).1 t f i = S.1 t f i := by
  unfold g_tellS
  dsimp only
  rw [if_neg (fun q => h1 q.1), if_neg (fun q => h2 q.1), if_neg (fun q => h q.1)]
theorem g_fs_tell {S : g_S} {kd nm : Int32} : g_fs S (g_tellS S kd nm) := ⟨fun t f i a b c d e g => g_tellS_t c d e, rfl⟩
theorem r_t_fk {S S' : g_S} {A B : g_A} (h : r_t S A) (hS : g_fs S S') (hk : g_fk A B) : r_t S' B := by
  refine ⟨?_, fun t h1 h2 => ?_⟩
  · rw [hS.1 6 4 0 (by omega) (by omega) (by omega) (by omega) (by omega) (by omega), g_fk_0 hk (by omega)]; exact h.1
  · rw [g_fk_nx hk] at h2
    obtain ⟨a, b, c, d, e⟩ := h.2 t h1 h2
    rw [hS.1 7 0 t (by omega) (by omega) (by omega) (by omega) (by omega) (by omega), hS.1 8 0 t (by omega) (by omega) (by omega) (by omega) (by omega) (by omega), hS.1 9 0 t (by omega) (by omega) (by omega) (by omega) (by omega) (by omega), hS.2, g_fk_3 hk, g_fk_lo hk, g_fk_6 hk]
    exact ⟨a, b, c, fun o ho1 ho2 => by rw [g_fk_nt hk]; exact d o ho1 ho2, e⟩
/-- what holds between a store and the rows while a page is pruned -/
def g_cI (p : Nat) (S : g_S) (A : g_A) (S' : g_S) (A' : g_A) : Prop := (∀ j, j < 10 → r_s S' A' (10 * p + j)) ∧ g_fs S S' ∧ (∀ f x, x / 10 ≠ p → S'.1 3 f x = S.1 3 f x) ∧ (∀ q, S'.1 5 0 q = S.1 5 0 q) ∧ (∀ x, x < 60 → g_fu A' x = true → S'.1 3 9 x = S.1 3 9 x) ∧ (r_l S A ∧ g_wg A → r_l S' A' ∧ g_wg A')
theorem g_cI_rf {p : Nat} {S : g_S} {A : g_A} (h : ∀ j, j < 10 → r_s S A (10 * p + j)) : g_cI p S A S A := ⟨h, g_fs_rf, fun _ _ _ => rfl, fun _ => rfl, fun _ _ _ => rfl, fun q => q⟩
theorem g_cI_tr {p : Nat} {S T U : g_S} {A B C : g_A} (h : g_cI p S A T B) (h' : g_cI p T B U C) (hl : g_ls B C) : g_cI p S A U C :=
  ⟨h'.1, g_fs_tr h.2.1 h'.2.1, fun f x q => (h'.2.2.1 f x q).trans (h.2.2.1 f x q), fun q => (h'.2.2.2.1 q).trans (h.2.2.2.1 q), fun x hx q => (h'.2.2.2.2.1 x hx q).trans (h.2.2.2.2.1 x hx (hl.2 x hx q)), fun q => h'.2.2.2.2.2 (h.2.2.2.2.2 q)⟩
/-- what counts of a log -/
theorem r_l_eq {S S' : g_S} {A B : g_A} (h : r_l S A ∧ g_wg A) (hS : ∀ t f i, t = 15 ∨ t = 16 ∨ t = 17 ∨ t = 18 → S'.1 t f i = S.1 t f i) (h6 : B 0 6 0 = A 0 6 0) (h4 : ∀ i w, B 4 i w = A 4 i w) (hc : ∀ j, j < 8 → B 0 (9 + j) 0 = A 0 (9 + j) 0) : r_l S' B ∧ g_wg B := by
  have hn : g_nv B = g_nv A := by unfold g_nv; rw [h6]
  refine ⟨⟨?_, fun i hi => ?_, fun j hj => ?_⟩, by unfold g_wg; rw [h6, hn]; exact h.2⟩
  · rw [hS _ _ _ (by omega), h6]; exact h.1.1
  · rw [hn] at hi
    rw [hS _ _ _ (by omega), hS _ _ _ (by omega), h4, h4]; exact h.1.2.1 i hi
  · rw [hS _ _ _ (by omega), hc j hj]; exact h.1.2.2 j hj
theorem g_goes_l {A : g_A} {s g i w : Nat} (h : g ≠ 1) (h0 : g ≠ 0 ∨ i < 23) : g_goes A s g i w = A g i w := by
  unfold g_goes
  rw [g_au_ne (by omega), g_au_ne (by omega)]
/-- one version goes -/
theorem g_cI_goes {p s : Nat} {S : g_S} {A : g_A} (hr : ∀ j, j < 10 → r_s S A (10 * p + j)) (hs : s < 60) (hp : s / 10 = p) (hi : g_iv A s = true) : g_cI p S A (g_emp S s 0) (g_goes A s) := by
  have hk := g_fk_goes (A := A) hs
  refine ⟨fun j hj => ?_, g_fs_emp, fun f x hx => ?_, fun q => g_emp_t (by omega), fun x hx f => ?_, fun q => ?_⟩
  · by_cases e : 10 * p + j = s
    · rw [e]
      exact r_s_emp (by rw [g_fk_iv hk hs]; exact hi) (by rw [g_goes_k, if_pos ⟨rfl, rfl⟩]) (by decide) (by decide)
    · exact r_s_eq (hr j hj) (fun f => g_emp_n e) (by rw [g_fk_iv hk (by omega)]) (fun w => by rw [g_goes_k, if_neg (fun q => e q.1)])
  · exact g_emp_n (fun q => hx (by rw [q]; exact hp))
  · refine g_emp_n (fun q => ?_)
    have := (g_fu_iv f).2
    rw [g_goes_k, if_pos ⟨q, rfl⟩] at this
    exact absurd this (by decide)
  · exact r_l_eq q (fun t f i ht => g_emp_t (by omega)) (g_goes_l (by omega) (by omega)) (fun i w => g_goes_l (by omega) (by omega)) (fun j hj => g_goes_l (by omega) (by omega))
def g_emv (S : g_S) (A : g_A) (c n : Nat) : g_S := g_it (fun j T => g_emp T (g_ci A c j) 0) 0 n S
theorem g_emv_s (S : g_S) (A : g_A) (c n : Nat) : g_emv S A c (n + 1) = g_emp (g_emv S A c n) (g_ci A c n) 0 := by
  show g_emp (g_emv S A c n) (g_ci A c (0 + n)) 0 = _
  rw [Nat.zero_add]
theorem g_cI_rmv {p c : Nat} {S : g_S} {A : g_A} (hr : ∀ j, j < 10 → r_s S A (10 * p + j)) : ∀ n, (∀ j, j < n → g_ci A c j < 60 ∧ g_ci A c j / 10 = p ∧ g_fu A (g_ci A c j) = true) → g_cI p S A (g_emv S A c n) (g_rmv A c n) ∧ g_ls A (g_rmv A c n) := by
  intro n
  induction n with
  | zero => intro _; exact ⟨g_cI_rf hr, g_ls_rf⟩
  | succ n ih =>
    intro h
    obtain ⟨a, b⟩ := ih (fun j hj => h j (by omega))
    have hd : ∀ j, j < n + 1 → g_ci A c j < 60 := fun j hj => (h j hj).1
    obtain ⟨h1, h2, h3⟩ := h n (by omega)
    have ls : g_ls A (g_rmv A c (n + 1)) := ⟨g_fk_rmv _ hd, fun x hx q => ((g_rmv_fu hx hd).mp q).1⟩
    have ls2 : g_ls (g_rmv A c n) (g_rmv A c (n + 1)) := ⟨by rw [g_rmv_s]; exact g_fk_goes h1, fun x hx q => (g_rmv_fu hx (fun j hj => hd j (by omega))).mpr ⟨((g_rmv_fu hx hd).mp q).1, fun ⟨j, hj, e⟩ => ((g_rmv_fu hx hd).mp q).2 ⟨j, by omega, e⟩⟩⟩
    refine ⟨g_cI_tr a ?_ ls2, ls⟩
    rw [g_emv_s, g_rmv_s]
    exact g_cI_goes a.1 h1 h2 (by rw [g_fk_iv b.1 h1]; exact (g_fu_iv h3).1)
