/-! the law's calls: how both sides answer, with what they keep of how it came out -/
def g_law (b : Nat) (A : g_A) (H : q_H) (C : Option (Int32 × q_H)) (M : q_H → Option (Int32 × q_H)) : Prop := ∃ r st H', C = some (r, H') ∧ g_fH H H' st ∧ ∀ h, g_is h A → h.1 30 5 7 0 = H.1 24 5 6 0 → ∃ A' h', g_R b (g_st H' 0) A' ∧ g_W A' ∧ M h = some (r, h') ∧ g_is h' A' ∧ g_fM h h' ∧ h'.1 30 6 7 0 = st ∧ (g_c1 A → g_c1 A')
def g_s (p : Int32) (h : q_H) : q_H := q_si (q_si h 30 7 7 0 0) 30 6 7 0 p
theorem g_s_M {p : Int32} {h : q_H} : g_fM h (g_s p h) := g_fM_tr (g_fM_si (Or.inr (Or.inl rfl))) (g_fM_si (Or.inl rfl))
theorem g_s_6 {p : Int32} {h : q_H} : (g_s p h).1 30 6 7 0 = p := g_rd_e
theorem g_s_o {p : Int32} {h : q_H} {t f k i : Nat} (hn : ¬ (t = 30 ∧ (f = 6 ∨ f = 7) ∧ k = 7 ∧ i = 0)) : (g_s p h).1 t f k i = h.1 t f k i := by
  unfold g_s
  rw [g_rd_o (fun q => hn ⟨q.1, Or.inl q.2.1, q.2.2.1, q.2.2.2⟩), g_rd_o (fun q => hn ⟨q.1, Or.inr q.2.1, q.2.2.1, q.2.2.2⟩)]
theorem g_s_is {p : Int32} {h : q_H} {A : g_A} : g_s p (g_ma h 31 A) = g_ma (g_s p h) 31 A := by
  unfold g_s
  rw [g_ma_si_ne (by decide), g_ma_si_ne (by decide)]
theorem m_is0 {h : q_H} : Mo_is 0 h = some (1, g_s 0 h) := rfl
theorem m_is1 {p : Int32} {h : q_H} (hp : p ≠ 0) : Mo_is p h = some (0, g_s p h) := by
  unfold Mo_is
  rw [if_pos hp]; rfl
theorem m_ref {st p : Int32} {h : q_H} {A : g_A} : Mo_refuse st (g_ma (g_s p h) 31 A) = some (-1, g_ma (g_s st h) 31 A) := by
  rw [e_Mrefuse, g_ma_si_ne (by decide)]
  congr 2
  congr 1
  unfold g_s q_si
  congr 1
  funext a b c d
  by_cases e : a = 30 ∧ b = 6 ∧ c = 7 ∧ d = 0
  · simp only [if_pos e]
  · simp only [if_neg e]
theorem law_act {b : Nat} {A : g_A} {H : q_H} {C : Option (Int32 × q_H)} {M : q_H → Option (Int32 × q_H)} (ha : g_act b A H C M) : g_law b A H C (fun h => (Mo_is 0 h).bind fun x1 => (M x1.2).bind fun x3 => some (x3.1, x3.2)) := by
  obtain ⟨r, st, H', e, f, _, k⟩ := ha
  refine ⟨r, st, H', e, f, fun h hi _ => ?_⟩
  have hi' : g_is (g_s 0 h) A := by
    unfold g_is at hi ⊢
    rw [← g_s_is, ← hi]
  obtain ⟨A', h', k1, k2, k3, k4, k5, k6, k7⟩ := k (g_s 0 h) hi'
  refine ⟨A', h', k1, k2, ?_, k4, g_fM_tr g_s_M k5, ?_, k7⟩
  · dsimp only
    rw [m_is0]
    simp only [Option.bind_some]
    rw [k3]; rfl
  · rw [k6]
    by_cases c : st = 0
    · rw [if_pos c, c, g_s_6]
    · rw [if_neg c]
theorem law_an {b : Nat} {A A' : g_A} {H H2 : q_H} {S' : g_S} {r st : Int32} {M : q_H → Option (Int32 × q_H)} (h1 : g_f1 H H2) (hR : g_R b S' A') (hW : g_W A') (hC : g_c1 A → g_c1 A') (hM : ∀ h, h.1 30 5 7 0 = H.1 24 5 6 0 → ∃ h2, M (g_ma h 31 A) = some (r, g_ma h2 31 A') ∧ g_fM h h2 ∧ h2.1 30 6 7 0 = st) : g_law b A H (some (r, q_si (g_cw H2 0 S') 24 6 6 0 st)) M := by
  refine ⟨r, st, _, rfl, g_fH_an2 h1, fun h hi hm => ?_⟩
  obtain ⟨h2, e, f, s⟩ := hM h hm
  refine ⟨A', g_ma h2 31 A', by rw [g_st_an]; exact hR, hW, ?_, g_is_ma, g_fM_tr f g_fM_ma, ?_, hC⟩
  · unfold g_is at hi
    rw [← hi] at e; exact e
  · rw [g_ma_ne (by decide)]; exact s
theorem law_q1 {b : Nat} {A : g_A} {H H2 : q_H} {r st : Int32} {M : q_H → Option (Int32 × q_H)} (h1 : g_f1 H H2) (hR : g_R b (g_st H 0) A) (hW : g_W A) (hM : ∀ h, h.1 30 5 7 0 = H.1 24 5 6 0 → ∃ h2, M (g_ma h 31 A) = some (r, g_ma h2 31 A) ∧ g_fM h h2 ∧ h2.1 30 6 7 0 = st) : g_law b A H (some (r, q_si H2 24 6 6 0 st)) M := by
  have e0 : g_st H2 0 = g_st H 0 := by
    unfold g_st
    congr 1
    · funext t f i; exact h1.1 t f 0 i (by decide)
    · funext t f i; exact h1.2.1 t f 0 i (by decide)
  have := law_an (S' := g_st H2 0) h1 (by rw [e0]; exact hR) hW (fun q => q) hM
  rw [g_cw_st] at this; exact this
theorem law_q {b : Nat} {A : g_A} {H : q_H} {r st : Int32} {M : q_H → Option (Int32 × q_H)} (hR : g_R b (g_st H 0) A) (hW : g_W A) (hM : ∀ h, h.1 30 5 7 0 = H.1 24 5 6 0 → M (g_ma h 31 A) = some (r, g_ma (g_s st h) 31 A)) : g_law b A H (some (r, q_si H 24 6 6 0 st)) M :=
  law_q1 g_f1_rf hR hW (fun h hm => ⟨_, hM h hm, g_s_M, g_s_6⟩)
theorem law_mo {b b' : Nat} {A : g_A} {H : q_H} {C : Option (Int32 × q_H)} {M : q_H → Option (Int32 × q_H)} (ha : g_law b A H C M) (hb : b ≤ b') : g_law b' A H C M := by
  obtain ⟨r, st, H', e, f, k⟩ := ha
  refine ⟨r, st, H', e, f, fun h hi hm => ?_⟩
  obtain ⟨A', h', k1, k⟩ := k h hi hm
  exact ⟨A', h', g_R_mono k1 hb, k⟩
theorem law_eq {b : Nat} {A : g_A} {H : q_H} {C : Option (Int32 × q_H)} {M M' : q_H → Option (Int32 × q_H)} (ha : g_law b A H C M) (e : M' = M) : g_law b A H C M' := by rw [e]; exact ha
