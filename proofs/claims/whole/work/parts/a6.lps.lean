/-! loops whose invariant hangs on the place -/
theorem c_sixN {ρ : Type} {H : q_H} {k bb n : Nat} {A : g_A} {f : Nat → g_A → g_A} {B : Int32 × q_H → Option ((Int32 × q_H) ⊕ ρ)} {rr : q_H → ρ} (I : Nat → g_A → Prop) (hn : n < q_fu) (hI : I 0 A) (hR : g_R bb (g_st H k) A) (step : ∀ p, p < n → ∀ H' A', I p A' → g_R bb (g_st H' k) A' → (∃ S', B (nI p, H') = some (.inl (nI p + 1, g_cw H' k S')) ∧ g_R bb S' (f p A')) ∧ I (p + 1) (f p A')) (fin : ∀ H' A', I n A' → g_R bb (g_st H' k) A' → B (nI n, H') = some (.inr (rr H'))) : (∃ S', q_lp B q_fu ((0 : Int32), H) = some (rr (g_cw H k S')) ∧ g_R bb S' (g_i6 f A n)) ∧ I n (g_i6 f A n) := by
  obtain ⟨r, e, S', er, h1, h2⟩ := g_lpH (body := B) (fun i z => ∃ S', z = (nI i, g_cw H k S') ∧ g_R bb S' (g_i6 f A i) ∧ I i (g_i6 f A i)) (fun r => ∃ S', r = rr (g_cw H k S') ∧ g_R bb S' (g_i6 f A n) ∧ I n (g_i6 f A n)) n (fun i z hi ⟨S', e, h1, h2⟩ => by
      subst e
      obtain ⟨⟨S2, e2, r2⟩, i2⟩ := step i hi (g_cw H k S') (g_i6 f A i) h2 (by rw [g_st_cw]; exact h1)
      rw [e2, g_cw_cw, nI_1]
      exact ⟨_, rfl, S2, rfl, r2, i2⟩)
    (fun z ⟨S', e, h1, h2⟩ => by
      subst e
      exact ⟨_, fin _ _ h2 (by rw [g_st_cw]; exact h1), S', rfl, h1, h2⟩) ((0 : Int32), H) q_fu hn ⟨g_st H k, by rw [g_cw_st]; rfl, hR, hI⟩
  exact ⟨⟨S', by rw [← er]; exact e, h1⟩, h2⟩
theorem m_sixN {ρ : Type} {hh : q_H} {n : Nat} {A : g_A} {f : Nat → g_A → g_A} {B : Int32 × q_H → Option ((Int32 × q_H) ⊕ ρ)} {rr : q_H → ρ} (I : Nat → g_A → Prop) (hn : n < q_fu) (hI : I 0 A) (step : ∀ p, p < n → ∀ A', I p A' → B (nI p, g_ma hh 31 A') = some (.inl (nI p + 1, g_ma hh 31 (f p A'))) ∧ I (p + 1) (f p A')) (fin : ∀ A', I n A' → B (nI n, g_ma hh 31 A') = some (.inr (rr (g_ma hh 31 A')))) : q_lp B q_fu ((0 : Int32), g_ma hh 31 A) = some (rr (g_ma hh 31 (g_i6 f A n))) ∧ I n (g_i6 f A n) := by
  obtain ⟨r, e, er, h2⟩ := g_lpH (body := B) (fun i z => z = (nI i, g_ma hh 31 (g_i6 f A i)) ∧ I i (g_i6 f A i)) (fun r => r = rr (g_ma hh 31 (g_i6 f A n)) ∧ I n (g_i6 f A n)) n (fun i z hi ⟨e, h2⟩ => by
      subst e
      obtain ⟨e2, i2⟩ := step i hi (g_i6 f A i) h2
      rw [e2, nI_1]
      exact ⟨_, rfl, rfl, i2⟩)
    (fun z ⟨e, h2⟩ => by
      subst e
      exact ⟨_, fin _ h2, rfl, h2⟩) ((0 : Int32), g_ma hh 31 A) q_fu hn ⟨rfl, hI⟩
  exact ⟨by rw [← er]; exact e, h2⟩
