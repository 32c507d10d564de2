/-! entries go -/
/-- the entries that stay, by their numbers -/
def g_kp (A : g_A) (X : Nat → Bool) : List Nat := (List.range (g_ne A)).filter (fun i => !X (g_ep A i))
def g_kl (A : g_A) (K : List Nat) (P : Nat → Bool) : List Nat := K.filter (fun i => !P (g_ep A i))
theorem g_kl_kp {A : g_A} {X P : Nat → Bool} : g_kl A (g_kp A X) P = g_kp A (fun s => X s || P s) := by
  unfold g_kl g_kp
  rw [List.filter_filter]
  congr 1
  funext i
  show (_ && _) = !(X (g_ep A i) || P (g_ep A i))
  cases X (g_ep A i) <;> cases P (g_ep A i) <;> rfl
theorem g_kp_lt {A : g_A} {X : Nat → Bool} {i : Nat} (h : i ∈ g_kp A X) : i < g_ne A := by
  unfold g_kp at h
  rw [List.mem_filter, List.mem_range] at h
  exact h.1
theorem g_kp_le {A : g_A} {X : Nat → Bool} : (g_kp A X).length ≤ g_ne A := by
  unfold g_kp
  have := List.length_filter_le (fun i => !X (g_ep A i)) (List.range (g_ne A))
  rw [List.length_range] at this
  exact this
/-- a store's index holds the rows of a list -/
def r_k (S : g_S) (A : g_A) (K : List Nat) : Prop := S.1 11 3 0 = nI K.length ∧ ∀ j (h : j < K.length), S.1 12 0 j = A 2 K[j] 0 ∧ S.1 13 0 j = nI (g_ep A K[j]) ∧ S.1 14 0 j = A 2 K[j] 3
def g_k (B A : g_A) (K : List Nat) : Prop := B 0 5 0 = nI K.length ∧ ∀ j (h : j < K.length), ∀ w, w < 4 → B 2 j w = A 2 K[j] w
theorem g_tk1 {K : List Nat} {q : Nat → Bool} {j : Nat} (h : j < K.length) : (K.take (j + 1)).filter q = (K.take j).filter q ++ (if q K[j] = true then [K[j]] else []) := by
  rw [List.take_succ, List.getElem?_eq_getElem h, List.filter_append]
  congr 1
  show List.filter q [K[j]] = _
  by_cases c : q K[j] = true
  · rw [if_pos c, List.filter_cons_of_pos c]; rfl
  · rw [if_neg c, List.filter_cons_of_neg c]; rfl
theorem g_tk2 {K : List Nat} {q : Nat → Bool} {j : Nat} : ((K.take j).filter q).length ≤ j := by
  have h1 := List.length_filter_le q (K.take j)
  have h2 := List.length_take_le j K
  omega
section g_C
variable {H : q_H} {k : Nat} {A : g_A}
theorem c_move {i n : Nat} (hi : i < 60) (hn : n < 60) : Ix_move k (nI i) (nI n) H = some (g_cw H k (g_su (g_su (g_su (g_st H k) 12 0 n (H.1 12 0 k i)) 13 0 n (H.1 13 0 k i)) 14 0 n (H.1 14 0 k i))) := by
  unfold Ix_move
  rw [c_pick (n := 60) rfl rfl hi (by decide)]
  simp only [Option.bind_some]
  rw [c_put (n := 60) rfl rfl hn (by decide), g_si_cw]
  simp only [Option.bind_some]
  rw [c_pick (n := 60) rfl rfl hi (by decide), g_cw_rd, g_su_t (by omega)]
  simp only [Option.bind_some]
  rw [c_put (n := 60) rfl rfl hn (by decide), g_cw_si]
  simp only [Option.bind_some]
  rw [c_pick (n := 60) rfl rfl hi (by decide), g_cw_rd, g_su_t (by omega), g_su_t (by omega)]
  simp only [Option.bind_some]
  rw [c_put (n := 60) rfl rfl hn (by decide), g_cw_si]
  rfl
theorem c_drop {K : List Nat} {s : Nat} (hs : s < 60) (hw : g_wi A) (hK : ∀ i, i ∈ K → i < g_ne A) (hl : K.length ≤ 60) (hR : r_k (g_st H k) A K) : ∃ S', Ix_dropAllTo k (nI s) H = some (nI (K.length - (g_kl A K (fun x => decide (x = s))).length), g_cw H k S') ∧ r_k S' A (g_kl A K (fun x => decide (x = s))) ∧ (∀ t f i, t ≠ 11 → t ≠ 12 → t ≠ 13 → t ≠ 14 → S'.1 t f i = (g_st H k).1 t f i) ∧ S'.2 = (g_st H k).2 := by
  unfold Ix_dropAllTo
  have main := g_lpH (body := fun s1 : Int32 × Int32 × q_H => (if (s1.2.2.1 11 3 k 0) ≤ s1.2.1 then (some (.inr ((((s1.2.2.1 11 3 k 0) - s1.1), (q_si s1.2.2 11 3 k 0 s1.1))))) else ((Ix_placeAt k s1.2.1 s1.2.2).bind fun x9 => Option.bind (α := Int32 × q_H) (if x9 = nI s then (some ((s1.1, s1.2.2))) else ((Ix_move k s1.2.1 s1.1 s1.2.2).bind fun x15 => some (((s1.1 + (1 : Int32)), x15)))) (fun p18 => some (.inl (p18.1, (s1.2.1 + (1 : Int32)), p18.2)))) : Option ((Int32 × Int32 × q_H) ⊕ (Int32 × q_H)))) (fun j z => ∃ T : g_S, z = (nI ((K.take j).filter (fun i => !decide (g_ep A i = s))).length, nI j, g_cw H k T) ∧ T.1 11 3 0 = nI K.length ∧ (∀ x (h : x < ((K.take j).filter (fun i => !decide (g_ep A i = s))).length), T.1 12 0 x = A 2 ((K.take j).filter (fun i => !decide (g_ep A i = s)))[x] 0 ∧ T.1 13 0 x = nI (g_ep A ((K.take j).filter (fun i => !decide (g_ep A i = s)))[x]) ∧ T.1 14 0 x = A 2 ((K.take j).filter (fun i => !decide (g_ep A i = s)))[x] 3) ∧ (∀ x (h : x < K.length), j ≤ x → T.1 12 0 x = A 2 K[x] 0 ∧ T.1 13 0 x = nI (g_ep A K[x]) ∧ T.1 14 0 x = A 2 K[x] 3) ∧ (∀ t f i, t ≠ 11 → t ≠ 12 → t ≠ 13 → t ≠ 14 → T.1 t f i = (g_st H k).1 t f i) ∧ T.2 = (g_st H k).2)
    (fun r => ∃ S', r = (nI (K.length - (g_kl A K (fun x => decide (x = s))).length), g_cw H k S') ∧ r_k S' A (g_kl A K (fun x => decide (x = s))) ∧ (∀ t f i, t ≠ 11 → t ≠ 12 → t ≠ 13 → t ≠ 14 → S'.1 t f i = (g_st H k).1 t f i) ∧ S'.2 = (g_st H k).2) K.length (fun j z hj ⟨T, e, h1, h2, h3, h4, h5⟩ => by
      subst e
      dsimp only
      have hn := g_tk2 (K := K) (q := fun i => !decide (g_ep A i = s)) (j := j)
      have hKj := hK K[j] (List.getElem_mem hj)
      have hep := (g_ep_lt hw hKj).1
      rw [g_cw_rd, h1, if_neg (nI_ge hj (by omega))]
      unfold Ix_placeAt
      rw [c_pick (n := 60) rfl rfl (by omega) (by decide), g_cw_rd, (h3 j hj (Nat.le_refl _)).2.1]
      simp only [Option.bind_some]
      have tk := g_tk1 (q := fun i => !decide (g_ep A i = s)) hj
      by_cases c : g_ep A K[j] = s
      · rw [if_pos (by rw [c])]
        have tk' : (K.take (j + 1)).filter (fun i => !decide (g_ep A i = s)) = (K.take j).filter (fun i => !decide (g_ep A i = s)) := by
          rw [tk, if_neg (by rw [decide_eq_true c]; decide), List.append_nil]
        refine ⟨_, rfl, T, ?_, h1, ?_, fun x hx hjx => h3 x hx (by omega), h4, h5⟩
        · rw [tk', nI_1]
        · rw [tk']; exact h2
      · rw [if_neg (fun q => c ((nI_eq (by omega) (by omega)).mp q)), c_move (by omega) (by omega), g_st_cw, g_cw_cw, g_cw_rd, g_cw_rd, g_cw_rd]
        simp only [Option.bind_some]
        obtain ⟨a1, a2, a3⟩ := h3 j hj (Nat.le_refl _)
        rw [a1, a2, a3]
        have tk' : (K.take (j + 1)).filter (fun i => !decide (g_ep A i = s)) = (K.take j).filter (fun i => !decide (g_ep A i = s)) ++ [K[j]] := by
          rw [tk, if_pos (by rw [decide_eq_false c]; decide)]
        generalize hF : (K.take j).filter (fun i => !decide (g_ep A i = s)) = F at *
        refine ⟨_, rfl, g_su (g_su (g_su T 12 0 F.length (A 2 K[j] 0)) 13 0 F.length (nI (g_ep A K[j]))) 14 0 F.length (A 2 K[j] 3), ?_, ?_, ?_, ?_, ?_, h5⟩
        · rw [tk', List.length_append, List.length_singleton, nI_1, nI_1]
        · rw [g_su_t (by omega), g_su_t (by omega), g_su_t (by omega)]; exact h1
        · rw [tk']
          intro x hx
          rw [List.length_append, List.length_singleton] at hx
          by_cases d : x = F.length
          · subst d
            rw [List.getElem_concat_length (by rfl)]
            refine ⟨?_, ?_, ?_⟩
            · rw [g_su_t (by omega), g_su_t (by omega), g_su_e]
            · rw [g_su_t (by omega), g_su_e]
            · rw [g_su_e]
          · have hx' : x < F.length := by omega
            rw [List.getElem_append_left hx']
            obtain ⟨b1, b2, b3⟩ := h2 x hx'
            refine ⟨?_, ?_, ?_⟩
            · rw [g_su_t (by omega), g_su_t (by omega), g_su_t (by omega)]; exact b1
            · rw [g_su_t (by omega), g_su_t (by omega), g_su_t (by omega)]; exact b2
            · rw [g_su_t (by omega), g_su_t (by omega), g_su_t (by omega)]; exact b3
        · intro x hx hjx
          obtain ⟨b1, b2, b3⟩ := h3 x hx (by omega)
          refine ⟨?_, ?_, ?_⟩
          · rw [g_su_t (by omega), g_su_t (by omega), g_su_t (by omega)]; exact b1
          · rw [g_su_t (by omega), g_su_t (by omega), g_su_t (by omega)]; exact b2
          · rw [g_su_t (by omega), g_su_t (by omega), g_su_t (by omega)]; exact b3
        · intro t f i a b c d
          rw [g_su_t (by omega), g_su_t (by omega), g_su_t (by omega)]
          exact h4 t f i a b c d)
    (fun z ⟨T, e, h1, h2, h3, h4, h5⟩ => by
      subst e
      dsimp only
      rw [g_cw_rd, h1, if_pos (Int32.le_refl _)]
      rw [List.take_length] at h2 ⊢
      have ek : g_kl A K (fun x => decide (x = s)) = K.filter (fun i => !decide (g_ep A i = s)) := rfl
      have hle := List.length_filter_le (fun i => !decide (g_ep A i = s)) K
      rw [pk_sub hle, g_cw_si, ek]
      refine ⟨_, rfl, _, rfl, ⟨by rw [g_su_e], fun x hx => ?_⟩, fun t f i a b c d => ?_, h5⟩
      · rw [g_su_t (by omega), g_su_t (by omega), g_su_t (by omega)]
        exact h2 x hx
      · rw [g_su_t (by omega)]; exact h4 t f i a b c d) ((0 : Int32), (0 : Int32), H) q_fu (by unfold q_fu; omega) ⟨g_st H k, by rw [g_cw_st]; rfl, hR.1, fun x h => by simp at h, fun x h _ => hR.2 x h, fun _ _ _ _ _ _ _ => rfl, rfl⟩
  obtain ⟨r, e, S', er, q⟩ := main
  exact ⟨S', by rw [← er]; exact g_bs e, q⟩
end g_C
