/-! stubs go, by batches: how the reference does it -/
def g_ec (B : g_A) (i j w : Nat) : g_A := fun g x y => if g = 2 ∧ x = i ∧ y < w then B 2 j y else B g x y
theorem g_ec_s {B : g_A} {i j w : Nat} : g_au (g_ec B i j w) 2 i w (g_ec B i j w 2 j w) = g_ec B i j (w + 1) := by
  funext g x y
  have e : g_ec B i j w 2 j w = B 2 j w := by
    unfold g_ec
    rw [if_neg (by omega)]
  rw [e]
  unfold g_au g_ec
  by_cases c : g = 2 ∧ x = i ∧ y = w
  · rw [if_pos c, if_pos ⟨c.1, c.2.1, by omega⟩, c.2.2]
  · rw [if_neg c]
    by_cases d : g = 2 ∧ x = i ∧ y < w
    · rw [if_pos d, if_pos ⟨d.1, d.2.1, by omega⟩]
    · rw [if_neg d, if_neg (by omega)]
section g_M
variable {hh : q_H} {A B : g_A}
theorem m_ecp2 {i j : Nat} (hi : i < 60) (hj : j < 60) : q_lp (fun s30 : Int32 × q_H => (if (4 : Int32) ≤ s30.1 then (some (.inr (s30.2))) else ((Mo_entryOf (nI j) s30.1 s30.2).bind fun x38 => bif q_in (((812 : Int32) + ((4 : Int32) * nI i)) + s30.1) 1644 then (some (.inl ((s30.1 + (1 : Int32)), (q_si s30.2 31 0 7 (((812 : Int32) + ((4 : Int32) * nI i)) + s30.1).toNatClampNeg x38)))) else none) : Option ((Int32 × q_H) ⊕ (q_H)))) q_fu (((0 : Int32), g_ma hh 31 B) : Int32 × q_H) = some (g_ma hh 31 (g_ec B i j 4)) := by
  obtain ⟨r, e, er⟩ := g_lpH (body := fun s30 : Int32 × q_H => (if (4 : Int32) ≤ s30.1 then (some (.inr (s30.2))) else ((Mo_entryOf (nI j) s30.1 s30.2).bind fun x38 => bif q_in (((812 : Int32) + ((4 : Int32) * nI i)) + s30.1) 1644 then (some (.inl ((s30.1 + (1 : Int32)), (q_si s30.2 31 0 7 (((812 : Int32) + ((4 : Int32) * nI i)) + s30.1).toNatClampNeg x38)))) else none) : Option ((Int32 × q_H) ⊕ (q_H)))) (fun w z => z = (nI w, g_ma hh 31 (g_ec B i j w))) (fun r => r = g_ma hh 31 (g_ec B i j 4)) 4 (fun w z hw e => by
      subst e
      dsimp only
      rw [if_neg (show ¬ (4 : Int32) ≤ nI w from nI_ge (b := 4) hw (by decide)), m_en_ hj hw]
      simp only [Option.bind_some]
      rw [mxw hi hw, cond_true, miw hi hw, g_ec_s, nI_1]
      exact ⟨_, rfl, rfl⟩)
    (fun z e => by
      subst e
      dsimp only
      rw [if_pos (show (4 : Int32) ≤ nI 4 from Int32.le_refl _)]
      exact ⟨_, rfl, rfl⟩) ((0 : Int32), g_ma hh 31 B) q_fu (by unfold q_fu; omega) (by
        have : g_ec B i j 0 = B := by
          funext g x y
          unfold g_ec
          rw [if_neg (by omega)]
        rw [this]; rfl)
  rw [e, er]
theorem g_tkd {L : List Nat} {lo j : Nat} (h : lo ≤ j) (hj : j < L.length) : (L.take (j + 1)).drop lo = (L.take j).drop lo ++ [L[j]] := by
  rw [List.take_succ, List.getElem?_eq_getElem hj, List.drop_append_of_le_length (by rw [List.length_take]; omega)]
  rfl
theorem m_inb {L : List Nat} {lo hi i s : Nat} {h : q_H} (hlo : lo ≤ hi) (hhi : hi ≤ L.length) (hL : L.length ≤ 60) (hs : s < 60) (hl : ∀ j (hj : j < L.length), h.1 36 0 7 j = nI L[j] ∧ L[j] < 60) (he : Mo_leadsTo (nI i) h = some (nI s)) : q_lp (fun s9 : Int32 × Int32 => (if nI hi ≤ s9.2 then (some (.inr (s9.1))) else (Option.bind (α := Int32) (if ¬ s9.1 = 0 then (some ((1 : Int32))) else (bif q_in s9.2 60 then ((Mo_leadsTo (nI i) h).bind fun x21 => if ¬ (h.1 36 0 7 s9.2.toNatClampNeg) = x21 then (some ((0 : Int32))) else (some ((1 : Int32)))) else none)) (fun p26 => some (.inl (p26, (s9.2 + (1 : Int32)))))) : Option ((Int32 × Int32) ⊕ (Int32)))) q_fu (((0 : Int32), nI lo) : Int32 × Int32) = some (q_bi (g_iX ((L.take hi).drop lo) s)) := by
  rw [he]
  obtain ⟨r, e, er⟩ := g_lpH (body := fun s9 : Int32 × Int32 => (if nI hi ≤ s9.2 then (some (.inr (s9.1))) else (Option.bind (α := Int32) (if ¬ s9.1 = 0 then (some ((1 : Int32))) else (bif q_in s9.2 60 then ((some (nI s)).bind fun x21 => if ¬ (h.1 36 0 7 s9.2.toNatClampNeg) = x21 then (some ((0 : Int32))) else (some ((1 : Int32)))) else none)) (fun p26 => some (.inl (p26, (s9.2 + (1 : Int32)))))) : Option ((Int32 × Int32) ⊕ (Int32)))) (fun x z => z = (q_bi (g_iX ((L.take (lo + x)).drop lo) s), nI (lo + x))) (fun r => r = q_bi (g_iX ((L.take hi).drop lo) s)) (hi - lo) (fun x z hx e => by
      subst e
      dsimp only
      have hj : lo + x < L.length := by omega
      obtain ⟨l1, l2⟩ := hl _ hj
      rw [if_neg (nI_ge (by omega) (by omega)), g_inN (by omega) (by decide), cond_true, g_cl (by omega), l1, ← Nat.add_assoc, nI_1, g_tkd (Nat.le_add_right _ _) hj]
      simp only [Option.bind_some]
      have key : g_iX ((L.take (lo + x)).drop lo ++ [L[lo + x]]) s = (g_iX ((L.take (lo + x)).drop lo) s || decide (L[lo + x] = s)) := by
        unfold g_iX
        rw [Bool.eq_iff_iff]
        simp only [Bool.or_eq_true, decide_eq_true_iff, List.mem_append, List.mem_singleton]
        exact ⟨fun q => q.imp id Eq.symm, fun q => q.imp id Eq.symm⟩
      rw [key]
      cases g_iX ((L.take (lo + x)).drop lo) s with
      | true =>
        rw [if_pos (show ¬ q_bi true = 0 by decide)]
        exact ⟨_, rfl, rfl⟩
      | false =>
        rw [if_neg (show ¬ ¬ q_bi false = 0 by decide)]
        by_cases c : L[lo + x] = s
        · rw [if_neg (fun q => q (by rw [c])), decide_eq_true c]
          exact ⟨_, rfl, rfl⟩
        · rw [if_pos (fun q => c ((nI_eq (by omega) (by omega)).mp q)), decide_eq_false c]
          exact ⟨_, rfl, rfl⟩)
    (fun z e => by
      subst e
      dsimp only
      rw [show lo + (hi - lo) = hi by omega, if_pos (Int32.le_refl _)]
      exact ⟨_, rfl, rfl⟩) ((0 : Int32), nI lo) q_fu (by unfold q_fu; omega) (by
        have : (L.take (lo + 0)).drop lo = [] := by
          rw [Nat.add_zero]
          exact List.drop_eq_nil_of_le (by rw [List.length_take]; omega)
        rw [this]; rfl)
  rw [e, er]
theorem m_takesOut {K L : List Nat} {lo hi : Nat} (hw : g_wi A) (hK : ∀ i, i ∈ K → i < g_ne A) (hk60 : K.length ≤ 60) (hB : g_k B A K) (hlo : lo ≤ hi) (hhi : hi ≤ L.length) (hL : L.length ≤ 60) (hl : ∀ j (hj : j < L.length), hh.1 36 0 7 j = nI L[j] ∧ L[j] < 60) : ∃ B', Mo_takesOut (nI lo) (nI hi) (g_ma hh 31 B) = some (nI (K.length - (g_kl A K (g_iX ((L.take hi).drop lo))).length), g_ma hh 31 B') ∧ g_k B' A (g_kl A K (g_iX ((L.take hi).drop lo))) ∧ ∀ g i w, g ≠ 2 → ¬ (g = 0 ∧ i = 5) → B' g i w = B g i w := by
  unfold Mo_takesOut
  generalize hP : g_iX ((L.take hi).drop lo) = P
  obtain ⟨r, e, er⟩ := g_lpH (body := fun s1 : Int32 × Int32 × q_H => (if (s1.2.2.1 31 0 7 5) ≤ s1.2.1 then (some (.inr ((((s1.2.2.1 31 0 7 5) - s1.1), (q_si s1.2.2 31 0 7 5 s1.1))))) else ((q_lp (fun s9 : Int32 × Int32 => (if nI hi ≤ s9.2 then (some (.inr (s9.1))) else (Option.bind (α := Int32) (if ¬ s9.1 = 0 then (some ((1 : Int32))) else (bif q_in s9.2 60 then ((Mo_leadsTo s1.2.1 s1.2.2).bind fun x21 => if ¬ (s1.2.2.1 36 0 7 s9.2.toNatClampNeg) = x21 then (some ((0 : Int32))) else (some ((1 : Int32)))) else none)) (fun p26 => some (.inl (p26, (s9.2 + (1 : Int32)))))) : Option ((Int32 × Int32) ⊕ (Int32)))) q_fu (((0 : Int32), nI lo) : Int32 × Int32)).bind fun p29 => if p29 = 0 then ((q_lp (fun s30 : Int32 × q_H => (if (4 : Int32) ≤ s30.1 then (some (.inr (s30.2))) else ((Mo_entryOf s1.2.1 s30.1 s30.2).bind fun x38 => bif q_in (((812 : Int32) + ((4 : Int32) * s1.1)) + s30.1) 1644 then (some (.inl ((s30.1 + (1 : Int32)), (q_si s30.2 31 0 7 (((812 : Int32) + ((4 : Int32) * s1.1)) + s30.1).toNatClampNeg x38)))) else none) : Option ((Int32 × q_H) ⊕ (q_H)))) q_fu (((0 : Int32), s1.2.2) : Int32 × q_H)).bind fun p42 => some (.inl ((s1.1 + (1 : Int32)), (s1.2.1 + (1 : Int32)), p42))) else (some (.inl (s1.1, (s1.2.1 + (1 : Int32)), s1.2.2)))) : Option ((Int32 × Int32 × q_H) ⊕ (Int32 × q_H))))
    (fun j z => ∃ T : g_A, z = (nI ((K.take j).filter (fun i => !P (g_ep A i))).length, nI j, g_ma hh 31 T) ∧ T 0 5 0 = nI K.length ∧ (∀ x (h : x < ((K.take j).filter (fun i => !P (g_ep A i))).length), ∀ w, w < 4 → T 2 x w = A 2 ((K.take j).filter (fun i => !P (g_ep A i)))[x] w) ∧ (∀ x (h : x < K.length), j ≤ x → ∀ w, w < 4 → T 2 x w = A 2 K[x] w) ∧ (∀ g i w, g ≠ 2 → T g i w = B g i w))
    (fun r => ∃ B', r = (nI (K.length - (g_kl A K P).length), g_ma hh 31 B') ∧ g_k B' A (g_kl A K P) ∧ ∀ g i w, g ≠ 2 → ¬ (g = 0 ∧ i = 5) → B' g i w = B g i w) K.length (fun j z hj ⟨T, e, h1, h2, h3, h4⟩ => by
      subst e
      dsimp only
      have hn := g_tk2 (K := K) (q := fun i => !P (g_ep A i)) (j := j)
      have hKj := hK K[j] (List.getElem_mem hj)
      have hep := g_ep_lt hw hKj
      rw [m_g (by omega), h1, if_neg (nI_ge hj (by omega))]
      have he : Mo_leadsTo (nI j) (g_ma hh 31 T) = some (nI (g_ep A K[j])) := by
        unfold Mo_leadsTo
        rw [m_en1 (by omega), m_en2 (by omega), h3 j hj (Nat.le_refl _) 1 (by omega), h3 j hj (Nat.le_refl _) 2 (by omega)]
        simp only [Option.bind_some]
        rw [hep.2.1, hep.2.2, show (10 : Int32) = nI 10 from rfl, pk_mul, nI_add, Nat.div_add_mod]
      rw [m_inb hlo hhi hL hep.1 (fun j hj => by rw [g_ma_ne (by decide)]; exact hl j hj) he, hP]
      simp only [Option.bind_some]
      have tk := g_tk1 (q := fun i => !P (g_ep A i)) hj
      cases c : P (g_ep A K[j]) with
      | true =>
        rw [if_neg (show ¬ q_bi true = 0 by decide)]
        have tk' : (K.take (j + 1)).filter (fun i => !P (g_ep A i)) = (K.take j).filter (fun i => !P (g_ep A i)) := by
          rw [tk, if_neg (by rw [c]; decide), List.append_nil]
        refine ⟨_, rfl, T, ?_, h1, ?_, fun x hx hjx => h3 x hx (by omega), h4⟩
        · rw [tk', nI_1]
        · rw [tk']; exact h2
      | false =>
        rw [if_pos (show q_bi false = 0 by decide), m_ecp2 (by omega) (by omega)]
        simp only [Option.bind_some]
        have tk' : (K.take (j + 1)).filter (fun i => !P (g_ep A i)) = (K.take j).filter (fun i => !P (g_ep A i)) ++ [K[j]] := by
          rw [tk, if_pos (by rw [c]; decide)]
        generalize hF : (K.take j).filter (fun i => !P (g_ep A i)) = F at *
        refine ⟨_, rfl, g_ec T F.length j 4, ?_, ?_, ?_, ?_, ?_⟩
        · rw [tk', List.length_append, List.length_singleton, nI_1, nI_1]
        · unfold g_ec
          rw [if_neg (by omega)]; exact h1
        · rw [tk']
          intro x hx w hw4
          rw [List.length_append, List.length_singleton] at hx
          unfold g_ec
          by_cases d : x = F.length
          · subst d
            rw [if_pos ⟨rfl, rfl, hw4⟩, List.getElem_concat_length (by rfl)]
            exact h3 j hj (Nat.le_refl _) w hw4
          · have hx' : x < F.length := by omega
            rw [List.getElem_append_left hx', if_neg (fun q => d q.2.1)]
            exact h2 x hx' w hw4
        · intro x hx hjx w hw4
          unfold g_ec
          rw [if_neg (by omega)]
          exact h3 x hx (by omega) w hw4
        · intro g i w hg
          unfold g_ec
          rw [if_neg (fun q => hg q.1)]
          exact h4 g i w hg)
    (fun z ⟨T, e, h1, h2, h3, h4⟩ => by
      subst e
      dsimp only
      rw [m_g (by omega), h1, if_pos (Int32.le_refl _)]
      rw [List.take_length] at h2 ⊢
      have ek : g_kl A K P = K.filter (fun i => !P (g_ep A i)) := rfl
      have hle := List.length_filter_le (fun i => !P (g_ep A i)) K
      rw [pk_sub hle, g_w0 (by omega), ek]
      refine ⟨_, rfl, _, rfl, ⟨by rw [g_au_eq], fun x hx w hw4 => ?_⟩, fun g i w a b => ?_⟩
      · rw [g_au_ne (by omega)]
        exact h2 x hx w hw4
      · rw [g_au_ne (by omega)]; exact h4 g i w a) ((0 : Int32), (0 : Int32), g_ma hh 31 B) q_fu (by unfold q_fu; omega) ⟨B, rfl, hB.1, fun x h => by simp at h, fun x h _ => hB.2 x h, fun _ _ _ _ => rfl⟩
  obtain ⟨B', er', q⟩ := er
  refine ⟨B', ?_, q⟩
  rw [← er']
  exact g_bs e
end g_M
