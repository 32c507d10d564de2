/-! stubs go, by batches: how the reference does it, whole -/
theorem g_Q_lt {b n q : Nat} (hb : 1 ≤ b) (h : q < g_Q b n) : q * b < n := by
  unfold g_Q at h
  have e := Nat.div_add_mod n b
  rw [Nat.mul_comm] at e
  generalize hd : n / b = d at *
  generalize hr : n % b = r at *
  by_cases c : r = 0
  · rw [if_pos c] at h
    have := Nat.mul_le_mul_right b (show q + 1 ≤ d from h)
    rw [Nat.succ_mul] at this
    omega
  · rw [if_neg c] at h
    have := Nat.mul_le_mul_right b (show q ≤ d by omega)
    omega
theorem g_Q_ge {b n : Nat} (hb : 1 ≤ b) : n ≤ g_Q b n * b := by
  unfold g_Q
  have e := Nat.div_add_mod n b
  have hlt := Nat.mod_lt n (show b > 0 by omega)
  rw [Nat.mul_comm] at e
  generalize hd : n / b = d at *
  generalize hr : n % b = r at *
  by_cases c : r = 0
  · rw [if_pos c]; omega
  · rw [if_neg c, Nat.succ_mul]; omega
theorem g_Q_le {b n : Nat} (hb : 1 ≤ b) : g_Q b n ≤ n := by
  rcases Nat.eq_zero_or_pos (g_Q b n) with q | q
  · omega
  · have h := g_Q_lt (b := b) (n := n) (q := g_Q b n - 1) hb (by omega)
    have := Nat.mul_le_mul_left (g_Q b n - 1) hb
    omega
theorem g_ps1_o {D : g_A} {x g i w : Nat} (h : ¬ (g = 0 ∧ (i = 6 ∨ i = 12 ∨ i = 13))) (h4 : g ≠ 4) : g_ps1 D x g i w = D g i w := by
  unfold g_ps1 g_tell
  rw [if_neg (by omega), if_neg (by omega), g_au_ne (by omega), g_au_ne (by omega)]
theorem g_pd_o {A : g_A} {L : List Nat} {b g i w : Nat} (h : ¬ (g = 0 ∧ (i = 6 ∨ i = 12 ∨ i = 13))) (h4 : g ≠ 4) : ∀ q, g_pd A L b q g i w = A g i w := by
  intro q
  induction q with
  | zero => rfl
  | succ q ih => rw [g_pd_s, g_ps1_o h h4, ih]
def g_lo4 (B D : g_A) : Prop := ∀ g i w, g ≠ 1 → g ≠ 2 → ¬ (g = 0 ∧ i = 5) → B g i w = D g i w
theorem g_ps1_c {B D : g_A} {x : Nat} (h : g_lo4 B D) : g_lo4 (g_ps1 B x) (g_ps1 D x) := fun g i w a b c => by
  have h0 : ∀ j, j ≠ 5 → B 0 j 0 = D 0 j 0 := fun j hj => h 0 j 0 (by omega) (by omega) (by omega)
  unfold g_ps1 g_tell
  have e : ∀ g i w, g ≠ 1 → g ≠ 2 → ¬ (g = 0 ∧ i = 5) → g_au (g_au B 0 12 0 (B 0 12 0 + 1)) 0 13 0 (g_au B 0 12 0 (B 0 12 0 + 1) 0 13 0 + nI x) g i w = g_au (g_au D 0 12 0 (D 0 12 0 + 1)) 0 13 0 (g_au D 0 12 0 (D 0 12 0 + 1) 0 13 0 + nI x) g i w := fun g i w a b c => by
    rw [h0 12 (by omega), g_au_ne (g := 0) (i := 12) (w := 0) (by omega), g_au_ne (A := D) (g := 0) (i := 12) (w := 0) (by omega), h0 13 (by omega)]
    unfold g_au
    split
    · rfl
    · split
      · rfl
      · exact h g i w a b c
  rw [e g i w a b c, e 4 (i - 1) w (by omega) (by omega) (by omega), e 0 6 0 (by omega) (by omega) (by omega)]
def g_f36 (h h' : q_H) : Prop := (∀ t f k i, ¬ (k = 7 ∧ ((f = 0 ∧ t = 36) ∨ (t = 30 ∧ f = 9))) → h'.1 t f k i = h.1 t f k i) ∧ h'.2 = h.2
theorem g_f36_M {h h' : q_H} (a : g_f36 h h') : g_fM h h' := ⟨fun t f k i n => a.1 t f k i (fun q => n ⟨q.1, by omega⟩), a.2⟩
theorem g_f36_tr {h h' h'' : q_H} (a : g_f36 h h') (b : g_f36 h' h'') : g_f36 h h'' := ⟨fun t f k i n => (b.1 t f k i n).trans (a.1 t f k i n), b.2.trans a.2⟩
theorem g_f36_9 {h : q_H} {v : Int32} : g_f36 h (q_si h 30 9 7 0 v) := ⟨fun t g k j n => g_rd_o (fun q => n ⟨q.2.2.1, Or.inr ⟨q.1, q.2.1⟩⟩), rfl⟩
theorem g_f36_36 {h : q_H} {i : Nat} {v : Int32} : g_f36 h (q_si h 36 0 7 i v) := ⟨fun t g k j n => g_rd_o (fun q => n ⟨q.2.2.1, Or.inl ⟨q.2.1, q.1⟩⟩), rfl⟩
theorem g_fM_36 {h : q_H} {i : Nat} {v : Int32} : g_fM h (q_si h 36 0 7 i v) := ⟨fun t g k j n => by
  unfold q_si
  dsimp only
  rw [if_neg (fun q => n ⟨q.2.2.1, Or.inl ⟨q.2.1, by omega⟩⟩)], rfl⟩
section g_M
variable {hh : q_H} {A B : g_A}
theorem m_zeros {L : List Nat} {lo hi : Nat} (hlo : lo ≤ hi) (hhi : hi ≤ L.length) (hL : L.length ≤ 60) (hl : ∀ j (hj : j < L.length), hh.1 36 0 7 j = nI L[j] ∧ L[j] < 60) : ∃ B', q_lp (fun s40 : Int32 × q_H => (if nI hi ≤ s40.1 then (some (.inr (s40.2))) else (bif q_in s40.1 60 then ((Mo_sets (s40.2.1 36 0 7 s40.1.toNatClampNeg) (0 : Int32) (0 : Int32) s40.2).bind fun x48 => some (.inl ((s40.1 + (1 : Int32)), x48))) else none) : Option ((Int32 × q_H) ⊕ (q_H)))) q_fu ((nI lo, g_ma hh 31 B) : Int32 × q_H) = some (g_ma hh 31 B') ∧ ∀ g i w, B' g i w = if g = 1 ∧ w = 0 ∧ i ∈ (L.take hi).drop lo then 0 else B g i w := by
  obtain ⟨r, e, er⟩ := g_lpH (body := fun s40 : Int32 × q_H => (if nI hi ≤ s40.1 then (some (.inr (s40.2))) else (bif q_in s40.1 60 then ((Mo_sets (s40.2.1 36 0 7 s40.1.toNatClampNeg) (0 : Int32) (0 : Int32) s40.2).bind fun x48 => some (.inl ((s40.1 + (1 : Int32)), x48))) else none) : Option ((Int32 × q_H) ⊕ (q_H)))) (fun x z => ∃ B', z = (nI (lo + x), g_ma hh 31 B') ∧ ∀ g i w, B' g i w = if g = 1 ∧ w = 0 ∧ i ∈ (L.take (lo + x)).drop lo then 0 else B g i w) (fun r => ∃ B', r = g_ma hh 31 B' ∧ ∀ g i w, B' g i w = if g = 1 ∧ w = 0 ∧ i ∈ (L.take hi).drop lo then 0 else B g i w) (hi - lo) (fun x z hx ⟨B', e, h1⟩ => by
      subst e
      dsimp only
      have hj : lo + x < L.length := by omega
      obtain ⟨l1, l2⟩ := hl _ hj
      rw [if_neg (nI_ge (by omega) (by omega)), g_inN (by omega) (by decide), cond_true, g_cl (by omega), g_ma_ne (by decide), l1, m_st0 l2, nI_1]
      simp only [Option.bind_some]
      refine ⟨_, rfl, _, rfl, fun g i w => ?_⟩
      rw [← Nat.add_assoc, g_tkd (Nat.le_add_right _ _) hj]
      unfold g_au
      by_cases c : g = 1 ∧ i = L[lo + x] ∧ w = 0
      · rw [if_pos c, if_pos ⟨c.1, c.2.2, by rw [c.2.1]; exact List.mem_append_right _ (List.mem_singleton.mpr rfl)⟩]
      · rw [if_neg c, h1]
        by_cases d : g = 1 ∧ w = 0 ∧ i ∈ (L.take (lo + x)).drop lo
        · rw [if_pos d, if_pos ⟨d.1, d.2.1, List.mem_append_left _ d.2.2⟩]
        · rw [if_neg d, if_neg (fun q => by
            rcases List.mem_append.mp q.2.2 with y | y
            · exact d ⟨q.1, q.2.1, y⟩
            · exact c ⟨q.1, List.mem_singleton.mp y, q.2.1⟩)])
    (fun z ⟨B', e, h1⟩ => by
      subst e
      dsimp only
      rw [show lo + (hi - lo) = hi by omega] at h1 ⊢
      rw [if_pos (Int32.le_refl _)]
      exact ⟨_, rfl, _, rfl, h1⟩) (nI lo, g_ma hh 31 B) q_fu (by unfold q_fu; omega) ⟨B, rfl, fun g i w => by
        have : (L.take (lo + 0)).drop lo = [] := by
          rw [Nat.add_zero]
          exact List.drop_eq_nil_of_le (by rw [List.length_take]; omega)
        rw [this, if_neg (fun q => by simp at q)]⟩
  obtain ⟨B', e', q⟩ := er
  exact ⟨B', by rw [← e']; exact e, q⟩
end g_M
/-- how it is after the passes -/
def g_pv (A : g_A) (b : Nat) (q : Nat) (L : List Nat) (B : g_A) : Prop := g_k B A (g_kp A (g_iX (L.take (q * b)))) ∧ (∀ s w, B 1 s w = if w = 0 ∧ s ∈ L.take (q * b) then 0 else A 1 s w) ∧ g_lo4 B (g_pd A L b q)
theorem m_passes {A : g_A} {h : q_H} {b : Nat} (hl : g_wl A) (hwi : g_wi A) (hb : 1 ≤ b) (hb8 : b ≤ 8) (h01 : A 0 1 0 = nI b) : ∃ hh B, Mo_passes (g_ma h 31 A) = some (g_ma hh 31 B) ∧ g_f36 h hh ∧ hh.1 30 9 7 0 = nI (g_sL A 60).length ∧ hh.1 30 6 7 0 = h.1 30 6 7 0 ∧ g_pv A b (g_Q b (g_sL A 60).length) (g_sL A 60) B := by
  unfold Mo_passes
  obtain ⟨r, e, hh, er, f1, f2, f3, f4⟩ := g_lpH (body := fun s1 : Int32 × q_H => (if (60 : Int32) ≤ s1.1 then (some (.inr (s1.2))) else ((Mo_isSlot s1.1 s1.2).bind fun x9 => Option.bind (α := q_H) (if x9 = 0 then (some (s1.2)) else ((Mo_of s1.1 (0 : Int32) s1.2).bind fun x15 => if x15 = (3 : Int32) then (bif q_in (s1.2.1 30 9 7 0) 60 then (some ((q_si (q_si s1.2 36 0 7 (s1.2.1 30 9 7 0).toNatClampNeg s1.1) 30 9 7 0 (((q_si s1.2 36 0 7 (s1.2.1 30 9 7 0).toNatClampNeg s1.1).1 30 9 7 0) + (1 : Int32))))) else none) else (some (s1.2)))) (fun p20 => some (.inl ((s1.1 + (1 : Int32)), p20)))) : Option ((Int32 × q_H) ⊕ (q_H))))
    (fun i z => ∃ hh, z = (nI i, g_ma hh 31 A) ∧ hh.1 30 9 7 0 = nI (g_sL A i).length ∧ (∀ j (hj : j < (g_sL A i).length), hh.1 36 0 7 j = nI (g_sL A i)[j]) ∧ g_f36 h hh ∧ hh.1 30 6 7 0 = h.1 30 6 7 0)
    (fun r => ∃ hh, r = g_ma hh 31 A ∧ hh.1 30 9 7 0 = nI (g_sL A 60).length ∧ (∀ j (hj : j < (g_sL A 60).length), hh.1 36 0 7 j = nI (g_sL A 60)[j]) ∧ g_f36 h hh ∧ hh.1 30 6 7 0 = h.1 30 6 7 0) 60
    (fun i z hi ⟨hh, e, f1, f2, f3, f4⟩ => by
      subst e
      dsimp only
      have hls := g_sL_s (A := A) (i := i)
      have hle := g_sL_l (A := A) (i := i)
      rw [if_neg (show ¬ (60 : Int32) ≤ nI i from nI_ge (b := 60) hi (by decide)), m_isSlot hi hl]
      simp only [Option.bind_some]
      have no : g_sb A i = false → ∃ hh', (some (.inl (nI i + 1, g_ma hh 31 A)) : Option ((Int32 × q_H) ⊕ q_H)) = some (.inl (nI (i + 1), g_ma hh' 31 A)) ∧ hh'.1 30 9 7 0 = nI (g_sL A (i + 1)).length ∧ (∀ j (hj : j < (g_sL A (i + 1)).length), hh'.1 36 0 7 j = nI (g_sL A (i + 1))[j]) ∧ g_f36 h hh' ∧ hh'.1 30 6 7 0 = h.1 30 6 7 0 := fun c => by
        rw [if_neg (by rw [c]; decide), List.append_nil] at hls
        rw [hls, nI_1]
        exact ⟨hh, rfl, f1, f2, f3, f4⟩
      cases c : g_iv A i with
      | false =>
        rw [if_pos (show q_bi false = 0 by decide)]
        obtain ⟨hh', e1, e2⟩ := no (by unfold g_sb; rw [c]; rfl)
        exact ⟨_, e1, hh', rfl, e2⟩
      | true =>
        rw [if_neg (show ¬ q_bi true = 0 by decide), m_of0 hi]
        simp only [Option.bind_some]
        by_cases d : A 1 i 0 = 3
        · have hsb : g_sb A i = true := by unfold g_sb; rw [c, decide_eq_true d]; rfl
          rw [if_pos hsb] at hls
          rw [if_pos d, g_ma_ne (by decide), f1, g_inN (by omega) (by decide), cond_true, g_cl (by omega), g_ma_si_ne (by decide), g_ma_ne (by decide), g_rd_o (by omega), f1, g_ma_si_ne (by decide), nI_1, nI_1]
          simp only [Option.bind_some]
          refine ⟨_, rfl, _, rfl, ?_, fun j hj => ?_, g_f36_tr (g_f36_tr f3 g_f36_36) g_f36_9, ?_⟩
          · rw [g_rd_e, hls, List.length_append]; rfl
          · rw [g_rd_o (by omega)]
            have hj' : j < (g_sL A i).length + 1 := by rw [hls, List.length_append] at hj; exact hj
            have ej : (g_sL A (i + 1))[j] = (g_sL A i ++ [i])[j]'(by rw [List.length_append]; exact hj') := by
              congr 1
            rw [ej]
            by_cases y : j = (g_sL A i).length
            · subst y
              rw [g_rd_e, List.getElem_concat_length (by rfl)]
            · rw [g_rd_o (by omega), List.getElem_append_left (by omega)]
              exact f2 j (by omega)
          · rw [g_rd_o (by omega), g_rd_o (by omega)]; exact f4
        · rw [if_neg d]
          obtain ⟨hh', e1, e2⟩ := no (by unfold g_sb; rw [decide_eq_false d, Bool.and_false])
          exact ⟨_, e1, hh', rfl, e2⟩)
    (fun z ⟨hh, e, f1, f2, f3, f4⟩ => by
      subst e
      dsimp only
      rw [if_pos (show (60 : Int32) ≤ nI 60 from Int32.le_refl _)]
      exact ⟨_, rfl, hh, rfl, f1, f2, f3, f4⟩) ((0 : Int32), (q_si (g_ma h 31 A) 30 9 7 0 (0 : Int32))) q_fu (by unfold q_fu; omega)
    ⟨q_si h 30 9 7 0 0, by rw [g_ma_si_ne (by decide)]; rfl, g_rd_e, fun j hj => by simp [g_sL] at hj, g_f36_9, g_rd_o (by omega)⟩
  rw [e, er]
  simp only [Option.bind_some]
  generalize hL : g_sL A 60 = L at *
  have hLl : L.length ≤ 60 := by rw [← hL]; exact g_sL_l
  have hLs : ∀ j (hj : j < L.length), hh.1 36 0 7 j = nI L[j] ∧ L[j] < 60 := fun j hj => ⟨f2 j hj, by
    have : L[j] ∈ g_sL A 60 := by rw [hL]; exact List.getElem_mem hj
    exact (g_sL_m.mp this).1⟩
  obtain ⟨r2, e2, B, er2, q2⟩ := g_lpH (body := fun s24 : Int32 × q_H => (if (s24.2.1 30 9 7 0) ≤ s24.1 then (some (.inr (s24.2))) else (Option.bind (α := Int32) (if (s24.2.1 30 9 7 0) ≤ (s24.1 + (s24.2.1 31 0 7 1)) then (some ((s24.2.1 30 9 7 0))) else (some ((s24.1 + (s24.2.1 31 0 7 1))))) (fun p37 => (Mo_takesOut s24.1 p37 s24.2).bind fun x38 => (q_lp (fun s40 : Int32 × q_H => (if p37 ≤ s40.1 then (some (.inr (s40.2))) else (bif q_in s40.1 60 then ((Mo_sets (s40.2.1 36 0 7 s40.1.toNatClampNeg) (0 : Int32) (0 : Int32) s40.2).bind fun x48 => some (.inl ((s40.1 + (1 : Int32)), x48))) else none) : Option ((Int32 × q_H) ⊕ (q_H)))) q_fu ((s24.1, x38.2) : Int32 × q_H)).bind fun p52 => (Mo_tellsOf (4 : Int32) x38.1 (q_si (q_si p52 31 0 7 12 ((p52.1 31 0 7 12) + (1 : Int32))) 31 0 7 13 (((q_si p52 31 0 7 12 ((p52.1 31 0 7 12) + (1 : Int32))).1 31 0 7 13) + x38.1))).bind fun x53 => some (.inl ((s24.1 + (x53.1 31 0 7 1)), x53)))) : Option ((Int32 × q_H) ⊕ q_H)))
    (fun q z => ∃ B, z = (nI (q * b), g_ma hh 31 B) ∧ g_pv A b q L B)
    (fun r => ∃ B, r = g_ma hh 31 B ∧ g_pv A b (g_Q b L.length) L B) (g_Q b L.length)
    (fun q z hq ⟨B, e, k1, k2, k3⟩ => by
      subst e
      dsimp only
      have hlt := g_Q_lt hb hq
      have b01 : B 0 1 0 = nI b := by rw [k3 0 1 0 (by omega) (by omega) (by omega), g_pd_o (by omega) (by omega)]; exact h01
      rw [g_ma_ne (by decide), f1, if_neg (nI_ge hlt (by omega)), m_g (by omega), b01, nI_add]
      have key : ∃ hi, (if nI L.length ≤ nI (q * b + b) then (some (nI L.length)) else (some (nI (q * b + b)))) = some (nI hi) ∧ q * b ≤ hi ∧ hi ≤ L.length ∧ L.take hi = L.take (q * b + b) := by
        by_cases c : L.length ≤ q * b + b
        · rw [if_pos (nI_le c (by omega))]
          exact ⟨_, rfl, by omega, Nat.le_refl _, by rw [List.take_length, List.take_of_length_le c]⟩
        · rw [if_neg (nI_ge (by omega) (by omega))]
          exact ⟨_, rfl, by omega, by omega, rfl⟩
      obtain ⟨hi, e1, h1, h2, h3⟩ := key
      rw [e1]
      simp only [Option.bind_some]
      have h60 : (g_kp A (g_iX (L.take (q * b)))).length ≤ 60 := Nat.le_trans g_kp_le hwi.2.1
      obtain ⟨B1, t1, t2, t3⟩ := m_takesOut (hh := hh) hwi (fun i hi => g_kp_lt hi) h60 k1 h1 h2 hLl hLs
      rw [t1]
      simp only [Option.bind_some]
      obtain ⟨B2, z1, z2⟩ := m_zeros (hh := hh) (B := B1) h1 h2 hLl hLs
      rw [z1]
      simp only [Option.bind_some]
      have eapp : L.take (q * b) ++ (L.take hi).drop (q * b) = L.take (q * b + b) := by
        have := List.take_append_drop (q * b) (L.take hi)
        rw [List.take_take, Nat.min_eq_left h1] at this
        rw [this, h3]
      have ekl : g_kl A (g_kp A (g_iX (L.take (q * b)))) (g_iX ((L.take hi).drop (q * b))) = g_kp A (g_iX (L.take (q * b + b))) := by
        rw [g_kl_kp]
        congr 1
        funext s
        unfold g_iX
        rw [← eapp, Bool.eq_iff_iff]
        simp only [Bool.or_eq_true, decide_eq_true_iff, List.mem_append]
      rw [ekl] at t2 ⊢
      rw [m_g (by omega), g_w0 (by omega), m_g (by omega), g_w0 (by omega), m_tells]
      simp only [Option.bind_some]
      rw [m_g (by omega)]
      have k3' : g_lo4 B2 (g_pd A L b q) := fun g i w a c d => by
        rw [z2, if_neg (fun q => a q.1), t3 g i w c d]
        exact k3 g i w a c d
      have eps : g_tell (g_au (g_au B2 0 12 0 (B2 0 12 0 + 1)) 0 13 0 (g_au B2 0 12 0 (B2 0 12 0 + 1) 0 13 0 + nI ((g_kp A (g_iX (L.take (q * b)))).length - (g_kp A (g_iX (L.take (q * b + b)))).length))) 4 (nI ((g_kp A (g_iX (L.take (q * b)))).length - (g_kp A (g_iX (L.take (q * b + b)))).length)) = g_ps1 B2 (g_fl A (L.take (q * b)) - g_fl A (L.take (q * b + b))) := rfl
      rw [eps]
      have hlo := g_ps1_c (x := g_fl A (L.take (q * b)) - g_fl A (L.take (q * b + b))) k3'
      rw [← g_pd_s] at hlo
      have e01 : g_ps1 B2 (g_fl A (L.take (q * b)) - g_fl A (L.take (q * b + b))) 0 1 0 = nI b := by
        rw [hlo 0 1 0 (by omega) (by omega) (by omega), g_pd_o (by omega) (by omega)]; exact h01
      rw [e01, nI_add]
      have eq1 : (q + 1) * b = q * b + b := Nat.succ_mul q b
      refine ⟨_, rfl, _, by rw [eq1], ⟨?_, fun j hj w hw => ?_⟩, fun s w => ?_, hlo⟩
      · rw [eq1, g_ps1_o (by omega) (by omega), z2, if_neg (by omega)]; exact t2.1
      · rw [g_ps1_o (by omega) (by omega), z2, if_neg (by omega)]
        rw [eq1] at hj
        simp only [eq1]
        exact t2.2 j hj w hw
      · rw [g_ps1_o (by omega) (by omega), z2, eq1, ← eapp, t3 1 s w (by omega) (by omega), k2]
        by_cases c : w = 0 ∧ s ∈ (L.take hi).drop (q * b)
        · rw [if_pos ⟨rfl, c⟩, if_pos ⟨c.1, List.mem_append_right _ c.2⟩]
        · rw [if_neg (fun y => c y.2)]
          by_cases d : w = 0 ∧ s ∈ L.take (q * b)
          · rw [if_pos d, if_pos ⟨d.1, List.mem_append_left _ d.2⟩]
          · rw [if_neg d, if_neg (fun y => by
              rcases List.mem_append.mp y.2 with x | x
              · exact d ⟨y.1, x⟩
              · exact c ⟨y.1, x⟩)])
    (fun z ⟨B, e, k1, k2, k3⟩ => by
      subst e
      dsimp only
      have hge := g_Q_ge (n := L.length) hb
      have hle := g_Q_le (n := L.length) hb
      have hm : g_Q b L.length * b ≤ 60 * 8 := Nat.mul_le_mul (by omega) hb8
      rw [g_ma_ne (by decide), f1, if_pos (nI_le hge (by omega))]
      exact ⟨_, rfl, B, rfl, k1, k2, k3⟩) ((0 : Int32), g_ma hh 31 A) q_fu (by have := g_Q_le (n := L.length) hb; unfold q_fu; omega)
    ⟨A, by rw [Nat.zero_mul]; rfl, by
      have e0 : g_kp A (g_iX (L.take (0 * b))) = List.range (g_ne A) := by
        rw [Nat.zero_mul, List.take_zero]
        unfold g_kp
        rw [List.filter_eq_self]
        intro a _
        rfl
      refine ⟨⟨by rw [e0, List.length_range]; exact hwi.1, fun j hj w hw => ?_⟩, fun s w => by rw [Nat.zero_mul, List.take_zero, if_neg (fun y => by simp at y)], fun _ _ _ _ _ _ => rfl⟩
      have ej : (g_kp A (g_iX (L.take (0 * b))))[j] = j := by
        simp only [e0, List.getElem_range]
      rw [ej]⟩
  refine ⟨hh, B, ?_, f3, f1, f4, q2⟩
  rw [← er2]
  exact g_bs e2
