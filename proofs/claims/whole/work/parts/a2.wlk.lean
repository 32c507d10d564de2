/-! a look goes through an entry's chain -/
def g_wkf (z t : Nat) (key : Int32) (i : Nat) (X : Bool × Bool × Nat × g_A) : Bool × Bool × Nat × g_A :=
  let B := bif !X.2.1 && (g_se X.2.2.2 t X.2.2.1 && decide (X.2.2.2 1 X.2.2.1 3 = key)) then g_fd X.2.2.2 X.2.2.1 i else X.2.2.2
  (X.1 || !g_de X.2.2.2 z X.2.2.1, X.2.1 || g_se X.2.2.2 t X.2.2.1, g_nn B X.2.2.1, B)
def g_wk (z t : Nat) (key : Int32) (A : g_A) (c : Nat) (i : Nat) : Bool × Bool × Nat × g_A := match i with | 0 => (false, false, c, A) | i + 1 => if (g_wk z t key A c i).2.2.1 < 60 then g_wkf z t key i (g_wk z t key A c i) else g_wk z t key A c i
theorem g_wk_s {z t : Nat} {key : Int32} {A : g_A} {c i : Nat} : g_wk z t key A c (i + 1) = if (g_wk z t key A c i).2.2.1 < 60 then g_wkf z t key i (g_wk z t key A c i) else g_wk z t key A c i := rfl
theorem g_wk_e {z t : Nat} {key : Int32} {A : g_A} {c i : Nat} (h : ¬ (g_wk z t key A c i).2.2.1 < 60) : ∀ d, g_wk z t key A c (i + d) = g_wk z t key A c i := by
  intro d
  induction d with
  | zero => rfl
  | succ d ih => rw [← Nat.add_assoc, g_wk_s, ih, if_neg h]
/-- what holds on the way -/
def g_wJ (A : g_A) (c i : Nat) (X : Bool × Bool × Nat × g_A) : Prop := g_fq A X.2.2.2 ∧ g_W X.2.2.2 ∧ (X.2.1 = false → X.2.2.2 = A) ∧ g_nf X.2.2.2 ≤ g_nf A + 1 ∧ (X.2.2.1 < 60 → X.2.2.1 = g_ci A c i ∧ g_fu X.2.2.2 X.2.2.1 = true) ∧ (∀ i w, X.2.2.2 2 i w = A 2 i w) ∧ X.2.2.2 0 5 0 = A 0 5 0
theorem g_wJ_s {z t : Nat} {key : Int32} {A : g_A} {c i : Nat} (hW : g_W A) (hn : g_nf A < 60) (hc : c < 60) (hf : g_fu A c = true) {X : Bool × Bool × Nat × g_A} (h : g_wJ A c i X) (hs : X.2.2.1 < 60) : g_wJ A c (i + 1) (g_wkf z t key i X) := by
  obtain ⟨h1, h2, h3, h4, h5, h6, h7⟩ := h
  obtain ⟨e5, f5⟩ := h5 hs
  obtain ⟨wt, wq, wl, wv, wc, wL, wT, wE, wF⟩ := hW.1
  have key2 : ∀ B : g_A, g_fq A B → g_nn B X.2.2.1 < 60 → g_nn B X.2.2.1 = g_ci A c (i + 1) ∧ g_fu B (g_nn B X.2.2.1) = true := fun B hB hlt => by
    have fA : g_fu A X.2.2.1 = true := (fq_fu h1 hs).symm.trans f5
    have e : g_nn B X.2.2.1 = g_nn A X.2.2.1 := fq_nn hB wv hs fA
    have eci : g_ci A c (i + 1) = g_nn A X.2.2.1 := by rw [g_ci_s, if_pos (by rw [← e5]; exact hs), ← e5]
    refine ⟨e.trans eci.symm, ?_⟩
    have hm := (g_nn_in hlt)
    rw [hm.1]; exact hm.2.2.2.1
  unfold g_wkf
  cases hb : (!X.2.1 && (g_se X.2.2.2 t X.2.2.1 && decide (X.2.2.2 1 X.2.2.1 3 = key))) with
  | false => exact ⟨h1, h2, fun y => h3 (by revert y; cases X.2.1 <;> intro y <;> first | rfl | exact y), h4, fun y => key2 _ h1 y, h6, h7⟩
  | true =>
    have ht : X.2.1 = false := by
      cases q : X.2.1 with
      | false => rfl
      | true => rw [q] at hb; cases hb
    have hse : g_se X.2.2.2 t X.2.2.1 = true := by
      cases q : g_se X.2.2.2 t X.2.2.1 with
      | true => rfl
      | false => rw [ht, q] at hb; cases hb
    have eA := h3 ht
    have hn' : g_nf X.2.2.2 < 60 := by rw [eA]; exact hn
    have hq : g_fq A (g_fd X.2.2.2 X.2.2.1 i) := by
      have := g_fd_fq (A := X.2.2.2) (s := X.2.2.1) (pos := i)
      exact ⟨fun s w => (this.1 s w).trans (h1.1 s w), fun s w => (this.2.1 s w).trans (h1.2.1 s w), fun s w => (this.2.2.1 s w).trans (h1.2.2.1 s w), fun j hj => (this.2.2.2 j hj).trans (h1.2.2.2 j hj)⟩
    refine ⟨hq, g_fd_W h2 hs hn', fun y => ?_, ?_, fun y => key2 _ hq y, fun j w => ?_, ?_⟩
    · dsimp only at y
      rw [ht, hse] at y; cases y
    · show g_nf (g_fd X.2.2.2 X.2.2.1 i) ≤ _
      rw [(g_fd_nf hn').1, eA]
      exact Nat.le_refl _
    · show g_fd X.2.2.2 X.2.2.1 i 2 j w = _
      rw [g_fd_o (by omega) (by omega)]; exact h6 j w
    · show g_fd X.2.2.2 X.2.2.1 i 0 5 0 = _
      rw [g_fd_o (by omega) (by omega)]; exact h7
theorem c_walk {b : Nat} {H : q_H} {k t c : Nat} {key : Int32} {A : g_A} (hW : g_W A) (hR : g_R b (g_st H k) A) (hn : g_nf A < 60) (hc : c < 60 → g_fu A c = true) (ht : g_tn A t) : ∃ S', q_lp (fun s5 : Int32 × Int32 × Int32 × Int32 × q_H => (if (10 : Int32) ≤ s5.2.2.2.1 then (some (.inr ((s5.2.1, s5.2.2.2.2)))) else (if s5.1 = (-1 : Int32) then (some (.inr ((s5.2.1, s5.2.2.2.2)))) else ((Pg_at k s5.1 s5.2.2.2.2).bind fun x13 => Option.bind (α := Int32) (if ¬ s5.2.1 = 0 then (some ((1 : Int32))) else ((St_isDead k k x13 s5.2.2.2.2).bind fun x19 => if ¬ x19 = 0 then (some ((0 : Int32))) else (some ((1 : Int32))))) (fun p23 => Option.bind (α := Int32 × q_H) (if ¬ s5.2.2.1 = 0 then (some ((s5.2.2.1, s5.2.2.2.2))) else ((St_isSeen k (nI t) k x13 s5.2.2.2.2).bind fun x28 => if x28 = 0 then (some ((s5.2.2.1, s5.2.2.2.2))) else (if ¬ (s5.2.2.2.2.1 3 3 k x13) = key then (some (((1 : Int32), s5.2.2.2.2))) else ((Fo_add k (s5.2.2.2.2.1 3 2 k x13) (s5.2.2.2.2.1 3 4 k x13) s5.1 s5.2.2.2.1 s5.2.2.2.2).bind fun x30 => some (((1 : Int32), x30)))))) (fun p35 => (St_chainNext k s5.1 p35.2).bind fun x36 => some (.inl (x36, p23, p35.1, (s5.2.2.2.1 + (1 : Int32)), p35.2)))))) : Option ((Int32 × Int32 × Int32 × Int32 × q_H) ⊕ (Int32 × q_H)))) q_fu ((g_pp c, (0 : Int32), (0 : Int32), (0 : Int32), H) : Int32 × Int32 × Int32 × Int32 × q_H) = some (q_bi (g_wk (g_hz A) t key A c 10).1, g_cw H k S') ∧ g_R b S' (g_wk (g_hz A) t key A c 10).2.2.2 := by
  have hz : g_hz A < 1000 := by have := g_hb_le (A := A) (b := 0); have := hW.1.1.2.2; unfold g_hz; omega
  obtain ⟨r, e, S', er, h1⟩ := g_lpX (body := fun s5 : Int32 × Int32 × Int32 × Int32 × q_H => (if (10 : Int32) ≤ s5.2.2.2.1 then (some (.inr ((s5.2.1, s5.2.2.2.2)))) else (if s5.1 = (-1 : Int32) then (some (.inr ((s5.2.1, s5.2.2.2.2)))) else ((Pg_at k s5.1 s5.2.2.2.2).bind fun x13 => Option.bind (α := Int32) (if ¬ s5.2.1 = 0 then (some ((1 : Int32))) else ((St_isDead k k x13 s5.2.2.2.2).bind fun x19 => if ¬ x19 = 0 then (some ((0 : Int32))) else (some ((1 : Int32))))) (fun p23 => Option.bind (α := Int32 × q_H) (if ¬ s5.2.2.1 = 0 then (some ((s5.2.2.1, s5.2.2.2.2))) else ((St_isSeen k (nI t) k x13 s5.2.2.2.2).bind fun x28 => if x28 = 0 then (some ((s5.2.2.1, s5.2.2.2.2))) else (if ¬ (s5.2.2.2.2.1 3 3 k x13) = key then (some (((1 : Int32), s5.2.2.2.2))) else ((Fo_add k (s5.2.2.2.2.1 3 2 k x13) (s5.2.2.2.2.1 3 4 k x13) s5.1 s5.2.2.2.1 s5.2.2.2.2).bind fun x30 => some (((1 : Int32), x30)))))) (fun p35 => (St_chainNext k s5.1 p35.2).bind fun x36 => some (.inl (x36, p23, p35.1, (s5.2.2.2.1 + (1 : Int32)), p35.2)))))) : Option ((Int32 × Int32 × Int32 × Int32 × q_H) ⊕ (Int32 × q_H))))
    (fun i y => ∃ S', y = (g_pp (g_wk (g_hz A) t key A c i).2.2.1, q_bi (g_wk (g_hz A) t key A c i).1, q_bi (g_wk (g_hz A) t key A c i).2.1, nI i, g_cw H k S') ∧ g_R b S' (g_wk (g_hz A) t key A c i).2.2.2 ∧ g_wJ A c i (g_wk (g_hz A) t key A c i))
    (fun r => ∃ S', r = (q_bi (g_wk (g_hz A) t key A c 10).1, g_cw H k S') ∧ g_R b S' (g_wk (g_hz A) t key A c 10).2.2.2) 10
    (fun i y hi ⟨S', e, hR', hJ⟩ => by
      subst e
      dsimp only
      rw [if_neg (show ¬ (10 : Int32) ≤ nI i from nI_ge (b := 10) hi (by decide))]
      by_cases c60 : (g_wk (g_hz A) t key A c i).2.2.1 < 60
      · rw [if_neg (fun q => g_pp1.mp q c60)]
        have hc60 : c < 60 := by
          by_cases q : c < 60
          · exact q
          · exfalso
            have e0 := g_wk_e (z := g_hz A) (t := t) (key := key) (A := A) (c := c) (i := 0) q i
            rw [Nat.zero_add] at e0
            rw [e0] at c60
            exact q c60
        have hJ' := g_wJ_s (z := g_hz A) (t := t) (key := key) hW hn hc60 (hc hc60) hJ c60
        rw [g_wk_s, if_pos c60]
        generalize g_wk (g_hz A) t key A c i = X at c60 hR' hJ hJ' ⊢
        obtain ⟨live, told, s, B⟩ := X
        obtain ⟨h1, h2, h3, h4, h5, _, _⟩ := hJ
        dsimp only at h1 h2 h3 h4 h5 c60 hR' ⊢
        obtain ⟨_, fB⟩ := h5 c60
        obtain ⟨wt, wq, wl, wv, wc, wL, wT, wE, wF⟩ := id h2.1
        have hrs := r_ps hR'.2.2.2.1 c60
        have htB : g_tn B t := (g_ft_tn (fq_ft h1)).mpr ht
        have epp : g_pp s = nI s := if_pos c60
        have hd := c_isDead (H := g_cw H k S') (k := k) (z := g_hz A) (s := s) (by rw [g_st_cw]; exact hR'.2.1) (by rw [g_st_cw]; exact hrs) wt (fun f => wv s c60 f) (by rw [g_cw_rd, ← g_ft_hz (fq_ft h1)]; exact hR'.2.2.1) hz
        have hse := c_isSeen (H := g_cw H k S') (k := k) (t := t) (s := s) (by rw [g_st_cw]; exact hR'.2.1) (by rw [g_st_cw]; exact hrs) wt (wv s c60 fB) fB htB
        rw [fB, Bool.true_and] at hd
        rw [epp, c_at c60]
        simp only [Option.bind_some]
        rw [hd, hse]
        simp only [Option.bind_some]
        have r2 : (g_cw H k S').1 3 2 k s = B 1 s 2 := by rw [g_cw_rd]; exact (hrs.1 fB).2.2.1
        have r3 : (g_cw H k S').1 3 3 k s = B 1 s 3 := by rw [g_cw_rd]; exact (hrs.1 fB).2.2.2.1
        have r4 : (g_cw H k S').1 3 4 k s = B 1 s 4 := by rw [g_cw_rd]; exact (hrs.1 fB).2.2.2.2.1
        have e23 : (if ¬ q_bi live = 0 then (some ((1 : Int32))) else (if ¬ q_bi (g_de B (g_hz A) s) = 0 then (some ((0 : Int32))) else (some ((1 : Int32))))) = some (q_bi (live || !g_de B (g_hz A) s)) := by
          cases live <;> cases g_de B (g_hz A) s <;> rfl
        rw [e23, r2, r3, r4]
        simp only [Option.bind_some]
        have key3 : ∃ S2, (if ¬ q_bi told = 0 then (some ((q_bi told, g_cw H k S'))) else (if q_bi (g_se B t s) = 0 then (some ((q_bi told, g_cw H k S'))) else (if ¬ B 1 s 3 = key then (some (((1 : Int32), g_cw H k S'))) else ((Fo_add k (B 1 s 2) (B 1 s 4) (nI s) (nI i) (g_cw H k S')).bind fun x30 => some (((1 : Int32), x30)))))) = some (q_bi (told || g_se B t s), g_cw H k S2) ∧ g_R b S2 (bif !told && (g_se B t s && decide (B 1 s 3 = key)) then g_fd B s i else B) := by
          cases told with
          | true => exact ⟨S', rfl, hR'⟩
          | false =>
            rw [if_neg (show ¬ ¬ q_bi false = 0 by decide)]
            cases g_se B t s with
            | false => exact ⟨S', rfl, hR'⟩
            | true =>
              rw [if_neg (show ¬ q_bi true = 0 by decide)]
              by_cases d : B 1 s 3 = key
              · have hnB : g_nf B < 60 := by rw [h3 rfl]; exact hn
                rw [if_neg (fun y => y d), decide_eq_true d, c_fadd hnB (by rw [g_cw_rd]; exact hR'.2.2.2.2.2.2.2.1.1.trans h2.2.2.2.2.2.2.1.1), g_st_cw, g_cw_cw]
                exact ⟨_, rfl, g_fd_R h2 hR' c60 hnB⟩
              · rw [if_pos d, decide_eq_false d]
                exact ⟨S', rfl, hR'⟩
        obtain ⟨S2, e2, hR2⟩ := key3
        rw [e2]
        simp only [Option.bind_some]
        have hWB := hJ'.2.1
        have hq' := hJ'.1
        unfold g_wkf at hJ' hWB hq' ⊢
        dsimp only at hJ' hWB hq' ⊢
        generalize (bif !told && (g_se B t s && decide (B 1 s 3 = key)) then g_fd B s i else B) = B2 at hR2 hJ' hWB hq' ⊢
        have fB2 : g_fu B2 s = true := by rw [fq_fu hq' c60, ← fq_fu h1 c60]; exact fB
        obtain ⟨wt2, wq2, wl2, wv2, _⟩ := hWB.1
        rw [c_chainNext (A := B2) c60 (by rw [g_st_cw]; exact hR2.2.1) (fun j hj => by rw [g_st_cw]; exact (hR2.2.2.2.1 (s / 10) (by omega)).2.2 j hj) fB2 wt2 wq2 wv2, nI_1]
        exact Or.inl ⟨_, rfl, S2, rfl, hR2, hJ'⟩
      · rw [if_pos (g_pp1.mpr c60)]
        refine Or.inr ⟨_, rfl, S', ?_, ?_⟩
        · have := g_wk_e c60 (10 - i)
          rw [show i + (10 - i) = 10 by omega] at this
          rw [this]
        · have := g_wk_e c60 (10 - i)
          rw [show i + (10 - i) = 10 by omega] at this
          rw [this]; exact hR')
    (fun y ⟨S', e, hR', hJ⟩ => by
      subst e
      dsimp only
      rw [if_pos (show (10 : Int32) ≤ nI 10 from Int32.le_refl _)]
      exact ⟨_, rfl, S', rfl, hR'⟩) (g_pp c, (0 : Int32), (0 : Int32), (0 : Int32), H) q_fu (by unfold q_fu; omega) ⟨g_st H k, by rw [g_cw_st]; rfl, hR, ⟨fun _ _ => rfl, fun _ _ => rfl, fun _ _ => rfl, fun _ _ => rfl⟩, hW, fun _ => rfl, Nat.le_succ _, fun y => ⟨rfl, hc y⟩, fun _ _ => rfl, rfl⟩
  exact ⟨S', by rw [← er]; exact e, h1⟩
