/-! a look goes through an entry's chain: the reference -/
theorem m_walk {h : q_H} {t c : Nat} {key : Int32} {A : g_A} (hW : g_W A) (hn : g_nf A < 60) (hc : c < 60 → g_fu A c = true) (ht : g_tn A t) : q_lp (fun s11 : Int32 × Int32 × Int32 × Int32 × q_H => (if s11.2.2.2.1 < 0 then (some (.inr ((s11.1, s11.2.2.2.2)))) else (Option.bind (α := Int32) (if s11.1 = 0 then (some ((0 : Int32))) else ((Mo_isDead s11.2.2.2.1 (nI (g_hz A)) s11.2.2.2.2).bind fun x23 => if x23 = 0 then (some ((0 : Int32))) else (some ((1 : Int32))))) (fun p27 => Option.bind (α := Int32 × q_H) (if ¬ s11.2.1 = 0 then (some ((s11.2.1, s11.2.2.2.2))) else ((Mo_isSeen (nI t) s11.2.2.2.1 s11.2.2.2.2).bind fun x32 => if x32 = 0 then (some ((s11.2.1, s11.2.2.2.2))) else ((Mo_of s11.2.2.2.1 (3 : Int32) s11.2.2.2.2).bind fun x34 => if ¬ x34 = key then (some (((1 : Int32), s11.2.2.2.2))) else ((Mo_finds s11.2.2.2.1 s11.2.2.1 s11.2.2.2.2).bind fun x36 => some (((1 : Int32), x36)))))) (fun p41 => (Mo_chainNext s11.2.2.2.1 p41.2).bind fun x42 => some (.inl (p27, p41.1, (s11.2.2.1 + (1 : Int32)), x42, p41.2))))) : Option ((Int32 × Int32 × Int32 × Int32 × q_H) ⊕ (Int32 × q_H)))) q_fu (((1 : Int32), (0 : Int32), (0 : Int32), g_pp c, g_ma h 31 A) : Int32 × Int32 × Int32 × Int32 × q_H) = some (q_bi (!(g_wk (g_hz A) t key A c 10).1), g_ma h 31 (g_wk (g_hz A) t key A c 10).2.2.2) ∧ g_wJ A c 10 (g_wk (g_hz A) t key A c 10) := by
  have hz : g_hz A < 1000 := by have := g_hb_le (A := A) (b := 0); have := hW.1.1.2.2; unfold g_hz; omega
  have step : ∀ i, g_wJ A c i (g_wk (g_hz A) t key A c i) → (g_wk (g_hz A) t key A c i).2.2.1 < 60 → c < 60 := fun i _ c60 => by
    by_cases q : c < 60
    · exact q
    · exfalso
      have e0 := g_wk_e (z := g_hz A) (t := t) (key := key) (A := A) (c := c) (i := 0) q i
      rw [Nat.zero_add] at e0
      rw [e0] at c60
      exact q c60
  have hJ0 : g_wJ A c 0 (g_wk (g_hz A) t key A c 0) := ⟨⟨fun _ _ => rfl, fun _ _ => rfl, fun _ _ => rfl, fun _ _ => rfl⟩, hW, fun _ => rfl, Nat.le_succ _, fun y => ⟨rfl, hc y⟩, fun _ _ => rfl, rfl⟩
  have hJx : ∀ i, g_wJ A c i (g_wk (g_hz A) t key A c i) := by
    intro i
    induction i with
    | zero => exact hJ0
    | succ i ih =>
      rw [g_wk_s]
      by_cases q : (g_wk (g_hz A) t key A c i).2.2.1 < 60
      · rw [if_pos q]
        have hc60 := step i ih q
        exact g_wJ_s hW hn hc60 (hc hc60) ih q
      · rw [if_neg q]
        obtain ⟨h1, h2, h3, h4, h5, h6, h7⟩ := ih
        exact ⟨h1, h2, h3, h4, fun y => absurd y q, h6, h7⟩
  refine ⟨?_, hJx 10⟩
  obtain ⟨r, e, er⟩ := g_lpX (body := fun s11 : Int32 × Int32 × Int32 × Int32 × q_H => (if s11.2.2.2.1 < 0 then (some (.inr ((s11.1, s11.2.2.2.2)))) else (Option.bind (α := Int32) (if s11.1 = 0 then (some ((0 : Int32))) else ((Mo_isDead s11.2.2.2.1 (nI (g_hz A)) s11.2.2.2.2).bind fun x23 => if x23 = 0 then (some ((0 : Int32))) else (some ((1 : Int32))))) (fun p27 => Option.bind (α := Int32 × q_H) (if ¬ s11.2.1 = 0 then (some ((s11.2.1, s11.2.2.2.2))) else ((Mo_isSeen (nI t) s11.2.2.2.1 s11.2.2.2.2).bind fun x32 => if x32 = 0 then (some ((s11.2.1, s11.2.2.2.2))) else ((Mo_of s11.2.2.2.1 (3 : Int32) s11.2.2.2.2).bind fun x34 => if ¬ x34 = key then (some (((1 : Int32), s11.2.2.2.2))) else ((Mo_finds s11.2.2.2.1 s11.2.2.1 s11.2.2.2.2).bind fun x36 => some (((1 : Int32), x36)))))) (fun p41 => (Mo_chainNext s11.2.2.2.1 p41.2).bind fun x42 => some (.inl (p27, p41.1, (s11.2.2.1 + (1 : Int32)), x42, p41.2))))) : Option ((Int32 × Int32 × Int32 × Int32 × q_H) ⊕ (Int32 × q_H))))
    (fun i y => y = (q_bi (!(g_wk (g_hz A) t key A c i).1), q_bi (g_wk (g_hz A) t key A c i).2.1, nI i, g_pp (g_wk (g_hz A) t key A c i).2.2.1, g_ma h 31 (g_wk (g_hz A) t key A c i).2.2.2))
    (fun r => r = (q_bi (!(g_wk (g_hz A) t key A c 10).1), g_ma h 31 (g_wk (g_hz A) t key A c 10).2.2.2)) 10
    (fun i y hi e => by
      subst e
      dsimp only
      have hJ := hJx i
      have hJ' := hJx (i + 1)
      by_cases c60 : (g_wk (g_hz A) t key A c i).2.2.1 < 60
      · rw [if_neg (fun q => g_ppN.mp q c60)]
        rw [g_wk_s, if_pos c60] at hJ' ⊢
        generalize g_wk (g_hz A) t key A c i = X at c60 hJ hJ' ⊢
        obtain ⟨live, told, s, B⟩ := X
        obtain ⟨h1, h2, h3, h4, h5, _, _⟩ := hJ
        dsimp only at h1 h2 h3 h4 h5 c60 ⊢
        obtain ⟨_, fB⟩ := h5 c60
        obtain ⟨wt, wq, wl, wv, wc, wL, wT, wE, wF⟩ := id h2.1
        have htB : g_tn B t := (g_ft_tn (fq_ft h1)).mpr ht
        have epp : g_pp s = nI s := if_pos c60
        rw [epp, m_isDead c60 wt (wv s c60 fB) hz, m_isSeen c60 wt (wv s c60 fB) htB, m_of3 c60]
        simp only [Option.bind_some]
        have e23 : (if q_bi (!live) = 0 then (some ((0 : Int32))) else (if q_bi (g_de B (g_hz A) s) = 0 then (some ((0 : Int32))) else (some ((1 : Int32))))) = some (q_bi (!(live || !g_de B (g_hz A) s))) := by
          cases live <;> cases g_de B (g_hz A) s <;> rfl
        rw [e23]
        simp only [Option.bind_some]
        have key3 : (if ¬ q_bi told = 0 then (some ((q_bi told, g_ma h 31 B))) else (if q_bi (g_se B t s) = 0 then (some ((q_bi told, g_ma h 31 B))) else (if ¬ B 1 s 3 = key then (some (((1 : Int32), g_ma h 31 B))) else ((Mo_finds (nI s) (nI i) (g_ma h 31 B)).bind fun x36 => some (((1 : Int32), x36)))))) = some (q_bi (told || g_se B t s), g_ma h 31 (bif !told && (g_se B t s && decide (B 1 s 3 = key)) then g_fd B s i else B)) := by
          cases told with
          | true => rfl
          | false =>
            rw [if_neg (show ¬ ¬ q_bi false = 0 by decide)]
            cases g_se B t s with
            | false => rfl
            | true =>
              rw [if_neg (show ¬ q_bi true = 0 by decide)]
              by_cases d : B 1 s 3 = key
              · have hnB : g_nf B < 60 := by rw [h3 rfl]; exact hn
                rw [if_neg (fun y => y d), decide_eq_true d, m_finds c60 h2.2.2.2.2.2.2.1.1 hnB]; rfl
              · rw [if_pos d, decide_eq_false d]; rfl
        rw [key3]
        simp only [Option.bind_some]
        have hWB := hJ'.2.1
        have hq' := hJ'.1
        unfold g_wkf at hJ' hWB hq' ⊢
        dsimp only at hJ' hWB hq' ⊢
        generalize (bif !told && (g_se B t s && decide (B 1 s 3 = key)) then g_fd B s i else B) = B2 at hJ' hWB hq' ⊢
        have fB2 : g_fu B2 s = true := by rw [fq_fu hq' c60, ← fq_fu h1 c60]; exact fB
        obtain ⟨wt2, wq2, wl2, wv2, _⟩ := hWB.1
        rw [m_chainNext c60 wl2 wt2 (wv2 s c60 fB2), nI_1]
        exact Or.inl ⟨_, rfl, rfl⟩
      · rw [if_pos (g_ppN.mpr c60)]
        have := g_wk_e c60 (10 - i)
        rw [show i + (10 - i) = 10 by omega] at this
        rw [this]
        exact Or.inr ⟨_, rfl, rfl⟩)
    (fun y e => by
      subst e
      dsimp only
      have c60 : ¬ (g_wk (g_hz A) t key A c 10).2.2.1 < 60 := fun q => by
        have hc60 := step 10 (hJx 10) q
        have e5 := ((hJx 10).2.2.2.2.1 q).1
        rw [e5] at q
        exact g_ci_10 hc60 (hc hc60) hW.1.2.2.2.1 hW.1.2.2.2.2.1 q
      rw [if_pos (g_ppN.mpr c60)]
      exact ⟨_, rfl, rfl⟩) ((1 : Int32), (0 : Int32), (0 : Int32), g_pp c, g_ma h 31 A) q_fu (by unfold q_fu; omega) rfl
  rw [e, er]
