/-! update, whole -/
def g_f1 (H H2 : q_H) : Prop := (∀ t f k i, k ≠ 1 → H2.1 t f k i = H.1 t f k i) ∧ (∀ t f k i, k ≠ 1 → H2.2 t f k i = H.2 t f k i) ∧ (r_n (g_st H 1) → r_n (g_st H2 1))
theorem g_f1_rf {H : q_H} : g_f1 H H := ⟨fun _ _ _ _ _ => rfl, fun _ _ _ _ _ => rfl, fun q => q⟩
theorem g_fH_an2 {H H2 : q_H} {S' : g_S} {st : Int32} (h : g_f1 H H2) : g_fH H (q_si (g_cw H2 0 S') 24 6 6 0 st) st := by
  obtain ⟨a1, a2, a3, a4⟩ := g_fH_an (H := H2) (S' := S') (st := st)
  exact ⟨fun t f k i h0 h1 hn => (a1 t f k i h0 h1 hn).trans (h.1 t f k i h1), fun t f k i h0 h1 => (a2 t f k i h0 h1).trans (h.2.1 t f k i h1), a3, fun q => a4 (h.2.2 q)⟩
theorem act_ans2 {b : Nat} {A A' : g_A} {H H2 : q_H} {S' : g_S} {r : Int32} {M : q_H → Option (Int32 × q_H)} (h1 : g_f1 H H2) (hR : g_R b S' A') (hW : g_W A') (hr : 0 ≤ r) (hC : g_c1 A → g_c1 A') (hM : ∀ h, ∃ h2, M (g_ma h 31 A) = some (r, g_ma h2 31 A') ∧ g_fM h h2 ∧ h2.1 30 6 7 0 = h.1 30 6 7 0) : g_act b A H (some (r, q_si (g_cw H2 0 S') 24 6 6 0 0)) M := by
  refine ⟨r, 0, _, rfl, g_fH_an2 h1, ⟨fun _ => hr, fun _ => rfl⟩, fun h hi => ?_⟩
  obtain ⟨h2, e, f, s⟩ := hM h
  unfold g_is at hi
  rw [← hi] at e
  exact ⟨A', g_ma h2 31 A', by rw [g_st_an]; exact hR, hW, e, g_is_ma, g_fM_tr f g_fM_ma, by rw [if_pos rfl, g_ma_ne (by decide)]; exact s, hC⟩
theorem act_ref2 {b : Nat} {A : g_A} {H H2 : q_H} {S' : g_S} {st : Int32} {M : q_H → Option (Int32 × q_H)} (h1 : g_f1 H H2) (hR : g_R b S' A) (hW : g_W A) (hs : st ≠ 0) (hM : ∀ h, ∃ h2, M (g_ma h 31 A) = some (-1, q_si (g_ma h2 31 A) 30 6 7 0 st) ∧ g_fM h h2) : g_act b A H (some (-1, q_si (g_cw H2 0 S') 24 6 6 0 st)) M := by
  refine ⟨-1, st, _, rfl, g_fH_an2 h1, ⟨fun q => absurd q hs, fun q => absurd q (by decide)⟩, fun h hi => ?_⟩
  obtain ⟨h2, e, f⟩ := hM h
  unfold g_is at hi
  rw [← hi] at e
  exact ⟨A, _, by rw [g_st_an]; exact hR, hW, e, g_is_si (by decide) g_is_ma, g_fM_tr (g_fM_tr f g_fM_ma) (g_fM_si (Or.inl rfl)), by rw [if_neg hs, g_rd_e], fun q => q⟩
theorem g_f1_cw {H : q_H} {S1 : g_S} (h : r_n (g_st H 1) → r_n S1) : g_f1 H (g_cw H 1 S1) := ⟨fun t f k i hk => g_cw_rn hk, fun t f k i hk => g_cw_rm hk, fun q => by rw [g_st_cw]; exact h q⟩
theorem r_n_cp {D T : g_S} (h : r_n D) : r_n (g_cpS D T) := by
  unfold r_n
  simp only [g_cpS_r.2.1]
  exact h
theorem g_fM_a {h : q_H} {t : Nat} {A : g_A} (ht : t = 32 ∨ t = 33) : g_fM h (g_ma h t A) := ⟨fun a f k i n => by
  unfold g_ma
  dsimp only
  rw [if_neg (fun q => n ⟨q.2.2.1, Or.inl ⟨q.2.1, by rcases ht with e | e <;> rw [q.1, e] <;> decide⟩⟩)], rfl⟩
/-- what an update makes of the rows -/
def g_uL (A : g_A) (v : Nat) (key z : Int32) : Bool := decide (g_pb A (v / 10) z < 60) && (decide (g_pb A (v / 10) z / 10 = v / 10) && decide (A 1 v 3 = key))
def g_uB (A : g_A) (v t : Nat) (row key val z light : Int32) : g_A := g_fil (g_pA A (v / 10) z) (g_pb A (v / 10) z) row key val z (nI t) light
def g_uE (B : g_A) (v t s : Nat) : g_A := g_end B v (nI t) (nI (s / 10)) (nI (s % 10))
theorem m_updateNow {A : g_A} {h : q_H} {a row key val z : Int32} (hW : g_W A) : Mo_updateNow a row key val z (g_ma h 31 A) = if g_vl key val z = true then (if g_cha A a row = 0 then
      (if g_pb A (g_so A a.toNatClampNeg row / 10) z < 60 then
        (if g_uL A (g_so A a.toNatClampNeg row) key z = true then some (1, g_ma (g_ma h 32 A) 31 (g_uE (g_uB A (g_so A a.toNatClampNeg row) a.toNatClampNeg row key val z 1) (g_so A a.toNatClampNeg row) a.toNatClampNeg (g_pb A (g_so A a.toNatClampNeg row / 10) z)))
        else if g_ne A = 60 then some (-1, q_si (g_ma (g_ma h 32 A) 31 A) 30 6 7 0 3)
        else some (0, g_ma (g_ma h 32 A) 31 (g_uE (g_ent (g_uB A (g_so A a.toNatClampNeg row) a.toNatClampNeg row key val z 0) key (g_pb A (g_so A a.toNatClampNeg row / 10) z)) (g_so A a.toNatClampNeg row) a.toNatClampNeg (g_pb A (g_so A a.toNatClampNeg row / 10) z))))
      else some (-1, q_si (g_ma (g_ma h 32 A) 31 A) 30 6 7 0 5))
    else some (-1, q_si (g_ma h 31 A) 30 6 7 0 (g_cha A a row))) else some (-1, q_si (g_ma h 31 A) 30 6 7 0 1) := by
  unfold Mo_updateNow
  rw [m_isValue, m_touched hW]
  simp only [Option.bind_some]
  cases g_vl key val z with
  | false => rw [if_neg (by decide), if_neg (by decide)]; rfl
  | true =>
    rw [if_pos (by decide), if_pos rfl]
    by_cases c : g_cha A a row = 0
    · obtain ⟨t, v, e, ht, ev, er, hu, h2⟩ := g_cha_t hW.1 c
      rw [if_pos c, if_pos c, ht, ← ev]
      simp only [Option.bind_some]
      have hv := hu.1
      have hp : v / 10 < 6 := by omega
      have t61 : t < 61 := by have := hu.2.2.1.2; have := hW.1.1.2.2; omega
      obtain ⟨W1, u1, k1, f1⟩ := g_pb_f (z := z) hW hu
      rw [if_pos (nI_pos' (by omega)), m_copy1 (Or.inl rfl)]
      simp only [Option.bind_some]
      rw [g_d10 (by omega), m_placeIn hW.1.2.2.1 hp]
      simp only [Option.bind_some]
      have comb : ∀ {β : Type} (g : Int32 → q_H → Option β), (Option.bind (α := Int32 × q_H) (if 0 ≤ g_pp (g_pi A (v / 10) z) then (some ((g_pp (g_pi A (v / 10) z), g_ma (g_ma h 32 A) 31 A))) else ((Mo_prunes (nI (v / 10)) (g_ma (g_ma h 32 A) 31 A)).bind fun x13 => (Mo_placeIn (nI (v / 10)) z x13.2).bind fun x15 => some ((x15, x13.2)))) (fun p18 => Option.bind (α := Int32) (if 0 ≤ p18.1 then (some (p18.1)) else ((Mo_firstPlace z p18.2).bind fun x23 => some (x23))) (fun p26 => g p26 p18.2))) = g (g_pp (g_pb A (v / 10) z)) (g_ma (g_ma h 32 A) 31 (g_pA A (v / 10) z)) := fun g => by
        unfold g_pb g_pA
        by_cases d : g_pi A (v / 10) z < 60
        · simp only [if_pos d, if_pos (g_ppP.mpr d), Option.bind_some]
        · simp only [if_neg d, if_neg (fun q => d (g_ppP.mp q)), Option.bind_some]
          rw [m_prunes hW.1 hp]
          simp only [Option.bind_some]
          rw [m_placeIn (g_W_pr hW hp).1.1.2.2.1 hp]
          simp only [Option.bind_some]
          by_cases d2 : g_pi (g_pr A (v / 10)) (v / 10) z < 60
          · simp only [if_pos d2, if_pos (g_ppP.mpr d2), Option.bind_some]
          · simp only [if_neg d2, if_neg (fun q => d2 (g_ppP.mp q)), Option.bind_some]
            rw [m_firstPlace (g_W_pr hW hp).1.1.2.2.1]
            rfl
      refine (comb (fun p26 H18 => Option.bind (α := Int32) (if p26 < 0 then (some ((0 : Int32))) else (if ¬ (p26 / (10 : Int32)) = nI (v / 10) then (some ((0 : Int32))) else ((Mo_of (nI v) (3 : Int32) H18).bind fun x31 => if ¬ x31 = key then (some ((0 : Int32))) else (some ((1 : Int32)))))) (fun p36 => Option.bind (α := Int32) (if 0 ≤ p26 then (if ¬ p36 = 0 then (some ((0 : Int32))) else (if ¬ (H18.1 31 0 7 5) = (60 : Int32) then (some ((0 : Int32))) else (some ((3 : Int32))))) else (some ((5 : Int32)))) (fun p44 => if p44 ≤ 0 then ((Mo_fills p26 row key val z a p36 H18).bind fun x45 => Option.bind (α := q_H) (if ¬ p36 = 0 then (some (x45)) else ((Mo_enters key p26 x45).bind fun x51 => some (x51))) (fun p54 => (Mo_endsAt (nI v) a (p26 / (10 : Int32)) (p26 - p26 / (10 : Int32) * (10 : Int32)) p54).bind fun x55 => if p36 = 0 then (some (((0 : Int32), x55))) else (some (((1 : Int32), x55))))) else ((Mo_copy 32 7 31 7 H18).bind fun x59 => (Mo_refuse p44 x59).bind fun x61 => some ((x61.1, x61.2))))))).trans ?_
      by_cases s60 : g_pb A (v / 10) z < 60
      · obtain ⟨f2, f3, f4⟩ := f1 s60
        have ep : g_pp (g_pb A (v / 10) z) = nI (g_pb A (v / 10) z) := if_pos s60
        rw [if_pos s60, ep, if_neg (nI_pos (by omega)), g_r10 (s := g_pb A (v / 10) z) (by omega), g_d10 (s := g_pb A (v / 10) z) (by omega), m_of3 hv, k1 3 (by omega), m_g (by omega)]
        simp only [Option.bind_some]
        have ne1 : g_pA A (v / 10) z 0 5 0 = A 0 5 0 := by
          unfold g_pA
          by_cases d : g_pi A (v / 10) z < 60
          · rw [if_pos d]
          · rw [if_neg d]; exact g_fk_0 (g_W_pr hW hp).2.1 (by omega)
        have lc : (if ¬ nI (g_pb A (v / 10) z / 10) = nI (v / 10) then (some (0 : Int32)) else (if ¬ A 1 v 3 = key then some 0 else some 1)) = some (q_bi (g_uL A v key z)) := by
          unfold g_uL
          rw [decide_eq_true s60]
          by_cases d : g_pb A (v / 10) z / 10 = v / 10
          · rw [if_neg (fun q => q (by rw [d])), decide_eq_true d]
            by_cases d2 : A 1 v 3 = key
            · rw [if_neg (fun q => q d2), decide_eq_true d2]; rfl
            · rw [if_pos d2, decide_eq_false d2]; rfl
          · rw [if_pos (fun q => d ((nI_eq (by omega) (by omega)).mp q)), decide_eq_false d]; rfl
        rw [lc]
        simp only [Option.bind_some]
        rw [if_pos (nI_pos' (n := g_pb A (v / 10) z) (by omega))]
        cases L : g_uL A v key z with
        | true =>
          rw [show q_bi true = (1 : Int32) from rfl, if_pos (show ¬ (1 : Int32) = 0 by decide), if_pos rfl]
          simp only [Option.bind_some]
          rw [if_pos (by decide), m_fills s60 W1.1.2.2.1 (Or.inr rfl)]
          simp only [Option.bind_some]
          rw [if_pos (show ¬ (1 : Int32) = 0 by decide)]
          simp only [Option.bind_some]
          rw [m_endsAt hv, e]
          rfl
        | false =>
          rw [show q_bi false = (0 : Int32) from rfl, if_neg (show ¬ ¬ (0 : Int32) = 0 by decide), if_neg (show ¬ false = true by decide), ne1]
          have wi := hW.2.1.1
          by_cases n60 : g_ne A = 60
          · have : A 0 5 0 = 60 := by rw [wi.1, n60]; rfl
            rw [if_neg (fun q => q this), if_pos n60]
            simp only [Option.bind_some]
            rw [if_neg (by decide), m_copy2 (Or.inl rfl)]
            rfl
          · have n59 : g_ne A < 60 := by have := wi.2.1; omega
            have : ¬ A 0 5 0 = 60 := fun q => n60 (by unfold g_ne; rw [q]; rfl)
            rw [if_pos this, if_neg n60]
            simp only [Option.bind_some]
            rw [if_pos (by decide), m_fills s60 W1.1.2.2.1 (Or.inl rfl)]
            simp only [Option.bind_some]
            have nB : g_ne (g_fil (g_pA A (v / 10) z) (g_pb A (v / 10) z) row key val z a 0) = g_ne A := by unfold g_ne; rw [g_fil_o (by omega) (by omega), ne1]
            have wiB : g_wi (g_fil (g_pA A (v / 10) z) (g_pb A (v / 10) z) row key val z a 0) := by
              have w := W1.2.1.1
              have o2 : ∀ i w, g_fil (g_pA A (v / 10) z) (g_pb A (v / 10) z) row key val z a 0 2 i w = g_pA A (v / 10) z 2 i w := fun i w => g_fil_o (by omega) (by omega)
              have o5 : g_fil (g_pA A (v / 10) z) (g_pb A (v / 10) z) row key val z a 0 0 5 0 = g_pA A (v / 10) z 0 5 0 := g_fil_o (by omega) (by omega)
              have nn : g_ne (g_fil (g_pA A (v / 10) z) (g_pb A (v / 10) z) row key val z a 0) = g_ne (g_pA A (v / 10) z) := by unfold g_ne; rw [o5]
              refine ⟨by rw [nn, o5]; exact w.1, by rw [nn]; exact w.2.1, fun i hi => ?_⟩
              rw [nn] at hi
              rw [o2, o2, o2]; exact w.2.2 i hi
            rw [if_neg (fun q => q trivial), m_enters s60 wiB (by rw [nB]; exact n59)]
            simp only [Option.bind_some]
            rw [m_endsAt hv, e]
            rfl
      · rw [if_neg s60, if_pos (g_ppN.mpr s60)]
        simp only [Option.bind_some]
        rw [if_neg (fun q => s60 (g_ppP.mp q))]
        simp only [Option.bind_some]
        rw [if_neg (by decide), m_copy2 (Or.inl rfl)]
        rfl
    · rw [if_neg c, if_neg c]
      simp only [Option.bind_some]
      rw [if_neg (by decide)]
