/-! the text: a line is done, both sides -/
def x_fP (H H' : q_H) : Prop := (∀ t f k i, k ≠ 0 → k ≠ 1 → ¬ (t = 24 ∧ f = 6 ∧ k = 6 ∧ i = 0) → ¬ (t = 25 ∧ k = 6 ∧ (f = 15 ∨ f = 16)) → H'.1 t f k i = H.1 t f k i) ∧ ∀ t f k i, k ≠ 0 → k ≠ 1 → H'.2 t f k i = H.2 t f k i
def x_fQ (h h' : q_H) : Prop := (∀ t f k i, ¬ (k = 7 ∧ ((f = 0 ∧ (t = 31 ∨ t = 32 ∨ t = 33 ∨ t = 36 ∨ t = 37)) ∨ (t = 30 ∧ (f = 6 ∨ f = 7 ∨ f = 9 ∨ f = 15 ∨ f = 16 ∨ f = 26 ∨ f = 27 ∨ f = 28)))) → h'.1 t f k i = h.1 t f k i) ∧ h'.2 = h.2
theorem x_fQ_tr {h h' h'' : q_H} (a : x_fQ h h') (b : x_fQ h' h'') : x_fQ h h'' := ⟨fun t f k i n => (b.1 t f k i n).trans (a.1 t f k i n), b.2.trans a.2⟩
theorem x_fQ_M {h h' : q_H} (a : g_fM h h') : x_fQ h h' := ⟨fun t f k i n => a.1 t f k i (fun q => n ⟨q.1, by omega⟩), a.2⟩
theorem x_fQ_30 {h : q_H} {f : Nat} {v : Int32} (hf : f = 15 ∨ f = 16 ∨ f = 26 ∨ f = 27 ∨ f = 28) : x_fQ h (q_si h 30 f 7 0 v) := ⟨fun t g k j n => g_rd_o (fun q => n ⟨q.2.2.1, by omega⟩), rfl⟩
theorem x_fQ_31 {h : q_H} {i : Nat} {v : Int32} : x_fQ h (q_si h 31 0 7 i v) := ⟨fun t g k j n => g_rd_o (fun q => n ⟨q.2.2.1, by omega⟩), rfl⟩
theorem x_fQ_rf {h : q_H} : x_fQ h h := ⟨fun _ _ _ _ _ => rfl, rfl⟩
theorem x_fP_H {H H' : q_H} {st : Int32} (a : g_fH H H' st) : x_fP H H' := ⟨fun t f k i n0 n1 n _ => a.1 t f k i n0 n1 n, fun t f k i n0 n1 => a.2.1 t f k i n0 n1⟩
theorem x_fP_tr {H H' H'' : q_H} (a : x_fP H H') (b : x_fP H' H'') : x_fP H H'' := ⟨fun t f k i p q n m => (b.1 t f k i p q n m).trans (a.1 t f k i p q n m), fun t f k i p q => (b.2 t f k i p q).trans (a.2 t f k i p q)⟩
theorem x_fP_24 {H : q_H} {v : Int32} : x_fP H (q_si H 24 6 6 0 v) := ⟨fun t f k i _ _ n _ => g_rd_o (fun q => n q), fun _ _ _ _ _ _ => rfl⟩
theorem x_fP_25 {H : q_H} {f : Nat} {v : Int32} (hf : f = 15 ∨ f = 16) : x_fP H (q_si H 25 f 6 0 v) := ⟨fun t g k i _ _ _ m => g_rd_o (fun q => m ⟨q.1, by omega⟩), fun _ _ _ _ _ _ => rfl⟩
theorem x_fP_0 {H : q_H} {S : g_S} : x_fP H (g_cw H 0 S) := ⟨fun t f k i n _ _ _ => g_cw_rn n, fun t f k i n _ => g_cw_rm n⟩
theorem x_fP_rf {H : q_H} : x_fP H H := ⟨fun _ _ _ _ _ _ _ _ => rfl, fun _ _ _ _ _ _ => rfl⟩
theorem x_is_si {h : q_H} {A : g_A} {t f k i : Nat} {v : Int32} (ht : t ≠ 31) (hi : g_is h A) : g_is (q_si h t f k i v) A := by
  unfold g_is at hi ⊢
  conv => lhs; rw [hi]
  rw [g_ma_si_ne ht]
theorem g_is_rd {h : q_H} {A : g_A} {i : Nat} (hi : g_is h A) (h32 : i < 32) : h.1 31 0 7 i = A 0 i 0 := by
  unfold g_is at hi
  rw [hi]; exact m_g h32
/-- how it came out: 0 well, else the fault -/
def x_ot (ok : Bool) (H h : q_H) (pl : Nat) : Prop := (ok = true → (H.1 25 15 6 0 = 0 ∧ H.1 25 16 6 0 = -1) ∧ h.1 30 15 7 0 = 0) ∧ (ok = false → ∃ f, (f = 6 ∨ f = 7) ∧ H.1 25 15 6 0 = nI f ∧ H.1 25 16 6 0 = nI pl ∧ h.1 30 15 7 0 = nI f ∧ h.1 30 16 7 0 = nI pl)
theorem x_perf {b w pl k : Nat} {A : g_A} {H h : q_H} (hw : w < 14) (hW : g_W A) (hC : g_c1 A) (hi : g_is h A) (hR : g_R b (g_st H 0) A) (hb : b < 2 ^ 30) (hn : r_n (g_st H 1)) (h7 : H.1 25 7 6 0 = nI w) (h8 : H.1 25 8 6 0 = nI pl) (f0 : H.1 25 15 6 0 = 0) (f16 : H.1 25 16 6 0 = -1) (w0 : h.1 30 15 7 0 = 0) (hk : k ≤ 4) (hs : h.1 30 19 7 0 = nI k) (told : ∀ k, k < x_nb w → H.1 27 0 6 k = h.1 41 0 7 k ∧ x_cb w k (H.1 27 0 6 k) = true) (ri : w = 3 → x_ri A) (fl : (H.1 25 11 6 0 = (if w < 3 then h.1 30 26 7 0 ||| ((1 : Int32) <<< (nI w &&& 31)) else h.1 30 26 7 0)) ∧ (H.1 25 12 6 0 = if w = 3 then 1 else h.1 30 27 7 0) ∧ (H.1 25 13 6 0 = if 3 < w then 1 else h.1 30 28 7 0) ∧ g_01 (H.1 25 12 6 0) ∧ g_01 (H.1 25 13 6 0)) :
    ∃ ok H2 h2 A2, Rp_perform H = some H2 ∧ x_rA (nI w) (nI pl) h = some h2 ∧ x_fP H H2 ∧ x_fQ h h2 ∧ g_W A2 ∧ g_c1 A2 ∧ g_is h2 A2 ∧ g_R (b + 60) (g_st H2 0) A2 ∧ r_n (g_st H2 1) ∧ x_ot ok H2 h2 pl ∧ x_fl H2 h2 ∧ (w ≤ 3 → ok = true → (x_ri A → x_ri A2)) := by
  obtain ⟨fl1, fl2, fl3, fl4, fl5⟩ := fl
  have hRs : g_R b (g_st (q_si H 24 6 6 0 0) 0) A := by rw [g_st_sn (by decide)]; exact hR
  have hns : r_n (g_st (q_si H 24 6 6 0 0) 1) := by rw [g_st_sn (by decide)]; exact hn
  -- what the flags and the rest are afterwards
  have flg : ∀ H2 h2, x_fP H H2 → h2.1 30 26 7 0 = (if w < 3 then h.1 30 26 7 0 ||| ((1 : Int32) <<< (nI w &&& 31)) else h.1 30 26 7 0) → h2.1 30 27 7 0 = (if w = 3 then 1 else h.1 30 27 7 0) → h2.1 30 28 7 0 = (if 3 < w then 1 else h.1 30 28 7 0) → x_fl H2 h2 := fun H2 h2 a b1 b2 b3 => by
    have o : ∀ f, f = 11 ∨ f = 12 ∨ f = 13 → H2.1 25 f 6 0 = H.1 25 f 6 0 := fun f hf => a.1 25 f 6 0 (by decide) (by decide) (by omega) (by omega)
    refine ⟨?_, ?_, ?_, ?_, ?_⟩
    · rw [o 11 (by omega), b1]; exact fl1
    · rw [o 12 (by omega), b2]; exact fl2
    · rw [o 13 (by omega), b3]; exact fl3
    · rw [o 12 (by omega)]; exact fl4
    · rw [o 13 (by omega)]; exact fl5
  rw [x_pf hw h7]
  by_cases w4 : 4 ≤ w
  · obtain ⟨C, M, e1, e2, ha⟩ := x_act (v := fun k => H.1 27 0 6 k) hw w4 hW hRs hb hns
    obtain ⟨r, st, H2, eC, fH, stz, kk⟩ := ha
    obtain ⟨A2, h2, k1, k2, k3, k4, k5, k6, k7⟩ := kk (q_si h 30 28 7 0 1) (x_is_si (by decide) hi)
    have fP : x_fP H H2 := x_fP_tr x_fP_24 (x_fP_H fH)
    have fQ : x_fQ h h2 := x_fQ_tr (x_fQ_30 (by omega)) (x_fQ_M k5)
    have hn2 : r_n (g_st H2 1) := fH.2.2.2 hns
    have s2 : H2.1 24 6 6 0 = st := fH.2.2.1
    have z7 : H2.1 25 7 6 0 = nI w := by rw [fP.1 25 7 6 0 (by decide) (by decide) (by omega) (by omega)]; exact h7
    have z8 : H2.1 25 8 6 0 = nI pl := by rw [fP.1 25 8 6 0 (by decide) (by decide) (by omega) (by omega)]; exact h8
    have z15 : H2.1 25 15 6 0 = 0 := by rw [fH.1 25 15 6 0 (by decide) (by decide) (by omega), g_rd_o (by omega)]; exact f0
    have z16 : H2.1 25 16 6 0 = -1 := by rw [fH.1 25 16 6 0 (by decide) (by decide) (by omega), g_rd_o (by omega)]; exact f16
    have y15 : h2.1 30 15 7 0 = 0 := by rw [k5.1 30 15 7 0 (by omega), g_rd_o (by omega)]; exact w0
    have y19 : h2.1 30 19 7 0 = nI k := by rw [k5.1 30 19 7 0 (by omega), g_rd_o (by omega)]; exact hs
    have y26 : h2.1 30 26 7 0 = h.1 30 26 7 0 := by rw [k5.1 30 26 7 0 (by omega), g_rd_o (by omega)]
    have y27 : h2.1 30 27 7 0 = h.1 30 27 7 0 := by rw [k5.1 30 27 7 0 (by omega), g_rd_o (by omega)]
    have y28 : h2.1 30 28 7 0 = 1 := by rw [k5.1 30 28 7 0 (by omega), g_rd_e]
    have eM : Mo_doesAct (nI w) (q_si h 30 28 7 0 1) = some (r, h2) := by
      rw [e2 (q_si h 30 28 7 0 1) (fun k hk => by rw [g_rd_o (by omega)]; exact (told k hk).1.symm)]; exact k3
    have stepM : x_rA (nI w) (nI pl) h = (if r < 0 then ((Mo_must (0 : Int32) (7 : Int32) (nI pl) h2).bind fun x41 => some (x41)) else ((Mo_must (1 : Int32) (7 : Int32) (nI pl) h2).bind fun x43 => some (x43))) := by
      unfold x_rA
      rw [if_pos (show (3 : Int32) ≤ nI w from nI_le (a := 3) (by omega) (by omega)), if_pos (show ¬ nI w = 3 from nI_e (b := 3) (by omega) (by omega) (by omega)), eM]
      rfl
    rw [e1, eC]
    simp only [Option.bind_some]
    by_cases c : st = 0
    · rw [if_neg (Int32.not_lt.mpr (stz.mp c)), m_must1] at stepM
      refine ⟨true, H2, h2, A2, by rw [s2, if_pos c], stepM, fP, fQ, k2, k7 hC, k4, k1, hn2, ⟨fun _ => ⟨⟨z15, z16⟩, y15⟩, (fun q => by cases q)⟩, flg _ _ fP ?_ ?_ ?_, fun q => by omega⟩
      · rw [y26, if_neg (by omega)]
      · rw [y27, if_neg (by omega)]
      · rw [y28, if_pos (by omega)]
    · rw [if_pos (Int32.not_le.mp (fun q => c (stz.mpr q))), show (7 : Int32) = nI 7 from rfl, m_must0 (f := 7) (by decide) y15 hk y19, if_neg (by decide)] at stepM
      refine ⟨false, q_si (q_si H2 25 15 6 0 7) 25 16 6 0 (nI pl), q_si (q_si h2 30 15 7 0 (nI 7)) 30 16 7 0 (nI pl), A2, ?_, stepM, x_fP_tr (x_fP_tr fP (x_fP_25 (by omega))) (x_fP_25 (by omega)), x_fQ_tr (x_fQ_tr fQ (x_fQ_30 (by omega))) (x_fQ_30 (by omega)), k2, k7 hC, x_is_si (by decide) (x_is_si (by decide) k4), ?_, ?_, ⟨(fun q => by cases q), fun _ => ⟨7, by omega, ?_, ?_, ?_, ?_⟩⟩, flg _ _ (x_fP_tr (x_fP_tr fP (x_fP_25 (by omega))) (x_fP_25 (by omega))) ?_ ?_ ?_, fun q => by omega⟩
      · rw [s2, if_neg c, z7, if_pos (show ¬ nI w = 3 from nI_e (b := 3) (by omega) (by omega) (by omega)), z8]; rfl
      · rw [g_st_sn (by decide), g_st_sn (by decide)]; exact k1
      · rw [g_st_sn (by decide), g_st_sn (by decide)]; exact hn2
      · rw [g_rd_o (by omega), g_rd_e]; rfl
      · rw [g_rd_e]
      · rw [g_rd_o (by omega), g_rd_e]
      · rw [g_rd_e]
      · rw [g_rd_o (by omega), g_rd_o (by omega), y26, if_neg (by omega)]
      · rw [g_rd_o (by omega), g_rd_o (by omega), y27, if_neg (by omega)]
      · rw [g_rd_o (by omega), g_rd_o (by omega), y28, if_pos (by omega)]
  · by_cases w3 : w = 3
    · subst w3
      obtain ⟨ne, en⟩ := ri rfl
      have wl := hW.1.2.2.1
      have wr := hW.2.2.2.2.1
      have wt := hW.1.1
      obtain ⟨t0, c0⟩ := told 0 (by decide)
      obtain ⟨t1, c1⟩ := told 1 (by decide)
      obtain ⟨t2, c2⟩ := told 2 (by decide)
      obtain ⟨v0, hv0⟩ : ∃ v, v = H.1 27 0 6 0 := ⟨_, rfl⟩
      obtain ⟨v1, hv1⟩ : ∃ v, v = H.1 27 0 6 1 := ⟨_, rfl⟩
      obtain ⟨v2, hv2⟩ : ∃ v, v = H.1 27 0 6 2 := ⟨_, rfl⟩
      have ec : x_ca 3 (fun k => H.1 27 0 6 k) (q_si H 24 6 6 0 0) = (Rp_addFirstRow v0 v1 v2 (q_si H 24 6 6 0 0)).bind fun x13 => some x13 := by rw [hv0, hv1, hv2]; rfl
      rw [← hv0] at t0 c0
      rw [← hv1] at t1
      rw [← hv2] at t2 c2
      have key : 0 ≤ v0 := by
        have c : g_in v0 0 99 = true := c0
        unfold g_in at c
        simp only [Bool.and_eq_true, Bool.not_eq_true', decide_eq_false_iff_not] at c
        exact Int32.not_lt.mp c.1
      rw [ec]
      have s7 : (q_si H 24 6 6 0 0).1 0 7 0 0 = nI (g_nr A) := (show (q_si H 24 6 6 0 0).1 0 7 0 0 = A 0 3 0 from hRs.1.2.2.2).trans wr.1
      generalize hZ : q_si h 30 27 7 0 (1 : Int32) = Z
      have zi : g_is Z A := by rw [← hZ]; exact x_is_si (by decide) hi
      have z41 : ∀ k, Z.1 41 0 7 k = h.1 41 0 7 k := fun k => by rw [← hZ, g_rd_o (by omega)]
      have z15 : Z.1 30 15 7 0 = 0 := by rw [← hZ, g_rd_o (by omega)]; exact w0
      have z19 : Z.1 30 19 7 0 = nI k := by rw [← hZ, g_rd_o (by omega)]; exact hs
      have zQ : x_fQ h Z := by rw [← hZ]; exact x_fQ_30 (by omega)
      have z26 : Z.1 30 26 7 0 = h.1 30 26 7 0 := by rw [← hZ, g_rd_o (by omega)]
      have z27 : Z.1 30 27 7 0 = 1 := by rw [← hZ, g_rd_e]
      have z28 : Z.1 30 28 7 0 = h.1 30 28 7 0 := by rw [← hZ, g_rd_o (by omega)]
      have zf : Mo_firstPlace v2 Z = some (g_pp (g_fp A v2)) := by
        unfold g_is at zi
        rw [zi]; exact m_firstPlace wl
      have p54 : (if (40 : Int32) ≤ (Z.1 31 0 7 3) then (some ((0 : Int32))) else ((Mo_firstPlace (Z.1 41 0 7 2) Z).bind fun x50 => if x50 < 0 then (some ((0 : Int32))) else (some ((1 : Int32))))) = some (q_bi (decide (g_nr A < 40) && decide (g_fp A v2 < 60))) := by
        rw [g_is_rd zi (by omega), wr.1, z41, ← t2, zf]
        by_cases a : g_nr A < 40
        · rw [if_neg (show ¬ (40 : Int32) ≤ nI (g_nr A) from nI_ge (b := 40) a (by decide)), decide_eq_true a, Option.bind_some]
          by_cases p : g_fp A v2 < 60
          · rw [g_pp_p p, if_neg (show ¬ nI (g_fp A v2) < 0 from nI_nlt (b := 0) (by omega) (by omega)), decide_eq_true p]; rfl
          · rw [g_pp_n p, if_pos (by decide), decide_eq_false p]; rfl
        · rw [if_pos (show (40 : Int32) ≤ nI (g_nr A) from nI_le (a := 40) (by omega) (by have := wr.2.1; omega)), decide_eq_false a]; rfl
      have stepM : x_rA (nI 3) (nI pl) h = ((Mo_must (q_bi (decide (g_nr A < 40) && decide (g_fp A v2 < 60))) (6 : Int32) (nI pl) Z).bind fun x55 => if ¬ (x55.1 30 15 7 0) = 0 then (some (x55)) else ((Mo_inserts (1 : Int32) (x55.1 41 0 7 0) (x55.1 41 0 7 1) (x55.1 41 0 7 2) x55).bind fun x57 => some (x57.2))) := by
        unfold x_rA
        rw [if_pos (by decide), if_neg (by decide), hZ, p54]
        rfl
      cases g : (decide (g_nr A < 40) && decide (g_fp A v2 < 60)) with
      | false =>
        rw [g, show q_bi false = 0 from rfl, show (6 : Int32) = nI 6 from rfl, m_must0 (f := 6) (by decide) z15 hk z19, if_neg (by decide), Option.bind_some, g_rd_o (by omega), g_rd_e, if_pos (show ¬ nI 6 = 0 by decide)] at stepM
        have eC : Rp_addFirstRow v0 v1 v2 (q_si H 24 6 6 0 0) = some (q_si (q_si H 24 6 6 0 0) 24 6 6 0 3) := by
          unfold Rp_addFirstRow
          rw [c_firstPlace (H := q_si H 24 6 6 0 0) (k := 0) (A := A) (z := v2) hRs.1.1 hRs.2.2.2.1 wl, Option.bind_some, s7]
          by_cases a : g_nr A < 40
          · rw [decide_eq_true a, Bool.true_and, decide_eq_false_iff_not] at g
            rw [if_neg (show ¬ (40 : Int32) ≤ nI (g_nr A) from nI_ge (b := 40) a (by decide)), g_pp_n g, if_neg (by decide)]; rfl
          · rw [if_pos (show (40 : Int32) ≤ nI (g_nr A) from nI_le (a := 40) (by omega) (by have := wr.2.1; omega))]; rfl
        rw [eC, g_si_si]
        simp only [Option.bind_some]
        have fP : x_fP H (q_si (q_si (q_si H 24 6 6 0 3) 25 15 6 0 6) 25 16 6 0 (nI pl)) := x_fP_tr (x_fP_tr x_fP_24 (x_fP_25 (by omega))) (x_fP_25 (by omega))
        refine ⟨false, q_si (q_si (q_si H 24 6 6 0 3) 25 15 6 0 6) 25 16 6 0 (nI pl), q_si (q_si Z 30 15 7 0 (nI 6)) 30 16 7 0 (nI pl), A, ?_, stepM, fP, x_fQ_tr (x_fQ_tr zQ (x_fQ_30 (by omega))) (x_fQ_30 (by omega)), hW, hC, x_is_si (by decide) (x_is_si (by decide) zi), ?_, ?_, ⟨(fun q => by cases q), fun _ => ⟨6, by omega, ?_, ?_, ?_, ?_⟩⟩, flg _ _ fP ?_ ?_ ?_, fun _ q => by cases q⟩
        · rw [g_rd_e, if_neg (by decide), g_rd_o (by omega), h7, if_neg (by decide), g_rd_o (by omega), h8]; rfl
        · rw [g_st_sn (by decide), g_st_sn (by decide), g_st_sn (by decide)]; exact g_R_mono hR (by omega)
        · rw [g_st_sn (by decide), g_st_sn (by decide), g_st_sn (by decide)]; exact hn
        · rw [g_rd_o (by omega), g_rd_e]; rfl
        · rw [g_rd_e]
        · rw [g_rd_o (by omega), g_rd_e]
        · rw [g_rd_e]
        · rw [g_rd_o (by omega), g_rd_o (by omega), z26, if_neg (by decide)]
        · rw [g_rd_o (by omega), g_rd_o (by omega), z27, if_pos rfl]
        · rw [g_rd_o (by omega), g_rd_o (by omega), z28, if_neg (by decide)]
      | true =>
        rw [Bool.and_eq_true, decide_eq_true_iff, decide_eq_true_iff] at g
        obtain ⟨g1, g2⟩ := g
        obtain ⟨f1, f2, f3⟩ := g_fp_f wl g2
        have ne60 : g_ne A < 60 := by omega
        have tn1 : g_tn A 1 := ⟨Nat.le_refl 1, by have := wt.2.1; omega⟩
        have no1 : ∀ a, a < 60 → g_fu A a = true → g_en A a ≠ 1 := fun a ha fa => by
          unfold g_en
          rw [en a ha fa]; decide
        obtain ⟨S', e1, r1, w1⟩ := c_addRow (key := v0) (val := v1) (size := v2) (t := 1) hW hRs hb g2 f2 f3 f1 tn1 key (Or.inr no1) g1 ne60
        have mi := m_inserts (h := Z) (key := v0) (val := v1) (size := v2) (t := 1) hW g2 ne60 tn1 g1 (Or.inr no1) (r_m_wM hRs.2.2.2.2.2.2.2.2) hb
        have zi' := zi
        unfold g_is at zi'
        rw [← zi'] at mi
        rw [decide_eq_true g1, decide_eq_true g2, show q_bi (true && true) = 1 from rfl, m_must1, Option.bind_some, z15, if_neg (fun q => q rfl), z41, z41, z41, ← t0, ← t1, ← t2, show (1 : Int32) = nI 1 from rfl, mi, Option.bind_some] at stepM
        have eC : Rp_addFirstRow v0 v1 v2 (q_si H 24 6 6 0 0) = some (g_cw (q_si H 24 6 6 0 0) 0 S') := by
          unfold Rp_addFirstRow
          rw [c_firstPlace (H := q_si H 24 6 6 0 0) (k := 0) (A := A) (z := v2) hRs.1.1 hRs.2.2.2.1 wl, Option.bind_some, s7, if_neg (show ¬ (40 : Int32) ≤ nI (g_nr A) from nI_ge (b := 40) g1 (by decide)), g_pp_p g2, if_pos (nI_n1 (by omega)), show (1 : Int32) = nI 1 from rfl, e1]; rfl
        have wB := g_W_ins (key := v0) (val := v1) (size := v2) hW (r_m_wM hRs.2.2.2.2.2.2.2.2) g2 hb f2 f3 f1 tn1 key g1 (Or.inr no1)
        have wlr : g_wl (g_row A) := fun p hp => by
          have : g_ln (g_row A) p = g_ln A p := by unfold g_ln; rw [g_row_o (by omega)]
          rw [this, g_row_o (by omega)]; exact wl p hp
        have lnr : ∀ p, g_ln (g_row A) p = g_ln A p := fun p => by unfold g_ln; rw [g_row_o (by omega)]
        have fur : ∀ a, g_fu (g_row A) a = g_fu A a := fun a => by unfold g_fu g_iv; rw [lnr, g_row_o (by omega)]
        have nB : g_ne (g_fil (g_row A) (g_fp A v2) (A 0 3 0) v0 v1 v2 (nI 1) 0) = g_ne A := by unfold g_ne; rw [g_fil_o (by omega) (by omega), g_row_o (by omega)]
        have ef := g_ent_f (A := g_fil (g_row A) (g_fp A v2) (A 0 3 0) v0 v1 v2 (nI 1) 0) (key := v0) (s := g_fp A v2) wB.2.1.1 (by rw [nB]; exact ne60)
        have ri2 : x_ri (g_ent (g_fil (g_row A) (g_fp A v2) (A 0 3 0) v0 v1 v2 (nI 1) 0) v0 (g_fp A v2)) := by
          obtain ⟨fs, fo⟩ := g_fil_fu (A := g_row A) (row := A 0 3 0) (key := v0) (val := v1) (size := v2) (maker := nI 1) (light := 0) g2 wlr (by rw [lnr]; exact f1)
          have o := ef.2.2.2.2.2
          refine ⟨?_, fun a ha fa => ?_⟩
          · rw [ef.2.1, nB]
            unfold g_nr
            rw [o 0 3 0 (by omega) (by omega), g_fil_o (by omega) (by omega)]
            unfold g_row
            rw [g_au_eq, wr.1, nI_1, g_cl (by omega)]; omega
          · have fa2 : g_fu (g_fil (g_row A) (g_fp A v2) (A 0 3 0) v0 v1 v2 (nI 1) 0) a = true := by
              unfold g_fu g_iv g_ln at fa ⊢
              rw [o 0 _ 0 (by omega) (by omega), o 1 a 0 (by omega) (by omega)] at fa; exact fa
            rw [o 1 a 7 (by omega) (by omega)]
            by_cases z : a = g_fp A v2
            · rw [z, g_fil_s (by omega)]; rfl
            · rw [g_fil_o (by omega) (by omega), g_row_o (by omega)]
              rw [fo a ha z, fur] at fa2
              exact en a ha fa2
        generalize hA2 : g_ent (g_fil (g_row A) (g_fp A v2) (A 0 3 0) v0 v1 v2 (nI 1) 0) v0 (g_fp A v2) = A2 at r1 w1 stepM ri2
        have cc : g_c1 A2 := by rw [← hA2]; exact c1_ent (c1_fil g2 (c1_row hC))
        have fP : x_fP H (g_cw (q_si H 24 6 6 0 0) 0 S') := x_fP_tr x_fP_24 x_fP_0
        rw [eC]
        simp only [Option.bind_some]
        refine ⟨true, g_cw (q_si H 24 6 6 0 0) 0 S', g_ma Z 31 A2, A2, ?_, stepM, fP, x_fQ_tr zQ (x_fQ_M g_fM_ma), w1, cc, g_is_ma, ?_, ?_, ⟨fun _ => ⟨⟨?_, ?_⟩, ?_⟩, (fun q => by cases q)⟩, flg _ _ fP ?_ ?_ ?_, fun _ _ _ => ri2⟩
        · rw [g_cw_rn (by decide), g_rd_e, if_pos rfl]
        · rw [g_st_cw]; exact g_R_mono r1 (by omega)
        · rw [g_st_cn (by decide)]; exact hns
        · rw [g_cw_rn (by decide), g_rd_o (by omega)]; exact f0
        · rw [g_cw_rn (by decide), g_rd_o (by omega)]; exact f16
        · rw [g_ma_ne (by decide)]; exact z15
        · rw [g_ma_ne (by decide), z26, if_neg (by decide)]
        · rw [g_ma_ne (by decide), z27, if_pos rfl]
        · rw [g_ma_ne (by decide), z28, if_neg (by decide)]
    · have w3' : w < 3 := by omega
      obtain ⟨t0, c0⟩ := told 0 (by have : w = 0 ∨ w = 1 ∨ w = 2 := by omega
                                    rcases this with rfl | rfl | rfl <;> decide)
      have hv : w = 1 → ∃ b, 1 ≤ b ∧ b ≤ 8 ∧ H.1 27 0 6 0 = nI b := fun q => by
        subst q
        have c : g_in (H.1 27 0 6 0) 1 8 = true := c0
        have c' : g_in (H.1 27 0 6 0) 0 (nI 8) = true := by
          unfold g_in at c ⊢
          simp only [Bool.and_eq_true, Bool.not_eq_true', decide_eq_false_iff_not] at c ⊢
          exact ⟨fun q => c.1 (Int32.lt_of_lt_of_le q (by decide)), c.2⟩
        obtain ⟨p, hp, e⟩ := g_in_t (by decide) c'
        refine ⟨p, ?_, hp, e⟩
        rcases Nat.eq_zero_or_pos p with q | q
        · subst q; rw [e] at c; exact absurd c (by decide)
        · exact q
      have hW2 : g_W (g_au A 0 w 0 (H.1 27 0 6 0)) := g_st_W w3' hv hW
      have ex : ∃ S', x_ca w (fun k => H.1 27 0 6 k) (q_si H 24 6 6 0 0) = some (g_cw (q_si H 24 6 6 0 0) 0 S') ∧ g_R b S' (g_au A 0 w 0 (H.1 27 0 6 0)) := by
        have : w = 0 ∨ w = 1 ∨ w = 2 := by omega
        rcases this with rfl | rfl | rfl
        · exact ⟨_, congrArg some g_si_cw, g_st_R0 hRs⟩
        · exact ⟨_, congrArg some g_si_cw, g_set_R (i := 1) (Or.inl rfl) hRs⟩
        · exact ⟨_, congrArg some g_si_cw, g_set_R (i := 2) (Or.inr rfl) hRs⟩
      obtain ⟨S', e1, r1⟩ := ex
      have fP : x_fP H (g_cw (q_si H 24 6 6 0 0) 0 S') := x_fP_tr x_fP_24 x_fP_0
      have stepM : x_rA (nI w) (nI pl) h = some (q_si (q_si h 30 26 7 0 (h.1 30 26 7 0 ||| ((1 : Int32) <<< (nI w &&& 31)))) 31 0 7 w (H.1 27 0 6 0)) := by
        unfold x_rA
        rw [if_neg (show ¬ (3 : Int32) ≤ nI w from nI_ge (b := 3) (by omega) (by decide)), g_inN (by omega) (by decide), cond_true, g_cl (by omega), g_rd_o (by omega), t0]
        rfl
      have is2 : g_is (q_si (q_si h 30 26 7 0 (h.1 30 26 7 0 ||| ((1 : Int32) <<< (nI w &&& 31)))) 31 0 7 w (H.1 27 0 6 0)) (g_au A 0 w 0 (H.1 27 0 6 0)) := by
        have i1 := x_is_si (t := 30) (f := 26) (k := 7) (i := 0) (v := h.1 30 26 7 0 ||| ((1 : Int32) <<< (nI w &&& 31))) (by decide) hi
        unfold g_is at i1 ⊢
        generalize q_si h 30 26 7 0 (h.1 30 26 7 0 ||| ((1 : Int32) <<< (nI w &&& 31))) = g at i1
        have : q_si g 31 0 7 w (H.1 27 0 6 0) = g_ma g 31 (g_au A 0 w 0 (H.1 27 0 6 0)) := by
          conv => lhs; rw [i1]
          exact g_ma_si (i := w) (g := 0) (w := 0) (fun B => g_at0 (by omega)) rfl (by omega)
        rw [this, g_ma_ma]
      rw [e1, Option.bind_some]
      refine ⟨true, g_cw (q_si H 24 6 6 0 0) 0 S', _, g_au A 0 w 0 (H.1 27 0 6 0), ?_, stepM, fP, x_fQ_tr (x_fQ_30 (by omega)) x_fQ_31, hW2, c1_eq (fun x hx => Or.inr (g_au_ne (by omega))) hC, is2, ?_, ?_, ⟨fun _ => ⟨⟨?_, ?_⟩, ?_⟩, (fun q => by cases q)⟩, flg _ _ fP ?_ ?_ ?_, fun _ _ q => ⟨?_, fun a ha fa => ?_⟩⟩
      · rw [g_cw_rn (by decide), g_rd_e, if_pos rfl]
      · rw [g_st_cw]; exact g_R_mono r1 (by omega)
      · rw [g_st_cn (by decide)]; exact hns
      · rw [g_cw_rn (by decide), g_rd_o (by omega)]; exact f0
      · rw [g_cw_rn (by decide), g_rd_o (by omega)]; exact f16
      · rw [g_rd_o (by omega), g_rd_o (by omega)]; exact w0
      · rw [g_rd_o (by omega), g_rd_e, if_pos w3']
      · rw [g_rd_o (by omega), g_rd_o (by omega), if_neg w3]
      · rw [g_rd_o (by omega), g_rd_o (by omega), if_neg (by omega)]
      · have := q.1
        unfold g_ne g_nr at this ⊢
        rw [g_au_ne (by omega), g_au_ne (by omega)]; exact this
      · have f2 : g_fu A a = true := by
          unfold g_fu g_iv g_ln at fa ⊢
          rw [g_au_ne (by omega), g_au_ne (by omega)] at fa; exact fa
        rw [g_au_ne (by omega)]; exact q.2 a ha f2
