/-! status, fault, feed -/
theorem z_F_30 {h : q_H} {f : Nat} {v : Int32} (hf : f = 6 ∨ f = 7 ∨ f = 9) : z_F h (q_si h 30 f 7 0 v) := ⟨fun t g k i _ _ _ n => g_rd_o (fun q => n ⟨q.2.2.1, by omega⟩), fun _ _ _ _ _ _ => rfl⟩
theorem z_s7 {n : Nat} {h : q_H} {v : Int32} (rel : z_Rel n h) : z_Rel n (q_si h 30 7 7 0 v) := by
  obtain ⟨A, e1, e2, e3, e4, e5, e6, e7, e8, e9⟩ := rel
  have F : z_F h (q_si h 30 7 7 0 v) := z_F_30 (by omega)
  have s : ∀ k, k ≤ 5 → g_st (q_si h 30 7 7 0 v) k = g_st h k := fun k hk => g_st_sn (by omega)
  refine ⟨A, x_is_si (by decide) e1, e2, e3, by rw [s 0 (by decide)]; exact e4, ?_, ?_, z_F_mk F e7, fun k hk => by rw [s k hk]; exact e8 k hk, z_F_tx F e9⟩
  · rw [g_rd_o (by omega), g_rd_o (by omega)]; exact e5
  · rw [g_rd_o (by omega), g_rd_o (by omega)]; exact e6
theorem z_S0 : lw_S0 z_Rel := fun n h hn rel => ⟨h.1 24 6 6 0, q_si h 30 7 7 0 0, rfl, by
  obtain ⟨A, e1, e2, e3, e4, e5, _⟩ := rel
  unfold Mo_status
  rw [g_rd_o (by omega), e5], z_mono (z_s7 rel)⟩
theorem z_S3 : lw_S3 z_Rel := fun n h a hn rel => by
  have rel' := z_mono (z_s7 (v := 0) rel)
  obtain ⟨A, e1, e2, e3, e4, e5, e6, e7, e8, ⟨_, _, _, _, e9⟩⟩ := rel
  have go : ∀ r, Rp_fault a h = some r → Mo_fault a h = some (r, q_si h 30 7 7 0 0) → ∃ (r : Int32) (h2 : q_H), Rp_fault a h = some r ∧ Mo_fault a h = some (r, h2) ∧ z_Rel (n + 1) h2 := fun r a b => ⟨r, _, a, b, rel'⟩
  unfold Rp_fault Mo_fault at go ⊢
  rw [g_rd_o (by omega), g_rd_o (by omega)] at go ⊢
  rcases e9 with ⟨f1, f2, f3⟩ | ⟨f1, f2, f3⟩
  · rw [f1, if_neg (fun q => q rfl), f2, f3] at go ⊢
    refine go (-1) rfl ?_
    by_cases a0 : a = 0
    · rw [if_neg (fun q => q a0)]
    · rw [if_pos a0]
      by_cases a1 : a = 1
      · rw [if_neg (fun q => q a1)]
      · rw [if_pos a1]
  · rw [f1, if_pos (by decide), f2, f3] at go ⊢
    by_cases a0 : a = 0
    · rw [if_pos a0, if_neg (fun q => q a0)] at go ⊢
      exact go _ rfl rfl
    · rw [if_neg a0, if_pos a0] at go ⊢
      by_cases a1 : a = 1
      · rw [if_pos a1, if_neg (fun q => q a1)] at go ⊢
        exact go _ rfl rfl
      · rw [if_neg a1, if_pos a1] at go ⊢
        exact go _ rfl rfl
theorem x_b8 : ∀ k, k < 256 → (k < 128 → (Int8.ofNat k).toInt32.toInt8.toInt32 = nI k) ∧ (128 ≤ k → (Int8.ofNat k).toInt32.toInt8.toInt32 < 0) := by decide +kernel
theorem g_by_b (x : Int32) : g_by (x &&& (255 : Int32)) (x.toInt8.toInt32.toInt8.toInt32) := by
  have hk : x.toBitVec.toNat % 256 < 256 := Nat.mod_lt _ (by decide)
  have e1 : x &&& (255 : Int32) = nI (x.toBitVec.toNat % 256) := by
    apply Int32.toBitVec_inj.mp
    apply BitVec.eq_of_toNat_eq
    show (x.toBitVec &&& 255#32).toNat = (x.toBitVec.toNat % 256) % 2 ^ 32
    rw [BitVec.toNat_and, show (255#32).toNat = 255 from rfl, Nat.and_two_pow_sub_one_eq_mod x.toBitVec.toNat 8]
    omega
  have e2 : x.toInt8 = Int8.ofNat (x.toBitVec.toNat % 256) := by
    apply Int8.toBitVec_inj.mp
    apply BitVec.eq_of_toNat_eq
    show (x.toBitVec.signExtend 8).toNat = (x.toBitVec.toNat % 256) % 2 ^ 8
    rw [BitVec.signExtend_eq_setWidth_of_le _ (by decide), BitVec.toNat_setWidth]
    omega
  obtain ⟨a, b⟩ := x_b8 _ hk
  rw [e1, e2]
  by_cases c : x.toBitVec.toNat % 256 < 128
  · exact Or.inl ⟨_, c, rfl, a c⟩
  · exact Or.inr ⟨_, by omega, hk, rfl, b (by omega)⟩
/-- only the tape has been written on -/
def z_tc (H H' : q_H) : Prop := (∀ t f k i, ¬ (t = 26 ∧ f = 0 ∧ k = 6) → ¬ (t = 25 ∧ f = 1 ∧ k = 6 ∧ i = 0) → H'.1 t f k i = H.1 t f k i) ∧ H'.2 = H.2
def z_tm (H H' : q_H) : Prop := (∀ t f k i, ¬ (t = 38 ∧ f = 0 ∧ k = 7) → ¬ (t = 30 ∧ f = 12 ∧ k = 7 ∧ i = 0) → H'.1 t f k i = H.1 t f k i) ∧ H'.2 = H.2
theorem z_tc_tr {a b c : q_H} (x : z_tc a b) (y : z_tc b c) : z_tc a c := ⟨fun t f k i n m => (y.1 t f k i n m).trans (x.1 t f k i n m), y.2.trans x.2⟩
theorem z_tm_tr {a b c : q_H} (x : z_tm a b) (y : z_tm b c) : z_tm a c := ⟨fun t f k i n m => (y.1 t f k i n m).trans (x.1 t f k i n m), y.2.trans x.2⟩
/-- as far as it has been written -/
def z_ta (t : Nat) (H h : q_H) : Prop := H.1 25 1 6 0 = nI t ∧ h.1 30 12 7 0 = nI t ∧ ∀ i, i < 700 → g_by (H.1 26 0 6 i) (h.1 38 0 7 i)
def x_bT (a1 : Int32) : Int32 × q_H → Option ((Int32 × q_H) ⊕ q_H) := fun s1 : Int32 × q_H => (if s1.1 < 0 then (some (.inr (s1.2))) else ((Rp_put 26 6 (s1.2.1 25 1 6 0) ((a1 >>> (s1.1 &&& 31)) &&& (255 : Int32)) s1.2).bind fun x9 => some (.inl ((s1.1 + (-8 : Int32)), (q_si x9 25 1 6 0 ((x9.1 25 1 6 0) + (1 : Int32)))))) : Option ((Int32 × q_H) ⊕ q_H))
def x_bY (a1 : Int32) : Int32 × q_H → Option ((Int32 × q_H) ⊕ q_H) := fun s1 : Int32 × q_H => (if s1.1 < 0 then (some (.inr (s1.2))) else (bif q_in (s1.2.1 30 12 7 0) 700 then ((some (q_si (q_si s1.2 38 0 7 (s1.2.1 30 12 7 0).toNatClampNeg (((a1 >>> (s1.1 &&& 31))).toInt8.toInt32).toInt8.toInt32) 30 12 7 0 (((q_si s1.2 38 0 7 (s1.2.1 30 12 7 0).toNatClampNeg (((a1 >>> (s1.1 &&& 31))).toInt8.toInt32).toInt8.toInt32).1 30 12 7 0) + (1 : Int32)))).bind fun h9 => some (.inl ((s1.1 + (-8 : Int32)), h9))) else none) : Option ((Int32 × q_H) ⊕ q_H))
theorem z_byte {a s : Int32} {t : Nat} {H h : q_H} (ht : t < 700) (hs : ¬ s < 0) (ta : z_ta t H h) : ∃ H' h', x_bT a (s, H) = some (.inl (s + (-8 : Int32), H')) ∧ x_bY a (s, h) = some (.inl (s + (-8 : Int32), h')) ∧ z_tc H H' ∧ z_tm h h' ∧ z_ta (t + 1) H' h' := by
  obtain ⟨t1, t2, t3⟩ := ta
  refine ⟨q_si (q_si H 26 0 6 t ((a >>> (s &&& 31)) &&& (255 : Int32))) 25 1 6 0 (nI (t + 1)), q_si (q_si h 38 0 7 t (((a >>> (s &&& 31))).toInt8.toInt32).toInt8.toInt32) 30 12 7 0 (nI (t + 1)), ?_, ?_, ?_, ?_, ?_, ?_, fun i hi => ?_⟩
  · unfold x_bT
    dsimp only
    rw [if_neg hs, t1, c_put (t := 26) (n := 700) rfl rfl ht (by omega), Option.bind_some, g_rd_o (by omega), t1, nI_1]
  · unfold x_bY
    dsimp only
    rw [if_neg hs, t2, g_inN ht (by decide), cond_true, Option.bind_some, g_cl (by omega), g_rd_o (by omega), t2, nI_1]
  · exact ⟨fun x f k i n m => by rw [g_rd_o (fun q => m q), g_rd_o (fun q => n ⟨q.1, q.2.1, q.2.2.1⟩)], rfl⟩
  · exact ⟨fun x f k i n m => by rw [g_rd_o (fun q => m q), g_rd_o (fun q => n ⟨q.1, q.2.1, q.2.2.1⟩)], rfl⟩
  · exact g_rd_e
  · exact g_rd_e
  · rw [g_rd_o (t := 25) (f := 1) (by omega), g_rd_o (t := 30) (f := 12) (by omega)]
    by_cases c : i = t
    · subst c
      rw [g_rd_e, g_rd_e]; exact g_by_b _
    · rw [g_rd_o (by omega), g_rd_o (by omega)]; exact t3 i hi
theorem z_int {a : Int32} {t : Nat} {H h : q_H} (ht : t + 4 ≤ 700) (ta : z_ta t H h) : ∃ H' h', Tx_takeInt a H = some H' ∧ Mo_lays a h = some h' ∧ z_tc H H' ∧ z_tm h h' ∧ z_ta (t + 4) H' h' := by
  obtain ⟨H1, h1, a1, b1, c1, d1, e1⟩ := z_byte (a := a) (s := 24) (by omega) (by decide) ta
  obtain ⟨H2, h2, a2, b2, c2, d2, e2⟩ := z_byte (a := a) (s := 24 + (-8)) (by omega) (by decide) e1
  obtain ⟨H3, h3, a3, b3, c3, d3, e3⟩ := z_byte (a := a) (s := 24 + (-8) + (-8)) (by omega) (by decide) e2
  obtain ⟨H4, h4, a4, b4, c4, d4, e4⟩ := z_byte (a := a) (s := 24 + (-8) + (-8) + (-8)) (by omega) (by decide) e3
  have eT : x_bT a (24 + (-8) + (-8) + (-8) + (-8), H4) = some (.inr H4) := rfl
  have eY : x_bY a (24 + (-8) + (-8) + (-8) + (-8), h4) = some (.inr h4) := rfl
  refine ⟨H4, h4, ?_, ?_, z_tc_tr (z_tc_tr (z_tc_tr c1 c2) c3) c4, z_tm_tr (z_tm_tr (z_tm_tr d1 d2) d3) d4, e4⟩
  · have : Tx_takeInt a H = (q_lp (x_bT a) (4995 + 1 + 1 + 1 + 1 + 1) ((24 : Int32), H)).bind fun z8 => some z8 := rfl
    rw [this, q_lp_l a1, q_lp_l a2, q_lp_l a3, q_lp_l a4, q_lp_r eT]; rfl
  · have : Mo_lays a h = (q_lp (x_bY a) (4995 + 1 + 1 + 1 + 1 + 1) ((24 : Int32), h)).bind fun z8 => some z8 := rfl
    rw [this, q_lp_l b1, q_lp_l b2, q_lp_l b3, q_lp_l b4, q_lp_r eY]; rfl
theorem z_five {a1 a2 a3 a4 a5 : Int32} {t : Nat} {H h : q_H} (ht : t + 20 ≤ 700) (ta : z_ta t H h) : ∃ H' h', ((Tx_takeInt a1 H).bind fun x3 => (Tx_takeInt a2 x3).bind fun x5 => (Tx_takeInt a3 x5).bind fun x7 => (Tx_takeInt a4 x7).bind fun x9 => (Tx_takeInt a5 x9).bind fun x11 => some (((x11.1 25 1 6 0), x11))) = some (nI (t + 20), H') ∧ ((Mo_lays a1 h).bind fun x1 => (Mo_lays a2 x1).bind fun x3 => (Mo_lays a3 x3).bind fun x5 => (Mo_lays a4 x5).bind fun x7 => (Mo_lays a5 x7).bind fun x9 => some (((x9.1 30 12 7 0), x9))) = some (nI (t + 20), h') ∧ z_tc H H' ∧ z_tm h h' ∧ z_ta (t + 20) H' h' := by
  obtain ⟨H1, h1, b1, c1, d1, e1, f1⟩ := z_int (a := a1) (by omega) ta
  obtain ⟨H2, h2, b2, c2, d2, e2, f2⟩ := z_int (a := a2) (by omega) f1
  obtain ⟨H3, h3, b3, c3, d3, e3, f3⟩ := z_int (a := a3) (by omega) f2
  obtain ⟨H4, h4, b4, c4, d4, e4, f4⟩ := z_int (a := a4) (by omega) f3
  obtain ⟨H5, h5, b5, c5, d5, e5, f5⟩ := z_int (a := a5) (by omega) f4
  have et : t + 4 + 4 + 4 + 4 + 4 = t + 20 := by omega
  rw [et] at f5
  refine ⟨H5, h5, ?_, ?_, z_tc_tr (z_tc_tr (z_tc_tr (z_tc_tr d1 d2) d3) d4) d5, z_tm_tr (z_tm_tr (z_tm_tr (z_tm_tr e1 e2) e3) e4) e5, f5⟩
  · rw [b1, Option.bind_some, b2, Option.bind_some, b3, Option.bind_some, b4, Option.bind_some, b5, Option.bind_some, f5.1]
  · rw [c1, Option.bind_some, c2, Option.bind_some, c3, Option.bind_some, c4, Option.bind_some, c5, Option.bind_some, f5.2.1]
theorem z_S1 : lw_S1 z_Rel := fun n h a1 a2 a3 a4 a5 hn rel => by
  have rel0 := rel
  obtain ⟨A, e1, e2, e3, e4, e5, e6, e7, e8, ⟨⟨t, t1, t2, t3⟩, m2, m3, m4, m5⟩⟩ := rel
  unfold Rp_feed Tx_hasRoomFor
  rw [t2, show (20 : Int32) = nI 20 from rfl, nI_add]
  by_cases c : t + 20 ≤ 700
  · rw [if_neg (show ¬ (700 : Int32) < nI (t + 20) from nI_nlt (a := 700) (b := t + 20) c (by decide)), Option.bind_some, if_pos q1n]
    obtain ⟨H', _, k1, _, k3, _, k5⟩ := z_five (a1 := a1) (a2 := a2) (a3 := a3) (a4 := a4) (a5 := a5) c ⟨t2, t3, m2⟩
    have z0 : z_ta t h (q_si H' 30 7 7 0 0) := ⟨t2, by rw [g_rd_o (by omega), k3.1 30 12 7 0 (by omega) (by omega)]; exact t3, fun i hi => by rw [g_rd_o (by omega), k3.1 38 0 7 i (by omega) (by omega)]; exact m2 i hi⟩
    obtain ⟨H2, h2, j1, j2, j3, j4, j5⟩ := z_five (a1 := a1) (a2 := a2) (a3 := a3) (a4 := a4) (a5 := a5) c z0
    have eH : H2 = H' := (Prod.mk.inj (Option.some.inj (j1.symm.trans k1))).2
    subst eH
    refine ⟨nI (t + 20), H2, h2, k1, ?_, ?_⟩
    · unfold Mo_feed
      rw [show (q_si H2 30 7 7 0 (0 : Int32)).1 30 12 7 0 = nI t from z0.2.1, show (20 : Int32) = nI 20 from rfl, nI_add, if_pos (show nI (t + 20) ≤ (700 : Int32) from nI_le (b := 700) c (by decide))]
      exact j2
    · have G : ∀ t f k i, ¬ (t = 26 ∧ f = 0 ∧ k = 6) → ¬ (t = 25 ∧ f = 1 ∧ k = 6 ∧ i = 0) → ¬ (t = 38 ∧ f = 0 ∧ k = 7) → ¬ (t = 30 ∧ (f = 12 ∨ f = 7) ∧ k = 7 ∧ i = 0) → h2.1 t f k i = h.1 t f k i := fun t f k i n1 n2 n3 n4 => by
        rw [j4.1 t f k i n3 (fun q => n4 ⟨q.1, Or.inl q.2.1, q.2.2⟩), g_rd_o (fun q => n4 ⟨q.1, Or.inr q.2.1, q.2.2⟩)]
        exact j3.1 t f k i n1 n2
      have G2 : h2.2 = h.2 := by rw [j4.2]; exact j3.2
      have s : ∀ k, k ≤ 5 → g_st h2 k = g_st h k := fun k hk => z_st (fun t f i => G t f k i (by omega) (by omega) (by omega) (by omega)) (fun t f i => by rw [G2])
      refine z_mono ⟨A, g_is_cg (fun j => G 31 0 7 j (by omega) (by omega) (by omega) (by omega)) e1, e2, e3, by rw [s 0 (by decide)]; exact e4, ?_, ?_, ?_, fun k hk => by rw [s k hk]; exact e8 k hk, ⟨t + 20, c, ?_, j5.2.1⟩, fun i hi => ?_, fun k hk => by rw [G2]; exact m3 k hk, fun k hk => ?_, ?_⟩
      · rw [G 24 6 6 0 (by omega) (by omega) (by omega) (by omega), G 30 6 7 0 (by omega) (by omega) (by omega) (by omega)]; exact e5
      · rw [G 24 5 6 0 (by omega) (by omega) (by omega) (by omega), G 30 5 7 0 (by omega) (by omega) (by omega) (by omega)]; exact e6
      · obtain ⟨m, p1, p2, p3⟩ := e7
        refine ⟨m, p1, by rw [G 30 5 7 0 (by omega) (by omega) (by omega) (by omega)]; exact p2, fun j hj => ?_⟩
        obtain ⟨B, b1, b2, b3, b4⟩ := p3 j hj
        exact ⟨B, fun c hc => by rw [G 35 0 7 _ (by omega) (by omega) (by omega) (by omega)]; exact b1 c hc, b2, b3, by rw [s (3 + j) (by omega)]; exact b4⟩
      · rw [j4.1 25 1 6 0 (by omega) (by omega), g_rd_o (by omega)]; exact j5.1
      · rw [j4.1 26 0 6 i (by omega) (by omega), g_rd_o (by omega)]; exact j5.2.2 i hi
      · rw [G 40 0 7 k (by omega) (by omega) (by omega) (by omega)]; exact m4 k hk
      · rw [G 25 14 6 0 (by omega) (by omega) (by omega) (by omega), G 25 15 6 0 (by omega) (by omega) (by omega) (by omega), G 25 16 6 0 (by omega) (by omega) (by omega) (by omega), G 30 13 7 0 (by omega) (by omega) (by omega) (by omega), G 30 14 7 0 (by omega) (by omega) (by omega) (by omega)]
        exact m5
  · rw [if_pos (show (700 : Int32) < nI (t + 20) from nI_lt (a := 700) (by omega) (by omega)), Option.bind_some, if_neg q0n]
    refine ⟨-1, h, q_si h 30 7 7 0 0, rfl, ?_, z_mono (z_s7 rel0)⟩
    unfold Mo_feed
    rw [show (q_si h 30 7 7 0 (0 : Int32)).1 30 12 7 0 = nI t by rw [g_rd_o (by omega)]; exact t3, show (20 : Int32) = nI 20 from rfl, nI_add, if_neg (show ¬ nI (t + 20) ≤ (700 : Int32) from nI_ge (a := 700) (by omega) (by omega))]
