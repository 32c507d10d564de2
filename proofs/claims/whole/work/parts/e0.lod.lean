/-! the text: all lines, both sides -/
def x_bcL : Int32 × q_H → Option ((Int32 × q_H) ⊕ (q_H)) := (fun s9 : Int32 × q_H => (if (700 : Int32) < s9.1 then (some (.inr (s9.2))) else ((Tx_readLine s9.2).bind fun x17 => if x17.1 = 0 then (some (.inr (x17.2))) else ((Rp_perform x17.2).bind fun x19 => some (.inl ((s9.1 + (1 : Int32)), x19)))) : Option ((Int32 × q_H) ⊕ (q_H))))
def x_bmL : q_H → Option ((q_H) ⊕ (q_H)) := (fun s19 : q_H => (if ¬ (s19.1 30 15 7 0) = 0 then (some (.inr (s19))) else (if (s19.1 30 19 7 0) = 0 then (some (.inr (s19))) else ((Mo_readsLine s19).bind fun x27 => some (.inl x27))) : Option ((q_H) ⊕ (q_H))))
def x_F1 (H0 H : q_H) : Prop := (∀ t f k i, k ≠ 0 → k ≠ 1 → ¬ (t = 24 ∧ f = 6 ∧ k = 6 ∧ i = 0) → ¬ (t = 25 ∧ k = 6 ∧ ((3 ≤ f ∧ f ≤ 13) ∨ f = 15 ∨ f = 16)) → ¬ (t = 27 ∧ k = 6) → H.1 t f k i = H0.1 t f k i) ∧ ∀ t f k i, k ≠ 0 → k ≠ 1 → H.2 t f k i = H0.2 t f k i
def x_F2 (h0 h : q_H) : Prop := (∀ t f k i, ¬ (t = 30 ∧ k = 7 ∧ (f = 6 ∨ f = 7 ∨ f = 9 ∨ (15 ≤ f ∧ f ≤ 20) ∨ (26 ≤ f ∧ f ≤ 28))) → ¬ (k = 7 ∧ (t = 31 ∨ t = 32 ∨ t = 33 ∨ t = 36 ∨ t = 37 ∨ t = 41)) → h.1 t f k i = h0.1 t f k i) ∧ ∀ t f k i, ¬ (t = 30 ∧ k = 7 ∧ f = 22) → h.2 t f k i = h0.2 t f k i
theorem x_F1_l {H0 H H' : q_H} (a : x_F1 H0 H) (b : x_tl H H') : x_F1 H0 H' := ⟨fun t f k i n0 n1 n2 n3 n4 => (b.1 t f k i n3 n4).trans (a.1 t f k i n0 n1 n2 n3 n4), fun t f k i n0 n1 => by rw [b.2]; exact a.2 t f k i n0 n1⟩
theorem x_F1_P {H0 H H' : q_H} (a : x_F1 H0 H) (b : x_fP H H') : x_F1 H0 H' := ⟨fun t f k i n0 n1 n2 n3 n4 => (b.1 t f k i n0 n1 n2 (fun q => n3 ⟨q.1, q.2.1, by omega⟩)).trans (a.1 t f k i n0 n1 n2 n3 n4), fun t f k i n0 n1 => (b.2 t f k i n0 n1).trans (a.2 t f k i n0 n1)⟩
theorem x_F2_q {h0 h h' : q_H} (a : x_F2 h0 h) (b : g_tq h h') : x_F2 h0 h' := ⟨fun t f k i n m => (b.1 t f k i (fun q => n ⟨q.1, by omega⟩) (fun q => m (by omega))).trans (a.1 t f k i n m), fun t f k i n => (b.2 t f k i n).trans (a.2 t f k i n)⟩
theorem x_F2_Q {h0 h h' : q_H} (a : x_F2 h0 h) (b : x_fQ h h') : x_F2 h0 h' := ⟨fun t f k i n m => (b.1 t f k i (fun q => by omega)).trans (a.1 t f k i n m), fun t f k i n => by rw [b.2]; exact a.2 t f k i n⟩
theorem x_st_l {H H' : q_H} (a : x_tl H H') : g_st H' 0 = g_st H 0 ∧ g_st H' 1 = g_st H 1 := by
  constructor
  · unfold g_st
    rw [a.2]
    congr 1
    funext t f i; exact a.1 t f 0 i (by omega) (by omega)
  · unfold g_st
    rw [a.2]
    congr 1
    funext t f i; exact a.1 t f 1 i (by omega) (by omega)
theorem g_is_cg {h h' : q_H} {A : g_A} (e : ∀ j, h'.1 31 0 7 j = h.1 31 0 7 j) (hi : g_is h A) : g_is h' A := by
  unfold g_is at hi ⊢
  refine (g_ma_id (fun j hj => ?_)).symm
  rw [e j, hi, g_ma_rd hj]
theorem x_is_q {h h' : q_H} {A : g_A} (a : g_tq h h') (hi : g_is h A) : g_is h' A := g_is_cg (fun j => a.1 31 0 7 j (by omega) (by omega)) hi
theorem x_sm_Q {h h' : q_H} {T : Nat → Int32} {n : Nat} (a : x_fQ h h') (s : x_sm h T n) : x_sm h' T n :=
  ⟨fun i hi => by rw [a.1 38 0 7 i (by omega)]; exact s.1 i hi, by rw [a.1 30 21 7 0 (by omega)]; exact s.2.1, fun k hk => by rw [a.2]; exact s.2.2.1 k hk, fun k hk => by rw [a.1 40 0 7 k (by omega)]; exact s.2.2.2 k hk⟩
theorem x_rd_Q {h h' : q_H} {T : Nat → Int32} {n p : Nat} (a : x_fQ h h') (s : x_rd h T n p) : x_rd h' T n p := by
  obtain ⟨s1, s2, s3, s4, s5⟩ := s
  exact ⟨by rw [a.1 30 17 7 0 (by omega)]; exact s1, by rw [a.1 30 19 7 0 (by omega)]; exact s2, fun q => by rw [a.1 30 18 7 0 (by omega)]; exact s3 q, fun q => by rw [a.1 30 20 7 0 (by omega)]; exact s4 q, fun q => by rw [a.2]; exact s5 q⟩
theorem x_rS_W {h : q_H} (hW : ¬ h.1 30 15 7 0 ≤ 0) : x_rS h = some h := by
  have h0 : ¬ h.1 30 15 7 0 = 0 := fun q => hW (by rw [q]; exact Int32.le_refl 0)
  unfold x_rS
  by_cases c : h.1 30 19 7 0 = 3
  · rw [if_neg (fun q => q c), Option.bind_some, m_mustW hW, Option.bind_some, if_pos h0]
  · rw [if_pos c, Option.bind_some, m_mustW hW, Option.bind_some, if_pos h0]
theorem x_rS_3 {h : q_H} (w0 : h.1 30 15 7 0 = 0) (hs : h.1 30 19 7 0 = 3) : x_rS h = Mo_reads h := by
  unfold x_rS
  rw [hs, if_neg (fun q => q rfl), Option.bind_some, m_must1, Option.bind_some, w0, if_neg (fun q => q rfl)]
  cases Mo_reads h <;> rfl
theorem x_ft_p {k : Nat} : ¬ nI (x_ft k) ≤ 0 ∧ ¬ nI (x_ft k) = 0 ∧ (1 ≤ x_ft k ∧ x_ft k ≤ 7) := by
  unfold x_ft
  split
  · decide
  · decide
theorem x_rS_n {h : q_H} {k : Nat} (w0 : h.1 30 15 7 0 = 0) (hk : k ≤ 4) (hs : h.1 30 19 7 0 = nI k) (h3 : ¬ k = 3) : x_rS h = some (q_si (q_si h 30 15 7 0 (nI (x_ft k))) 30 16 7 0 (h.1 30 17 7 0)) := by
  have em := m_must0 (f := 2) (b := h.1 30 17 7 0) (by decide) w0 hk hs
  rw [if_pos rfl] at em
  have em' : Mo_must 0 2 (h.1 30 17 7 0) h = some (q_si (q_si h 30 15 7 0 (nI (x_ft k))) 30 16 7 0 (h.1 30 17 7 0)) := em
  unfold x_rS
  rw [hs, if_pos (show ¬ nI k = 3 from nI_e (b := 3) (by omega) (by omega) h3), Option.bind_some, em', Option.bind_some, g_rd_o (by omega), g_rd_e, if_pos x_ft_p.2.1]
def x_bad (H h : q_H) : Prop := ∃ f q, (1 ≤ f ∧ f ≤ 7) ∧ H.1 25 15 6 0 = nI f ∧ H.1 25 16 6 0 = nI q ∧ h.1 30 15 7 0 = nI f ∧ h.1 30 16 7 0 = nI q
def x_cm (n : Nat) (T : Nat → Int32) (H0 h0 : q_H) (i : Nat) (A : g_A) (H h : q_H) : Prop := g_is h A ∧ g_W A ∧ g_c1 A ∧ g_R (60 * i) (g_st H 0) A ∧ r_n (g_st H 1) ∧ H.1 25 2 6 0 = nI n ∧ g_T H = T ∧ x_sm h T n ∧ x_F1 H0 H ∧ x_F2 h0 h
def x_gd (A : g_A) (H h : q_H) : Prop := H.1 25 15 6 0 = 0 ∧ H.1 25 16 6 0 = -1 ∧ x_fl H h ∧ (H.1 25 13 6 0 = 0 → x_ri A)
def x_LE (H0 h0 H h : q_H) : Prop := ∃ A, g_is h A ∧ g_W A ∧ g_c1 A ∧ g_R 42060 (g_st H 0) A ∧ r_n (g_st H 1) ∧ x_F1 H0 H ∧ x_F2 h0 h ∧ ((H.1 25 15 6 0 = 0 ∧ H.1 25 16 6 0 = -1 ∧ h.1 30 15 7 0 = 0) ∨ x_bad H h)
def x_LH (n : Nat) (T : Nat → Int32) (H0 h0 : q_H) (i : Nat) (H h : q_H) : Prop := ∃ A, x_cm n T H0 h0 i A H h ∧ (x_bad H h ∨ (x_gd A H h ∧ ∃ p, i ≤ p ∧ p ≤ n ∧ H.1 25 3 6 0 = nI p ∧ ((H.1 25 10 6 0 = 0 ∧ h.1 30 15 7 0 = 0 ∧ x_rd h T n p) ∨ (H.1 25 10 6 0 = 1 ∧ (x_kd T n (x_sk T n p) = 3 → h.1 30 15 7 0 = 0 ∧ x_rd h T n (x_sk T n p + 1)) ∧ (¬ x_kd T n (x_sk T n p) = 3 → h.1 30 15 7 0 = nI (x_ft (x_kd T n (x_sk T n p))) ∧ h.1 30 16 7 0 = nI (x_sk T n p))))))
theorem x_bad_s {H h : q_H} (b : x_bad H h) : ¬ H.1 25 15 6 0 = 0 ∧ ¬ h.1 30 15 7 0 = 0 := by
  obtain ⟨f, q, hf, e1, _, e3, _⟩ := b
  rw [e1, e3]
  exact ⟨nI_e (b := 0) (by omega) (by omega) (by omega), nI_e (b := 0) (by omega) (by omega) (by omega)⟩
theorem x_bmL_w {h : q_H} {f : Nat} (w : ¬ h.1 30 15 7 0 = 0) (hf : 1 ≤ f) : q_lp x_bmL f h = some h := by
  obtain ⟨f, rfl⟩ : ∃ f', f = f' + 1 := ⟨f - 1, by omega⟩
  refine q_lp_r ?_
  unfold x_bmL
  rw [if_pos w]
def x_cL (i : Nat) (X : q_H) : Option ((Int32 × q_H) ⊕ q_H) := (x_rl X).bind fun x17 => if x17.1 = 0 then some (.inr x17.2) else (Rp_perform x17.2).bind fun x19 => some (.inl (nI i + (1 : Int32), x19))
theorem x_go {n p i : Nat} {T : Nat → Int32} {H0 h0 H h : q_H} {A : g_A} (hn : n ≤ 700) (cm : x_cm n T H0 h0 i A H h) (gd : x_gd A H h) (hip : i ≤ p) (hp : p ≤ n) (ha : H.1 25 3 6 0 = nI p) (w0 : h.1 30 15 7 0 = 0) (rd : x_rd h T n p) :
    (∃ H' h', x_cL i H = some (.inr H') ∧ (∀ f, 2 ≤ f → q_lp x_bmL f h = some h') ∧ x_LE H0 h0 H' h') ∨ (∃ H2 h2, x_cL i H = some (.inl (nI (i + 1), H2)) ∧ x_bmL h = some (.inl h2) ∧ x_LH n T H0 h0 (i + 1) H2 h2) := by
  obtain ⟨hi, hW, hC, hR, hr, hl, hT, sm, F1, F2⟩ := cm
  obtain ⟨f0, f16, fl, ri⟩ := gd
  have sb := x_sk_b (T := T) hp
  have k4 := x_kd_4 (T := T) (n := n) (q := x_sk T n p)
  have r19 := rd.2.1
  have b4 : 60 * i ≤ 42060 := by omega
  unfold x_cL
  rcases x_line hn hl ha hp hT sm rd w0 f0 f16 fl with ⟨c, H', e, tl, u15, u16⟩ | ⟨c, ⟨H', h', f, q, e, e2, tl, tq, hf, u15, u16, v15, v16⟩ | ⟨H', h', w, p', pl, hw, hpp, hpn, e, e2, tl, tq, ⟨u15, o16⟩, v15, u10, u7, u8, u3, rd', told, u11, u12, u13, u3'⟩⟩
  · refine Or.inl ⟨H', h, by rw [e]; rfl, fun f hf => ?_, A, hi, hW, hC, ?_, ?_, x_F1_l F1 tl, F2, Or.inl ⟨u15, by rw [u16]; exact f16, w0⟩⟩
    · obtain ⟨f, rfl⟩ : ∃ f', f = f' + 1 := ⟨f - 1, by omega⟩
      refine q_lp_r ?_
      unfold x_bmL
      rw [w0, if_neg (fun q => q rfl), r19, c, if_pos (by rfl)]
    · rw [(x_st_l tl).1]; exact g_R_mono hR b4
    · rw [(x_st_l tl).2]; exact hr
  · have bd : x_bad H' h' := ⟨f, q, by omega, u15, u16, v15, v16⟩
    refine Or.inl ⟨H', h', by rw [e]; rfl, fun f hf => ?_, A, x_is_q tq hi, hW, hC, ?_, ?_, x_F1_l F1 tl, x_F2_q F2 tq, Or.inr bd⟩
    · obtain ⟨f, rfl⟩ : ∃ f', f = f' + 1 := ⟨f - 1, by omega⟩
      have st : x_bmL h = some (.inl h') := by
        unfold x_bmL
        rw [w0, if_neg (fun q => q rfl), r19, if_neg (show ¬ nI (x_kd T n (x_sk T n p)) = 0 from nI_e (b := 0) (by omega) (by omega) c), e2]; rfl
      rw [q_lp_l st]
      exact x_bmL_w (x_bad_s bd).2 (by omega)
    · rw [(x_st_l tl).1]; exact g_R_mono hR b4
    · rw [(x_st_l tl).2]; exact hr
  · right
    have k4' := x_kd_4 (T := T) (n := n) (q := x_sk T n p')
    have sb' := x_sk_b (T := T) hpn
    obtain ⟨g1, g2, g3, g4, g5⟩ := id fl
    have o26 : ∀ f, f = 26 ∨ f = 27 ∨ f = 28 → h'.1 30 f 7 0 = h.1 30 f 7 0 := fun f hf => tq.1 30 f 7 0 (by omega) (by omega)
    have ric : w = 3 → x_ri A := fun q => ri (u3' q)
    have ff : (H'.1 25 11 6 0 = (if w < 3 then h'.1 30 26 7 0 ||| ((1 : Int32) <<< (nI w &&& 31)) else h'.1 30 26 7 0)) ∧ (H'.1 25 12 6 0 = if w = 3 then 1 else h'.1 30 27 7 0) ∧ (H'.1 25 13 6 0 = if 3 < w then 1 else h'.1 30 28 7 0) ∧ g_01 (H'.1 25 12 6 0) ∧ g_01 (H'.1 25 13 6 0) := by
      rw [o26 26 (by omega), o26 27 (by omega), o26 28 (by omega), ← g1, ← g2, ← g3, u11, u12, u13]
      refine ⟨rfl, rfl, rfl, ?_, ?_⟩
      · split
        · exact Or.inr rfl
        · exact g4
      · split
        · exact Or.inr rfl
        · exact g5
    obtain ⟨ok, H2, h2, A2, p1, p2, fP, fQ, p3, p4, p5, p6, p7, ot, p8, p9⟩ := x_perf (A := A) (k := x_kd T n (x_sk T n p')) hw hW hC (x_is_q tq hi) (by rw [(x_st_l tl).1]; exact hR) (show 60 * i < 2 ^ 30 by omega) (by rw [(x_st_l tl).2]; exact hr) u7 u8 u15 o16 v15 k4' rd'.2.1 told ric ff
    have eC : ((x_rl H).bind fun x17 => if x17.1 = 0 then some (Sum.inr x17.2) else (Rp_perform x17.2).bind fun x19 => some (Sum.inl (nI i + (1 : Int32), x19))) = some (.inl (nI (i + 1), H2)) := by
      rw [e, Option.bind_some, if_neg q1n, p1, Option.bind_some, nI_1]
    have T2 : g_T H2 = T := by
      rw [← hT, ← x_tl_T tl]
      funext j; exact fP.1 26 0 6 j (by decide) (by decide) (by omega) (by omega)
    have l2 : H2.1 25 2 6 0 = nI n := by rw [fP.1 25 2 6 0 (by decide) (by decide) (by omega) (by omega), tl.1 25 2 6 0 (by omega) (by omega)]; exact hl
    have eM : x_bmL h = ((x_rS h2).bind fun x27 => some (.inl x27)) := by
      unfold x_bmL
      rw [w0, if_neg (fun q => q rfl), r19, if_neg (show ¬ nI (x_kd T n (x_sk T n p)) = 0 from nI_e (b := 0) (by omega) (by omega) c), e2, x_ra_e, p2]
      rfl
    have F1' := x_F1_P (x_F1_l F1 tl) fP
    have F2' := x_F2_Q (x_F2_q F2 tq) fQ
    have sm2 := x_sm_Q fQ (x_sm_q tq sm)
    have rd2 := x_rd_Q fQ rd'
    cases ok with
    | false =>
      obtain ⟨f, hf, a1, a2, a3, a4⟩ := ot.2 rfl
      rw [x_rS_W (by rw [a3]; exact nI_ge (a := 0) (by omega) (by omega))] at eM
      exact ⟨H2, h2, eC, eM, A2, ⟨p5, p3, p4, p6, p7, l2, T2, sm2, F1', F2'⟩, Or.inl ⟨f, pl, by omega, a1, a2, a3, a4⟩⟩
    | true =>
      obtain ⟨⟨a1, b16⟩, a2⟩ := ot.1 rfl
      have gd2 : x_gd A2 H2 h2 := ⟨a1, b16, p8, fun q => by
        have z : H2.1 25 13 6 0 = H'.1 25 13 6 0 := fP.1 25 13 6 0 (by decide) (by decide) (by omega) (by omega)
        rw [z, u13] at q
        by_cases y : 3 < w
        · rw [if_pos y] at q; exact absurd q (by decide)
        · rw [if_neg y] at q
          exact p9 (by omega) rfl (ri q)⟩
      have z3 : H2.1 25 3 6 0 = nI p' := by rw [fP.1 25 3 6 0 (by decide) (by decide) (by omega) (by omega)]; exact u3
      have z10 : H2.1 25 10 6 0 = 1 := by rw [fP.1 25 10 6 0 (by decide) (by decide) (by omega) (by omega)]; exact u10
      by_cases c3 : x_kd T n (x_sk T n p') = 3
      · have en : x_en T n (x_sk T n p') = x_sk T n p' + 1 := by
          unfold x_kd at c3
          unfold x_en
          by_cases d1 : n ≤ x_sk T n p'
          · rw [if_pos d1] at c3; omega
          · rw [if_neg d1] at c3 ⊢
            by_cases d2 : T (x_sk T n p') = 59
            · rw [if_pos d2]
            · rw [if_neg d2] at c3
              by_cases d3 : x_le (T (x_sk T n p')) = true
              · rw [if_pos d3] at c3; omega
              · rw [if_neg d3] at c3
                by_cases d4 : x_di (T (x_sk T n p')) = true
                · rw [if_pos d4] at c3
                  split at c3 <;> omega
                · rw [if_neg d4] at c3; omega
        have lt := x_kd_0 (T := T) sb'.2 (by omega)
        rw [x_rS_3 a2 (by rw [rd2.2.1, c3]; rfl)] at eM
        obtain ⟨h3, e3, f3, t3⟩ := m_reads (h := h2) (n := n) (T := T) (p := x_sk T n p' + 1) sm2.1 hn sm2.2.1 lt (by rw [← en]; exact rd2.2.2.1 (Or.inr (Or.inr c3)))
        rw [e3, Option.bind_some] at eM
        have q3 := g_tm_q f3
        refine ⟨H2, h3, eC, eM, A2, ⟨x_is_q q3 p5, p3, p4, p6, p7, l2, T2, x_sm_q q3 sm2, F1', x_F2_q F2' q3⟩, Or.inr ⟨⟨a1, b16, ?_, gd2.2.2.2⟩, p', by omega, hpn, z3, Or.inr ⟨z10, fun _ => ⟨?_, t3⟩, fun q => absurd c3 q⟩⟩⟩
        · obtain ⟨y1, y2, y3, y4, y5⟩ := p8
          exact ⟨by rw [f3.1 30 26 7 0 (by omega)]; exact y1, by rw [f3.1 30 27 7 0 (by omega)]; exact y2, by rw [f3.1 30 28 7 0 (by omega)]; exact y3, y4, y5⟩
        · rw [f3.1 30 15 7 0 (by omega)]; exact a2
      · rw [x_rS_n a2 k4' rd2.2.1 c3, rd2.1, Option.bind_some] at eM
        have q3 : g_tq h2 (q_si (q_si h2 30 15 7 0 (nI (x_ft (x_kd T n (x_sk T n p'))))) 30 16 7 0 (nI (x_sk T n p'))) := g_tq_tr (g_tq_30 (by omega)) (g_tq_30 (by omega))
        refine ⟨H2, _, eC, eM, A2, ⟨x_is_q q3 p5, p3, p4, p6, p7, l2, T2, x_sm_q q3 sm2, F1', x_F2_q F2' q3⟩, Or.inr ⟨⟨a1, b16, ?_, gd2.2.2.2⟩, p', by omega, hpn, z3, Or.inr ⟨z10, fun q => absurd q c3, fun _ => ⟨?_, ?_⟩⟩⟩⟩
        · obtain ⟨y1, y2, y3, y4, y5⟩ := p8
          exact ⟨by rw [g_rd_o (by omega), g_rd_o (by omega)]; exact y1, by rw [g_rd_o (by omega), g_rd_o (by omega)]; exact y2, by rw [g_rd_o (by omega), g_rd_o (by omega)]; exact y3, y4, y5⟩
        · rw [g_rd_o (by omega), g_rd_e]
        · rw [g_rd_e]
