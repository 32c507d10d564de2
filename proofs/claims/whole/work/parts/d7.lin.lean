/-! the text: a line -/
def x_rl (p9 : q_H) : Option (Int32 × q_H) := (Tx_readToken (q_si p9 25 10 6 0 (0 : Int32))).bind fun x10 => if ¬ (x10.1 25 4 6 0) = 0 then ((Tx_isGood (1 : Int32) x10).bind fun x12 => if ¬ x12.1 = 0 then ((Tx_wordRead x12.2).bind fun x14 => if ¬ ((q_si (q_si x12.2 25 7 6 0 x14) 25 8 6 0 ((q_si x12.2 25 7 6 0 x14).1 25 5 6 0)).1 25 7 6 0) = (-1 : Int32) then ((Tx_isTooLate (q_si (q_si x12.2 25 7 6 0 x14) 25 8 6 0 ((q_si x12.2 25 7 6 0 x14).1 25 5 6 0))).bind fun x16 => if x16 = 0 then ((Tx_noteWord (q_si (q_si x12.2 25 7 6 0 x14) 25 8 6 0 ((q_si x12.2 25 7 6 0 x14).1 25 5 6 0))).bind fun x18 => (Tx_readNumbers (q_si x18 25 10 6 0 (1 : Int32))).bind fun x20 => bif q_01 x20.1 then some ((x20.1, x20.2)) else none) else ((Tx_blame (5 : Int32) ((q_si (q_si x12.2 25 7 6 0 x14) 25 8 6 0 ((q_si x12.2 25 7 6 0 x14).1 25 5 6 0)).1 25 8 6 0) (q_si (q_si x12.2 25 7 6 0 x14) 25 8 6 0 ((q_si x12.2 25 7 6 0 x14).1 25 5 6 0))).bind fun x23 => some (((0 : Int32), x23)))) else ((Tx_blame (2 : Int32) ((q_si (q_si x12.2 25 7 6 0 x14) 25 8 6 0 ((q_si x12.2 25 7 6 0 x14).1 25 5 6 0)).1 25 8 6 0) (q_si (q_si x12.2 25 7 6 0 x14) 25 8 6 0 ((q_si x12.2 25 7 6 0 x14).1 25 5 6 0))).bind fun x26 => some (((0 : Int32), x26)))) else (some (((0 : Int32), x12.2)))) else (some (((0 : Int32), x10)))
def x_ra (x1 pl : Int32) (x33 : q_H) : Option q_H := (Option.bind (α := q_H) (if (3 : Int32) ≤ x1 then (if ¬ x1 = (3 : Int32) then ((Mo_doesAct x1 (q_si x33 30 28 7 0 (1 : Int32))).bind fun x39 => if x39.1 < 0 then ((Mo_must (0 : Int32) (7 : Int32) pl x39.2).bind fun x41 => some (x41)) else ((Mo_must (1 : Int32) (7 : Int32) pl x39.2).bind fun x43 => some (x43))) else (Option.bind (α := Int32) (if (40 : Int32) ≤ ((q_si x33 30 27 7 0 (1 : Int32)).1 31 0 7 3) then (some ((0 : Int32))) else ((Mo_firstPlace ((q_si x33 30 27 7 0 (1 : Int32)).1 41 0 7 2) (q_si x33 30 27 7 0 (1 : Int32))).bind fun x50 => if x50 < 0 then (some ((0 : Int32))) else (some ((1 : Int32))))) (fun p54 => (Mo_must p54 (6 : Int32) pl (q_si x33 30 27 7 0 (1 : Int32))).bind fun x55 => if ¬ (x55.1 30 15 7 0) = 0 then (some (x55)) else ((Mo_inserts (1 : Int32) (x55.1 41 0 7 0) (x55.1 41 0 7 1) (x55.1 41 0 7 2) x55).bind fun x57 => some (x57.2))))) else (bif q_in x1 1644 then ((some (q_si (q_si x33 30 26 7 0 ((x33.1 30 26 7 0) ||| ((1 : Int32) <<< (x1 &&& 31)))) 31 0 7 x1.toNatClampNeg ((q_si x33 30 26 7 0 ((x33.1 30 26 7 0) ||| ((1 : Int32) <<< (x1 &&& 31)))).1 41 0 7 0))).bind fun h62 => some (h62)) else none)) (fun p66 => Option.bind (α := Int32) (if ¬ (p66.1 30 19 7 0) = (3 : Int32) then (some ((0 : Int32))) else (some ((1 : Int32)))) (fun p72 => (Mo_must p72 (2 : Int32) (p66.1 30 17 7 0) p66).bind fun x73 => if ¬ (x73.1 30 15 7 0) = 0 then (some (x73)) else ((Mo_reads x73).bind fun x75 => some (x75)))))
def x_tl (H H' : q_H) : Prop := (∀ t f k i, ¬ (t = 25 ∧ k = 6 ∧ ((3 ≤ f ∧ f ≤ 13) ∨ f = 15 ∨ f = 16)) → ¬ (t = 27 ∧ k = 6) → H'.1 t f k i = H.1 t f k i) ∧ H'.2 = H.2
theorem x_tl_tr {H H' H'' : q_H} (a : x_tl H H') (b : x_tl H' H'') : x_tl H H'' := ⟨fun t f k i n m => (b.1 t f k i n m).trans (a.1 t f k i n m), b.2.trans a.2⟩
theorem x_tn_l {H H' : q_H} (a : x_tn H H') : x_tl H H' := ⟨fun t f k i n m => a.1 t f k i (fun q => n ⟨q.1, by omega⟩) m, a.2⟩
theorem x_tl_25 {H : q_H} {f : Nat} {v : Int32} (h : (3 ≤ f ∧ f ≤ 13) ∨ f = 15 ∨ f = 16) : x_tl H (q_si H 25 f 6 0 v) := ⟨fun t g k j n _ => g_rd_o (fun q => n ⟨q.1, by omega⟩), rfl⟩
theorem x_tl_T {H H' : q_H} (a : x_tl H H') : g_T H' = g_T H := by funext i; exact a.1 26 0 6 i (by omega) (by omega)
def x_fl (H h : q_H) : Prop := H.1 25 11 6 0 = h.1 30 26 7 0 ∧ H.1 25 12 6 0 = h.1 30 27 7 0 ∧ H.1 25 13 6 0 = h.1 30 28 7 0 ∧ g_01 (H.1 25 12 6 0) ∧ g_01 (H.1 25 13 6 0)
def x_lat (w : Nat) (to rb ab : Int32) : Bool := if w = 3 then decide (ab = 1) else if 3 ≤ w then false else (!decide (ab = 0) || (!decide (rb = 0) || decide ((to >>> (nI w &&& 31)) &&& (1 : Int32) = 1)))
theorem c_late {H : q_H} {w : Nat} (hw : w < 14) (h7 : H.1 25 7 6 0 = nI w) (hab : g_01 (H.1 25 13 6 0)) : Tx_isTooLate H = some (q_bi (x_lat w (H.1 25 11 6 0) (H.1 25 12 6 0) (H.1 25 13 6 0))) := by
  unfold Tx_isTooLate x_lat
  rw [h7]
  by_cases w3 : w = 3
  · subst w3
    rw [if_neg (by decide), if_pos rfl, g_01b hab, cond_true, g_01d hab]
  · rw [if_pos (show ¬ nI w = 3 from nI_e (b := 3) (by omega) (by omega) w3), if_neg w3]
    by_cases w4 : 3 ≤ w
    · rw [if_pos (show (3 : Int32) ≤ nI w from nI_le (a := 3) w4 (by omega)), if_pos w4]; rfl
    · rw [if_neg (show ¬ (3 : Int32) ≤ nI w from nI_ge (b := 3) (by omega) (by decide)), if_neg w4]
      by_cases a : H.1 25 13 6 0 = 0
      · rw [if_neg (fun q => q a), decide_eq_true a, Bool.not_true, Bool.false_or]
        by_cases b : H.1 25 12 6 0 = 0
        · rw [if_neg (fun q => q b), decide_eq_true b, Bool.not_true, Bool.false_or]
          by_cases c : (H.1 25 11 6 0 >>> (nI w &&& 31)) &&& (1 : Int32) = 1
          · rw [if_neg (fun q => q c), decide_eq_true c]; rfl
          · rw [if_pos c, decide_eq_false c]; rfl
        · rw [if_pos b, decide_eq_false b]; rfl
      · rw [if_pos a, decide_eq_false a]; rfl
theorem x_bit1 (x : Int32) : x &&& (1 : Int32) = 0 ↔ ¬ x &&& (1 : Int32) = 1 := by
  have e : (x &&& (1 : Int32)) = 0 ∨ (x &&& (1 : Int32)) = 1 := by
    have t : (x &&& (1 : Int32)).toBitVec = x.toBitVec &&& 1#32 := rfl
    have t2 : (x.toBitVec &&& 1#32).toNat = x.toBitVec.toNat % 2 := by
      rw [BitVec.toNat_and, show (1#32).toNat = 1 from rfl, Nat.and_two_pow_sub_one_eq_mod x.toBitVec.toNat 1]
    have t3 : x.toBitVec.toNat % 2 = 0 ∨ x.toBitVec.toNat % 2 = 1 := by omega
    rcases t3 with q | q
    · exact Or.inl (Int32.toBitVec_inj.mp (BitVec.eq_of_toNat_eq (by rw [t, t2, q]; rfl)))
    · exact Or.inr (Int32.toBitVec_inj.mp (BitVec.eq_of_toNat_eq (by rw [t, t2, q]; rfl)))
  rcases e with q | q
  · rw [q]; decide
  · rw [q]; decide
theorem x_kd_0 {T : Nat → Int32} {n q : Nat} (hq : q ≤ n) (h : ¬ x_kd T n q = 0) : q < n := by
  unfold x_kd at h
  by_cases c : n ≤ q
  · rw [if_pos c] at h; exact absurd rfl h
  · omega
theorem x_kd_1 {T : Nat → Int32} {n q : Nat} (h : x_kd T n q = 1) : q < n ∧ x_le (T q) = true ∧ x_en T n q = x_lt T n q := by
  unfold x_kd at h
  by_cases c : n ≤ q
  · rw [if_pos c] at h; omega
  · rw [if_neg c] at h
    by_cases d : T q = 59
    · rw [if_pos d] at h; omega
    · rw [if_neg d] at h
      by_cases e : x_le (T q) = true
      · refine ⟨by omega, e, ?_⟩
        unfold x_en
        rw [if_neg c, if_neg d, if_pos e]
      · rw [if_neg e] at h
        by_cases f : x_di (T q) = true
        · rw [if_pos f] at h
          split at h <;> omega
        · rw [if_neg f] at h; omega
theorem x_line {T : Nat → Int32} {n p : Nat} {H h : q_H} (hn : n ≤ 700) (hl : H.1 25 2 6 0 = nI n) (ha : H.1 25 3 6 0 = nI p) (hp : p ≤ n) (hT : g_T H = T) (sm : x_sm h T n) (rd : x_rd h T n p) (w0 : h.1 30 15 7 0 = 0) (f0 : H.1 25 15 6 0 = 0) (f16 : H.1 25 16 6 0 = -1) (fl : x_fl H h) :
    (x_kd T n (x_sk T n p) = 0 ∧ ∃ H', x_rl H = some (0, H') ∧ x_tl H H' ∧ H'.1 25 15 6 0 = 0 ∧ H'.1 25 16 6 0 = H.1 25 16 6 0) ∨
    (¬ x_kd T n (x_sk T n p) = 0 ∧ ((∃ H' h' f q, x_rl H = some (0, H') ∧ Mo_readsLine h = some h' ∧ x_tl H H' ∧ g_tq h h' ∧ (1 ≤ f ∧ f ≤ 5) ∧ H'.1 25 15 6 0 = nI f ∧ H'.1 25 16 6 0 = nI q ∧ h'.1 30 15 7 0 = nI f ∧ h'.1 30 16 7 0 = nI q) ∨
      ∃ H' h' w p' pl, w < 14 ∧ p < p' ∧ p' ≤ n ∧ x_rl H = some (1, H') ∧ Mo_readsLine h = x_ra (nI w) (nI pl) h' ∧ x_tl H H' ∧ g_tq h h' ∧ (H'.1 25 15 6 0 = 0 ∧ H'.1 25 16 6 0 = -1) ∧ h'.1 30 15 7 0 = 0 ∧ H'.1 25 10 6 0 = 1 ∧ H'.1 25 7 6 0 = nI w ∧ H'.1 25 8 6 0 = nI pl ∧ H'.1 25 3 6 0 = nI p' ∧ x_rd h' T n p' ∧ (∀ k, k < x_nb w → H'.1 27 0 6 k = h'.1 41 0 7 k ∧ x_cb w k (H'.1 27 0 6 k) = true) ∧ H'.1 25 11 6 0 = (if w < 3 then H.1 25 11 6 0 ||| ((1 : Int32) <<< (nI w &&& 31)) else H.1 25 11 6 0) ∧ H'.1 25 12 6 0 = (if w = 3 then 1 else H.1 25 12 6 0) ∧ H'.1 25 13 6 0 = (if 3 < w then 1 else H.1 25 13 6 0) ∧ (w = 3 → H.1 25 13 6 0 = 0))) := by
  obtain ⟨r17, r19, r18, r20, r22⟩ := id rd
  obtain ⟨fl1, fl2, fl3, fl4, fl5⟩ := fl
  have sb := x_sk_b (T := T) hp
  have k4 := x_kd_4 (T := T) (n := n) (q := x_sk T n p)
  have hT0 : g_T (q_si H 25 10 6 0 0) = T := hT
  obtain ⟨H1, e, f, k3, k4', k5, k6⟩ := c_readToken (H := q_si H 25 10 6 0 0) (p := p) hn (by rw [g_rd_o (by omega)]; exact hl) hp (by rw [g_rd_o (by omega)]; exact ha)
  rw [hT0] at k3 k4' k5 k6
  have f' : x_tl H H1 := x_tl_tr (x_tl_25 (by omega)) (x_tn_l (g_tf_n f))
  have u15 : H1.1 25 15 6 0 = 0 := by rw [f.1 25 15 6 0 (by omega), g_rd_o (by omega)]; exact f0
  have u16 : H1.1 25 16 6 0 = H.1 25 16 6 0 := by rw [f.1 25 16 6 0 (by omega), g_rd_o (by omega)]
  have stepC : x_rl H = (if ¬ nI (x_kd T n (x_sk T n p)) = 0 then ((Tx_isGood (1 : Int32) H1).bind fun x12 => if ¬ x12.1 = 0 then ((Tx_wordRead x12.2).bind fun x14 => if ¬ ((q_si (q_si x12.2 25 7 6 0 x14) 25 8 6 0 ((q_si x12.2 25 7 6 0 x14).1 25 5 6 0)).1 25 7 6 0) = (-1 : Int32) then ((Tx_isTooLate (q_si (q_si x12.2 25 7 6 0 x14) 25 8 6 0 ((q_si x12.2 25 7 6 0 x14).1 25 5 6 0))).bind fun x16 => if x16 = 0 then ((Tx_noteWord (q_si (q_si x12.2 25 7 6 0 x14) 25 8 6 0 ((q_si x12.2 25 7 6 0 x14).1 25 5 6 0))).bind fun x18 => (Tx_readNumbers (q_si x18 25 10 6 0 (1 : Int32))).bind fun x20 => bif q_01 x20.1 then some ((x20.1, x20.2)) else none) else ((Tx_blame (5 : Int32) ((q_si (q_si x12.2 25 7 6 0 x14) 25 8 6 0 ((q_si x12.2 25 7 6 0 x14).1 25 5 6 0)).1 25 8 6 0) (q_si (q_si x12.2 25 7 6 0 x14) 25 8 6 0 ((q_si x12.2 25 7 6 0 x14).1 25 5 6 0))).bind fun x23 => some (((0 : Int32), x23)))) else ((Tx_blame (2 : Int32) ((q_si (q_si x12.2 25 7 6 0 x14) 25 8 6 0 ((q_si x12.2 25 7 6 0 x14).1 25 5 6 0)).1 25 8 6 0) (q_si (q_si x12.2 25 7 6 0 x14) 25 8 6 0 ((q_si x12.2 25 7 6 0 x14).1 25 5 6 0))).bind fun x26 => some (((0 : Int32), x26)))) else (some (((0 : Int32), x12.2)))) else (some (((0 : Int32), H1)))) := by
    unfold x_rl
    rw [e, Option.bind_some, k4']
  have blame : ∀ (f : Nat) (X : q_H), x_tl H X → x_tl H (q_si (q_si X 25 15 6 0 (nI f)) 25 16 6 0 (nI (x_sk T n p))) ∧ (q_si (q_si X 25 15 6 0 (nI f)) 25 16 6 0 (nI (x_sk T n p))).1 25 15 6 0 = nI f ∧ (q_si (q_si X 25 15 6 0 (nI f)) 25 16 6 0 (nI (x_sk T n p))).1 25 16 6 0 = nI (x_sk T n p) := fun f X hX => ⟨x_tl_tr (x_tl_tr hX (x_tl_25 (by omega))) (x_tl_25 (by omega)), by rw [g_rd_o (by omega), g_rd_e], g_rd_e⟩
  by_cases c0 : x_kd T n (x_sk T n p) = 0
  · refine Or.inl ⟨c0, H1, ?_, f', u15, u16⟩
    rw [stepC, c0, if_neg (fun q => q rfl)]
  · refine Or.inr ⟨c0, ?_⟩
    rw [if_pos (show ¬ nI (x_kd T n (x_sk T n p)) = 0 from nI_e (b := 0) (by omega) (by omega) c0)] at stepC
    -- how the reference blames the head
    have ref2 : ∀ z, Mo_key h = some z → z = -1 → Mo_readsLine h = some (q_si (q_si h 30 15 7 0 (nI (x_ft (x_kd T n (x_sk T n p))))) 30 16 7 0 (nI (x_sk T n p))) := fun z hz z1 => by
      have em := m_must0 (f := 2) (b := nI (x_sk T n p)) (by decide) w0 k4 r19
      rw [if_pos rfl] at em
      have em' : Mo_must 0 2 (nI (x_sk T n p)) h = some (q_si (q_si h 30 15 7 0 (nI (x_ft (x_kd T n (x_sk T n p))))) 30 16 7 0 (nI (x_sk T n p))) := em
      have fp : ¬ nI (x_ft (x_kd T n (x_sk T n p))) ≤ 0 := by
        unfold x_ft
        split <;> decide
      unfold Mo_readsLine
      rw [hz, z1, Option.bind_some, if_pos (by decide), Option.bind_some, r17, em', Option.bind_some, g_rd_o (by omega), g_rd_e, if_neg fp]
    by_cases c1 : x_kd T n (x_sk T n p) = 1
    · obtain ⟨s1, s2, s3⟩ := x_kd_1 c1
      have lb := x_lt_b (T := T) (n := n) (p := x_sk T n p) sb.2
      have l1 := x_lt_1 (T := T) s1 s2
      have u2 : H1.1 25 2 6 0 = nI n := by rw [f.1 25 2 6 0 (by omega), g_rd_o (by omega)]; exact hl
      have hT1 : g_T H1 = T := by rw [x_tl_T f']; exact hT
      have wr := c_wordRead (H := H1) hn u2 lb.1 lb.2 (by rw [k3, s3]) k5
      rw [hT1] at wr
      have mk := m_key (h := h) (T := T) (q := x_sk T n p) (r := x_lt T n (x_sk T n p)) lb.1 sm.2.2.1 (by rw [r19, c1]; rfl) (r22 c1) (fun i a b => x_lt_L (n := n) a b)
      unfold Tx_isGood at stepC
      rw [k4', c1, if_neg (fun q => q rfl), Option.bind_some, if_pos q1n, wr, Option.bind_some] at stepC
      have bb : ∀ v : Int32, (q_si H1 25 7 6 0 v).1 25 5 6 0 = nI (x_sk T n p) := fun v => by rw [g_rd_o (by omega)]; exact k5
      dsimp only at stepC
      rw [bb] at stepC
      by_cases w14 : x_wd T (x_sk T n p) (x_lt T n (x_sk T n p)) < 14
      · rw [if_pos w14] at stepC mk
        generalize x_wd T (x_sk T n p) (x_lt T n (x_sk T n p)) = w at w14 stepC mk
        generalize hX : q_si (q_si H1 25 7 6 0 (nI w)) 25 8 6 0 (nI (x_sk T n p)) = X at stepC
        have x7 : X.1 25 7 6 0 = nI w := by rw [← hX, g_rd_o (by omega), g_rd_e]
        have x8 : X.1 25 8 6 0 = nI (x_sk T n p) := by rw [← hX, g_rd_e]
        have xo : ∀ f, f ≠ 7 → f ≠ 8 → X.1 25 f 6 0 = H1.1 25 f 6 0 := fun f a b => by rw [← hX, g_rd_o (by omega), g_rd_o (by omega)]
        have xf : x_tl H X := by rw [← hX]; exact x_tl_tr (x_tl_tr f' (x_tl_25 (by omega))) (x_tl_25 (by omega))
        have v11 : X.1 25 11 6 0 = H.1 25 11 6 0 := by rw [xo 11 (by omega) (by omega), f.1 25 11 6 0 (by omega), g_rd_o (by omega)]
        have v12 : X.1 25 12 6 0 = H.1 25 12 6 0 := by rw [xo 12 (by omega) (by omega), f.1 25 12 6 0 (by omega), g_rd_o (by omega)]
        have v13 : X.1 25 13 6 0 = H.1 25 13 6 0 := by rw [xo 13 (by omega) (by omega), f.1 25 13 6 0 (by omega), g_rd_o (by omega)]
        rw [x7, if_pos (nI_n1 (by omega)), c_late w14 x7 (by rw [v13]; exact fl5), Option.bind_some, v11, v12, v13] at stepC
        -- the reference: too late or not
        have refL : Mo_readsLine h = if x_lat w (H.1 25 11 6 0) (H.1 25 12 6 0) (H.1 25 13 6 0) = true then some (q_si (q_si h 30 15 7 0 5) 30 16 7 0 (nI (x_sk T n p))) else ((Mo_reads h).bind fun x31 => (Mo_takesNumbers (nI w) x31).bind fun x33 => if (x33.1 30 15 7 0) ≤ 0 then x_ra (nI w) (nI (x_sk T n p)) x33 else some x33) := by
          have em := m_must0 (f := 5) (b := nI (x_sk T n p)) (by decide) w0 k4 r19
          rw [if_neg (by decide)] at em
          have em' : Mo_must 0 5 (nI (x_sk T n p)) h = some (q_si (q_si h 30 15 7 0 5) 30 16 7 0 (nI (x_sk T n p))) := em
          have eW : ∀ a b c, Mo_must a b c (q_si (q_si h 30 15 7 0 5) 30 16 7 0 (nI (x_sk T n p))) = some (q_si (q_si h 30 15 7 0 5) 30 16 7 0 (nI (x_sk T n p))) := fun a b c => m_mustW (by rw [g_rd_o (by omega), g_rd_e]; decide)
          have y15 : ¬ (q_si (q_si h 30 15 7 0 5) 30 16 7 0 (nI (x_sk T n p))).1 30 15 7 0 ≤ 0 := by rw [g_rd_o (by omega), g_rd_e]; decide
          unfold Mo_readsLine
          rw [mk, Option.bind_some, if_neg (show ¬ nI w < 0 from nI_nlt (b := 0) (by omega) (by omega)), Option.bind_some, m_must1, Option.bind_some, w0, if_pos (Int32.le_refl 0), r17, ← fl1, ← fl2, ← fl3]
          unfold x_lat
          by_cases w3 : w = 3
          · subst w3
            rw [if_pos (show (2 : Int32) < nI 3 by decide), Option.bind_some, m_must1, Option.bind_some, if_neg (fun q => q rfl), if_pos rfl, ← fl3, r17]
            rcases fl5 with q | q
            · rw [q, if_neg (fun y => y rfl), Option.bind_some, m_must1, Option.bind_some, w0, if_pos (Int32.le_refl 0), if_neg (by decide)]
              rfl
            · rw [q, if_pos (by decide), Option.bind_some, em', Option.bind_some, if_neg y15, if_pos (by decide)]
          · rw [if_neg w3]
            by_cases w4 : 3 ≤ w
            · rw [if_pos (show (2 : Int32) < nI w from nI_lt (a := 2) (by omega) (by omega)), Option.bind_some, m_must1, Option.bind_some, if_pos (show ¬ nI w = 3 from nI_e (b := 3) (by omega) (by omega) w3), Option.bind_some, m_must1, Option.bind_some, w0, if_pos (Int32.le_refl 0), if_pos w4, if_neg (by decide)]
              rfl
            · have l3 : ¬ nI w = 3 := nI_e (b := 3) (by omega) (by omega) w3
              rw [if_neg (show ¬ (2 : Int32) < nI w from nI_nlt (a := 2) (b := w) (by omega) (by decide)), if_neg w4]
              have late : ((Mo_must 0 5 (nI (x_sk T n p)) h).bind fun x20 => Option.bind (α := Int32) (if ¬ nI w = (3 : Int32) then (some ((1 : Int32))) else (if ¬ (x20.1 30 28 7 0) = 0 then (some ((0 : Int32))) else (some ((1 : Int32))))) (fun p28 => (Mo_must p28 (5 : Int32) (x20.1 30 17 7 0) x20).bind fun x29 => if (x29.1 30 15 7 0) ≤ 0 then ((Mo_reads x29).bind fun x31 => (Mo_takesNumbers (nI w) x31).bind fun x33 => if (x33.1 30 15 7 0) ≤ 0 then x_ra (nI w) (nI (x_sk T n p)) x33 else some x33) else some x29)) = some (q_si (q_si h 30 15 7 0 5) 30 16 7 0 (nI (x_sk T n p))) := by
                rw [em', Option.bind_some, if_pos l3, Option.bind_some, m_must1, Option.bind_some, if_neg y15]
              have nb := x_bit1 (H.1 25 11 6 0 >>> (nI w &&& 31))
              by_cases b0 : (H.1 25 11 6 0 >>> (nI w &&& 31)) &&& (1 : Int32) = 1
              · rw [if_pos (fun q => nb.mp q b0), Option.bind_some, if_pos (by rw [decide_eq_true b0, Bool.or_true, Bool.or_true])]
                exact late
              · rw [if_neg (fun q => q (nb.mpr b0)), decide_eq_false b0, Bool.or_false]
                by_cases b1 : H.1 25 12 6 0 = 0
                · rw [if_neg (fun q => q b1), decide_eq_true b1, Bool.not_true, Bool.or_false]
                  by_cases b2 : H.1 25 13 6 0 = 0
                  · rw [if_neg (fun q => q b2), decide_eq_true b2, Option.bind_some, m_must1, Option.bind_some, if_pos l3, Option.bind_some, m_must1, Option.bind_some, w0, if_pos (Int32.le_refl 0), if_neg (by decide)]
                    rfl
                  · rw [if_pos b2, decide_eq_false b2, Option.bind_some, if_pos (by rfl)]
                    exact late
                · rw [if_pos b1, decide_eq_false b1, Option.bind_some, if_pos (by rw [Bool.not_false, Bool.or_true])]
                  exact late
        cases lt : x_lat w (H.1 25 11 6 0) (H.1 25 12 6 0) (H.1 25 13 6 0) with
        | true =>
          rw [lt, if_neg qn1, x8] at stepC
          rw [lt, if_pos rfl] at refL
          obtain ⟨b1, b2, b3⟩ := blame 5 X xf
          refine Or.inl ⟨_, _, 5, x_sk T n p, stepC, refL, b1, g_tq_tr (g_tq_30 (by omega)) (g_tq_30 (by omega)), by omega, b2, b3, by rw [g_rd_o (by omega), g_rd_e]; rfl, g_rd_e⟩
        | false =>
          rw [lt, if_pos (show q_bi false = 0 from rfl)] at stepC
          rw [lt, if_neg (by decide)] at refL
          -- the note of the word
          have note : ∃ Y, Tx_noteWord X = some Y ∧ x_tl X Y ∧ (∀ f, f ≠ 11 → f ≠ 12 → f ≠ 13 → Y.1 25 f 6 0 = X.1 25 f 6 0) ∧ (∀ k, Y.1 27 0 6 k = X.1 27 0 6 k) ∧ Y.1 25 11 6 0 = (if w < 3 then H.1 25 11 6 0 ||| ((1 : Int32) <<< (nI w &&& 31)) else H.1 25 11 6 0) ∧ Y.1 25 12 6 0 = (if w = 3 then 1 else H.1 25 12 6 0) ∧ Y.1 25 13 6 0 = (if 3 < w then 1 else H.1 25 13 6 0) := by
            unfold Tx_noteWord
            rw [x7]
            by_cases w3 : 3 ≤ w
            · rw [if_pos (show (3 : Int32) ≤ nI w from nI_le (a := 3) w3 (by omega))]
              by_cases w4 : w = 3
              · subst w4
                rw [if_neg (by decide)]
                exact ⟨_, rfl, x_tl_25 (by omega), fun f a b c => g_rd_o (by omega), fun k => g_rd_o (by omega), by rw [g_rd_o (by omega), if_neg (by decide)]; exact v11, by rw [g_rd_e, if_pos rfl], by rw [g_rd_o (by omega), if_neg (by decide)]; exact v13⟩
              · rw [if_pos (show ¬ nI w = 3 from nI_e (b := 3) (by omega) (by omega) w4)]
                exact ⟨_, rfl, x_tl_25 (by omega), fun f a b c => g_rd_o (by omega), fun k => g_rd_o (by omega), by rw [g_rd_o (by omega), if_neg (by omega)]; exact v11, by rw [g_rd_o (by omega), if_neg w4]; exact v12, by rw [g_rd_e, if_pos (by omega)]⟩
            · rw [if_neg (show ¬ (3 : Int32) ≤ nI w from nI_ge (b := 3) (by omega) (by decide))]
              exact ⟨_, rfl, x_tl_25 (by omega), fun f a b c => g_rd_o (by omega), fun k => g_rd_o (by omega), by rw [g_rd_e, if_pos (by omega), v11], by rw [g_rd_o (by omega), if_neg (by omega)]; exact v12, by rw [g_rd_o (by omega), if_neg (by omega)]; exact v13⟩
          obtain ⟨Y, ey, yl, yo, y27, y11, y12, y13⟩ := note
          rw [ey, Option.bind_some] at stepC
          generalize hZ : q_si Y 25 10 6 0 (1 : Int32) = Z at stepC
          have zl : x_tl H Z := by rw [← hZ]; exact x_tl_tr (x_tl_tr xf yl) (x_tl_25 (by omega))
          have zo : ∀ f, f ≠ 10 → Z.1 25 f 6 0 = Y.1 25 f 6 0 := fun f a => by rw [← hZ, g_rd_o (by omega)]
          have z10 : Z.1 25 10 6 0 = 1 := by rw [← hZ, g_rd_e]
          obtain ⟨h3, e3, f3, t3⟩ := m_reads (h := h) (n := n) (T := T) (p := x_lt T n (x_sk T n p)) sm.1 hn sm.2.1 lb.2 (by rw [← s3]; exact r18 (Or.inl c1))
          have q3 : g_tq h h3 := g_tm_q f3
          obtain ⟨ok, H', h', o1, o2, o3, o4, o5, o6⟩ := x_nl hn w14 (x_nb w) 0 (x_lt T n (x_sk T n p)) Z h3 (by omega) (by rw [zo 2 (by omega), yo 2 (by omega) (by omega) (by omega), xo 2 (by omega) (by omega)]; exact u2) (by rw [zo 7 (by omega), yo 7 (by omega) (by omega) (by omega)]; exact x7) (by rw [zo 3 (by omega), yo 3 (by omega) (by omega) (by omega), xo 3 (by omega) (by omega), k3, s3]) lb.2 (by rw [x_tl_T zl]; exact hT) (x_sm_q q3 sm) t3 (by rw [f3.1 30 15 7 0 (by omega)]; exact w0) ⟨by rw [zo 15 (by omega), yo 15 (by omega) (by omega) (by omega), xo 15 (by omega) (by omega)]; exact u15, by rw [zo 16 (by omega), yo 16 (by omega) (by omega) (by omega), xo 16 (by omega) (by omega), u16]; exact f16⟩ (fun k hk => by omega)
          have n5 := x_nb_5 w w14
          rw [x_bC_e, show ((0 : Int32), Z) = (nI 0, Z) from rfl, o1 q_fu (by unfold q_fu; omega), Option.bind_some, Option.bind_some, q_bi01, cond_true] at stepC
          rw [e3, Option.bind_some, x_bM_e, show ((0 : Int32), h3) = (nI 0, h3) from rfl, o2 q_fu (by unfold q_fu; omega), Option.bind_some, Option.bind_some] at refL
          cases ok with
          | false =>
            obtain ⟨f9, q9, a1, a2, a3, a4, a5⟩ := o6 rfl
            rw [if_neg (by rw [a4]; exact nI_ge (a := 0) (by omega) (by omega))] at refL
            exact Or.inl ⟨H', h', f9, q9, stepC, refL, x_tl_tr zl (x_tn_l o3), g_tq_tr q3 o4, by omega, a2, a3, a4, a5⟩
          | true =>
            obtain ⟨a1, a2, p', a3, a4, a5, a6, a7⟩ := o5 rfl
            rw [if_pos (by rw [a2]; exact Int32.le_refl 0)] at refL
            have ho : ∀ f, f ≠ 3 → f ≠ 4 → f ≠ 5 → f ≠ 6 → f ≠ 15 → f ≠ 16 → H'.1 25 f 6 0 = Z.1 25 f 6 0 := fun f b1 b2 b3 b4 b5 b6 => o3.1 25 f 6 0 (by omega) (by omega)
            refine Or.inr ⟨H', h', w, p', x_sk T n p, w14, by omega, a4, stepC, refL, x_tl_tr zl (x_tn_l o3), g_tq_tr q3 o4, a1, a2, ?_, ?_, ?_, a5, a6, a7, ?_, ?_, ?_, fun q => ?_⟩
            · rw [ho 10 (by omega) (by omega) (by omega) (by omega) (by omega) (by omega)]; exact z10
            · rw [ho 7 (by omega) (by omega) (by omega) (by omega) (by omega) (by omega), zo 7 (by omega), yo 7 (by omega) (by omega) (by omega)]; exact x7
            · rw [ho 8 (by omega) (by omega) (by omega) (by omega) (by omega) (by omega), zo 8 (by omega), yo 8 (by omega) (by omega) (by omega)]; exact x8
            · rw [ho 11 (by omega) (by omega) (by omega) (by omega) (by omega) (by omega), zo 11 (by omega)]; exact y11
            · rw [ho 12 (by omega) (by omega) (by omega) (by omega) (by omega) (by omega), zo 12 (by omega)]; exact y12
            · rw [ho 13 (by omega) (by omega) (by omega) (by omega) (by omega) (by omega), zo 13 (by omega)]; exact y13
            · unfold x_lat at lt
              rw [if_pos q, decide_eq_false_iff_not] at lt
              rcases fl5 with z | z
              · exact z
              · exact absurd z lt
      · rw [if_neg w14] at stepC mk
        rw [g_rd_o (by omega), g_rd_e, if_neg (by decide), g_rd_e] at stepC
        have r2 := ref2 _ mk rfl
        rw [c1] at r2
        obtain ⟨b1, b2, b3⟩ := blame 2 (q_si (q_si H1 25 7 6 0 (-1)) 25 8 6 0 (nI (x_sk T n p))) (x_tl_tr (x_tl_tr f' (x_tl_25 (by omega))) (x_tl_25 (by omega)))
        exact Or.inl ⟨_, _, 2, x_sk T n p, stepC, r2, b1, g_tq_tr (g_tq_30 (by omega)) (g_tq_30 (by omega)), by omega, b2, b3, by rw [g_rd_o (by omega), g_rd_e]; rfl, g_rd_e⟩
    · have r2 := ref2 _ (m_key0 (h := h) (by rw [r19]; exact nI_e (b := 1) (by omega) (by omega) c1)) rfl
      unfold Tx_isGood at stepC
      rw [k4', if_pos (show ¬ nI (x_kd T n (x_sk T n p)) = 1 from nI_e (b := 1) (by omega) (by omega) c1), k5] at stepC
      unfold x_ft at r2
      by_cases c4 : x_kd T n (x_sk T n p) = 4
      · rw [c4, if_neg (fun q => q rfl)] at stepC
        rw [if_pos c4] at r2
        obtain ⟨b1, b2, b3⟩ := blame 1 H1 f'
        exact Or.inl ⟨_, _, 1, x_sk T n p, stepC, r2, b1, g_tq_tr (g_tq_30 (by omega)) (g_tq_30 (by omega)), by omega, b2, b3, by rw [g_rd_o (by omega), g_rd_e], g_rd_e⟩
      · rw [if_pos (show ¬ nI (x_kd T n (x_sk T n p)) = 4 from nI_e (b := 4) (by omega) (by omega) c4)] at stepC
        rw [if_neg c4] at r2
        obtain ⟨b1, b2, b3⟩ := blame 2 H1 f'
        exact Or.inl ⟨_, _, 2, x_sk T n p, stepC, r2, b1, g_tq_tr (g_tq_30 (by omega)) (g_tq_30 (by omega)), by omega, b2, b3, by rw [g_rd_o (by omega), g_rd_e], g_rd_e⟩
