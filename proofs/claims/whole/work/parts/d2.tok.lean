/-! the text: tokens, the component -/
def x_le (v : Int32) : Bool := g_in v 97 122
def x_di (v : Int32) : Bool := g_in v 48 57
def x_bl (v : Int32) : Bool := decide (v = 32) || decide (v = 10)
def x_sk (T : Nat → Int32) (n p : Nat) : Nat := g_fst (fun i => !x_bl (T i)) p (n - p)
def x_lt (T : Nat → Int32) (n p : Nat) : Nat := g_fst (fun i => !x_le (T i)) p (n - p)
def x_dg (T : Nat → Int32) (n p : Nat) : Nat := g_fst (fun i => !x_di (T i)) p (n - p)
def x_nm (T : Nat → Int32) (q r : Nat) : Int32 := g_it (fun i x => x * 10 + T i - 48) q (r - q) 0
def x_kd (T : Nat → Int32) (n q : Nat) : Nat := if n ≤ q then 0 else if T q = 59 then 3 else if x_le (T q) = true then 1 else if x_di (T q) = true then (if x_dg T n q - q ≤ 3 then 2 else 4) else 4
def x_en (T : Nat → Int32) (n q : Nat) : Nat := if n ≤ q then q else if T q = 59 then q + 1 else if x_le (T q) = true then x_lt T n q else if x_di (T q) = true then x_dg T n q else q
theorem x_sk_b {T : Nat → Int32} {n p : Nat} (hp : p ≤ n) : p ≤ x_sk T n p ∧ x_sk T n p ≤ n := by
  have := g_fst_le (fun i => !x_bl (T i)) (n - p) p
  unfold x_sk; omega
theorem x_lt_b {T : Nat → Int32} {n p : Nat} (hp : p ≤ n) : p ≤ x_lt T n p ∧ x_lt T n p ≤ n := by
  have := g_fst_le (fun i => !x_le (T i)) (n - p) p
  unfold x_lt; omega
theorem x_dg_b {T : Nat → Int32} {n p : Nat} (hp : p ≤ n) : p ≤ x_dg T n p ∧ x_dg T n p ≤ n := by
  have := g_fst_le (fun i => !x_di (T i)) (n - p) p
  unfold x_dg; omega
theorem x_lt_1 {T : Nat → Int32} {n p : Nat} (hp : p < n) (h : x_le (T p) = true) : p + 1 ≤ x_lt T n p := by
  unfold x_lt
  rw [show n - p = (n - p - 1) + 1 by omega]
  unfold g_fst
  rw [h]
  exact (g_fst_le _ _ _).1
theorem x_dg_1 {T : Nat → Int32} {n p : Nat} (hp : p < n) (h : x_di (T p) = true) : p + 1 ≤ x_dg T n p := by
  unfold x_dg
  rw [show n - p = (n - p - 1) + 1 by omega]
  unfold g_fst
  rw [h]
  exact (g_fst_le _ _ _).1
theorem x_en_b {T : Nat → Int32} {n q : Nat} (hq : q ≤ n) : q ≤ x_en T n q ∧ x_en T n q ≤ n := by
  have a := x_lt_b (T := T) hq
  have b := x_dg_b (T := T) hq
  unfold x_en
  by_cases c : n ≤ q
  · rw [if_pos c]; omega
  · rw [if_neg c]
    by_cases d : T q = 59
    · rw [if_pos d]; omega
    · rw [if_neg d]
      by_cases e : x_le (T q) = true
      · rw [if_pos e]; exact a
      · rw [if_neg e]
        by_cases f : x_di (T q) = true
        · rw [if_pos f]; exact b
        · rw [if_neg f]; omega
def g_T (H : q_H) : Nat → Int32 := fun i => H.1 26 0 6 i
theorem g_si_si {h : q_H} {t f k i : Nat} {u v : Int32} : q_si (q_si h t f k i u) t f k i v = q_si h t f k i v := by
  unfold q_si
  congr 1
  funext a b c d
  by_cases e : a = t ∧ b = f ∧ c = k ∧ d = i
  · simp only [if_pos e]
  · simp only [if_neg e]
theorem g_si_id {h : q_H} {t f k i : Nat} {v : Int32} (e : h.1 t f k i = v) : q_si h t f k i v = h := by
  unfold q_si
  refine Prod.ext ?_ rfl
  funext a b c d
  dsimp only
  by_cases q : a = t ∧ b = f ∧ c = k ∧ d = i
  · obtain ⟨rfl, rfl, rfl, rfl⟩ := q
    rw [if_pos ⟨rfl, rfl, rfl, rfl⟩]; exact e.symm
  · rw [if_neg q]
def g_tf (H H' : q_H) : Prop := (∀ t f k i, ¬ (t = 25 ∧ k = 6 ∧ 3 ≤ f ∧ f ≤ 6) → H'.1 t f k i = H.1 t f k i) ∧ H'.2 = H.2
theorem g_tf_tr {H H' H'' : q_H} (a : g_tf H H') (b : g_tf H' H'') : g_tf H H'' := ⟨fun t f k i n => (b.1 t f k i n).trans (a.1 t f k i n), b.2.trans a.2⟩
theorem g_tf_si {H : q_H} {f i : Nat} {v : Int32} (h : 3 ≤ f ∧ f ≤ 6) : g_tf H (q_si H 25 f 6 i v) := ⟨fun t g k j n => g_rd_o (fun q => n ⟨q.1, by omega⟩), rfl⟩
section x_C
variable {H : q_H} {n : Nat}
theorem c_byteAt {p : Nat} (hn : n ≤ 700) (hl : H.1 25 2 6 0 = nI n) (hp : p < n) : Tx_byteAt (nI p) H = some (g_T H p) := by
  unfold Tx_byteAt
  rw [hl, if_neg (nI_ge hp (by omega)), c_pick (t := 26) (n := 700) rfl rfl (by omega) (by omega)]
  rfl
theorem c_byteEnd {p : Nat} (hn : n ≤ 700) (hl : H.1 25 2 6 0 = nI n) (hp : n ≤ p) (h31 : p < 2 ^ 31) : Tx_byteAt (nI p) H = some (-1) := by
  unfold Tx_byteAt
  rw [hl, if_pos (nI_le hp h31)]
theorem c_passAll {lo hi : Int32} {p : Nat} (hn : n ≤ 700) (hl : H.1 25 2 6 0 = nI n) (hp : p ≤ n) (ha : H.1 25 3 6 0 = nI p) : Tx_passAll lo hi H = some (q_si H 25 3 6 0 (nI (g_fst (fun i => !g_in (g_T H i) lo hi) p (n - p)))) := by
  unfold Tx_passAll
  refine g_bs (g_lpB (fun i => !g_in (g_T H i) lo hi) (fun i => q_si H 25 3 6 0 (nI i)) p (n - p) (fun i => q_si H 25 3 6 0 (nI i)) (g_si_id ha).symm (fun i a b => ?_) ?_ (by unfold q_fu; omega))
  · rw [g_rd_o (by omega), hl, g_rd_e, if_neg (nI_ge (by omega) (by omega)), c_byteAt (H := q_si H 25 3 6 0 (nI i)) hn (by rw [g_rd_o (by omega)]; exact hl) (by omega)]
    simp only [Option.bind_some]
    rw [c_isWithin, show g_T (q_si H 25 3 6 0 (nI i)) i = g_T H i from rfl]
    simp only [Option.bind_some]
    cases g_in (g_T H i) lo hi
    · rw [if_pos (by rfl)]; rfl
    · rw [if_neg qn1, g_si_si, nI_1]; rfl
  · rw [g_rd_o (by omega), hl, g_rd_e, if_pos (by rw [show p + (n - p) = n by omega]; exact Int32.le_refl _)]
theorem c_numberRead {q r : Nat} (hn : n ≤ 700) (hl : H.1 25 2 6 0 = nI n) (hq : q ≤ r) (hr : r ≤ n) (ha : H.1 25 3 6 0 = nI r) (hk : H.1 25 5 6 0 = nI q) : Tx_numberRead H = some (x_nm (g_T H) q r) := by
  unfold Tx_numberRead
  refine g_bs (g_lpI' (fun i x => x * 10 + g_T H i - 48) q (r - q) 0 (fun i x => (x, nI i)) (fun x => x) (by rw [hk]) (fun i x a b => ?_) (fun x => ?_) (by unfold q_fu; omega))
  · dsimp only
    rw [ha, if_neg (nI_ge (by omega) (by omega)), c_byteAt hn hl (by omega)]
    simp only [Option.bind_some]
    rw [nI_1]
  · dsimp only
    rw [ha, if_pos (by rw [show q + (r - q) = r by omega]; exact Int32.le_refl _)]
theorem c_readToken {p : Nat} (hn : n ≤ 700) (hl : H.1 25 2 6 0 = nI n) (hp : p ≤ n) (ha : H.1 25 3 6 0 = nI p) : ∃ H', Tx_readToken H = some H' ∧ g_tf H H' ∧ H'.1 25 3 6 0 = nI (x_en (g_T H) n (x_sk (g_T H) n p)) ∧ H'.1 25 4 6 0 = nI (x_kd (g_T H) n (x_sk (g_T H) n p)) ∧ H'.1 25 5 6 0 = nI (x_sk (g_T H) n p) ∧ (x_kd (g_T H) n (x_sk (g_T H) n p) = 2 → H'.1 25 6 6 0 = x_nm (g_T H) (x_sk (g_T H) n p) (x_dg (g_T H) n (x_sk (g_T H) n p))) := by
  have e1 : q_lp (fun s1 : q_H => (if (s1.1 25 2 6 0) ≤ (s1.1 25 3 6 0) then (some (.inr (s1))) else ((Tx_byteAt (s1.1 25 3 6 0) s1).bind fun x9 => if x9 = (32 : Int32) then (some (.inl (q_si s1 25 3 6 0 ((s1.1 25 3 6 0) + (1 : Int32))))) else ((Tx_byteAt (s1.1 25 3 6 0) s1).bind fun x11 => if ¬ x11 = (10 : Int32) then (some (.inr (s1))) else (some (.inl (q_si s1 25 3 6 0 ((s1.1 25 3 6 0) + (1 : Int32))))))) : Option ((q_H) ⊕ (q_H)))) q_fu (H : q_H) = some (q_si H 25 3 6 0 (nI (x_sk (g_T H) n p))) := by
    refine g_lpB (fun i => !x_bl (g_T H i)) (fun i => q_si H 25 3 6 0 (nI i)) p (n - p) (fun i => q_si H 25 3 6 0 (nI i)) (g_si_id ha).symm (fun i a b => ?_) ?_ (by unfold q_fu; omega)
    · rw [g_rd_o (by omega), hl, g_rd_e, if_neg (nI_ge (by omega) (by omega)), c_byteAt (H := q_si H 25 3 6 0 (nI i)) hn (by rw [g_rd_o (by omega)]; exact hl) (by omega)]
      simp only [Option.bind_some]
      rw [show g_T (q_si H 25 3 6 0 (nI i)) i = g_T H i from rfl, g_si_si, nI_1]
      unfold x_bl
      by_cases c : g_T H i = 32
      · rw [if_pos c, decide_eq_true c]; rfl
      · rw [if_neg c, decide_eq_false c]
        by_cases d : g_T H i = 10
        · rw [if_neg (fun q => q d), decide_eq_true d]; rfl
        · rw [if_pos d, decide_eq_false d]; rfl
    · rw [g_rd_o (by omega), hl, g_rd_e, if_pos (by rw [show p + (n - p) = n by omega]; exact Int32.le_refl _)]
  obtain ⟨b1, b2⟩ := x_sk_b (T := g_T H) hp
  generalize x_sk (g_T H) n p = q at e1 b1 b2 ⊢
  unfold Tx_readToken
  rw [e1]
  simp only [Option.bind_some]
  rw [show (q_si H 25 3 6 0 (nI q)).1 25 3 6 0 = nI q from g_rd_e]
  generalize hX : q_si (q_si H 25 3 6 0 (nI q)) 25 5 6 0 (nI q) = X
  have xT : g_T X = g_T H := by rw [← hX]; rfl
  have x2 : X.1 25 2 6 0 = nI n := by rw [← hX, g_rd_o (by omega), g_rd_o (by omega)]; exact hl
  have x3 : X.1 25 3 6 0 = nI q := by rw [← hX, g_rd_o (by omega), g_rd_e]
  have x5 : X.1 25 5 6 0 = nI q := by rw [← hX, g_rd_e]
  have xf : g_tf H X := by rw [← hX]; exact g_tf_tr (g_tf_si (by omega)) (g_tf_si (by omega))
  rw [x3, x2]
  by_cases c : n ≤ q
  · have eq : q = n := by omega
    rw [c_byteEnd hn x2 c (by omega)]
    simp only [Option.bind_some]
    rw [if_neg (nI_nlt c (by omega))]
    refine ⟨_, rfl, g_tf_tr xf (g_tf_si (by omega)), ?_, ?_, ?_, ?_⟩
    · rw [g_rd_o (by omega), x3]; unfold x_en; rw [if_pos c]
    · rw [g_rd_e]; unfold x_kd; rw [if_pos c]; rfl
    · rw [g_rd_o (by omega), x5]
    · intro k; unfold x_kd at k; rw [if_pos c] at k; omega
  · rw [c_byteAt hn x2 (by omega), xT]
    simp only [Option.bind_some]
    rw [if_pos (nI_lt (by omega) (by omega))]
    by_cases d : g_T H q = 59
    · rw [if_neg (fun k => k d)]
      refine ⟨_, rfl, g_tf_tr (g_tf_tr xf (g_tf_si (by omega))) (g_tf_si (by omega)), ?_, ?_, ?_, ?_⟩
      · rw [g_rd_e, g_rd_o (by omega), x3, nI_1]; unfold x_en; rw [if_neg c, if_pos d]
      · rw [g_rd_o (by omega), g_rd_e]; unfold x_kd; rw [if_neg c, if_pos d]; rfl
      · rw [g_rd_o (by omega), g_rd_o (by omega), x5]
      · intro k; unfold x_kd at k; rw [if_neg c, if_pos d] at k; omega
    · rw [if_pos d, c_isWithin]
      simp only [Option.bind_some]
      cases e : g_in (g_T H q) 97 122 with
      | true =>
        have e' : x_le (g_T H q) = true := e
        rw [if_neg qn1, c_passAll (H := q_si X 25 4 6 0 1) hn (by rw [g_rd_o (by omega)]; exact x2) b2 (by rw [g_rd_o (by omega)]; exact x3), show g_T (q_si X 25 4 6 0 1) = g_T H from xT]
        refine ⟨_, rfl, g_tf_tr (g_tf_tr xf (g_tf_si (by omega))) (g_tf_si (by omega)), ?_, ?_, ?_, ?_⟩
        · rw [g_rd_e]; unfold x_en; rw [if_neg c, if_neg d, if_pos e']; rfl
        · rw [g_rd_o (by omega), g_rd_e]; unfold x_kd; rw [if_neg c, if_neg d, if_pos e']; rfl
        · rw [g_rd_o (by omega), g_rd_o (by omega), x5]
        · intro k; unfold x_kd at k; rw [if_neg c, if_neg d, if_pos e'] at k; omega
      | false =>
        have e' : ¬ x_le (g_T H q) = true := by unfold x_le; rw [e]; decide
        rw [if_pos (by rfl), c_isWithin]
        simp only [Option.bind_some]
        cases f : g_in (g_T H q) 48 57 with
        | false =>
          have f' : ¬ x_di (g_T H q) = true := by unfold x_di; rw [f]; decide
          rw [if_pos (by rfl)]
          refine ⟨_, rfl, g_tf_tr xf (g_tf_si (by omega)), ?_, ?_, ?_, ?_⟩
          · rw [g_rd_o (by omega), x3]; unfold x_en; rw [if_neg c, if_neg d, if_neg e', if_neg f']
          · rw [g_rd_e]; unfold x_kd; rw [if_neg c, if_neg d, if_neg e', if_neg f']; rfl
          · rw [g_rd_o (by omega), x5]
          · intro k; unfold x_kd at k; rw [if_neg c, if_neg d, if_neg e', if_neg f'] at k; omega
        | true =>
          have f' : x_di (g_T H q) = true := f
          have gb := x_dg_b (T := g_T H) b2
          have ke : x_kd (g_T H) n q = if x_dg (g_T H) n q - q ≤ 3 then 2 else 4 := by unfold x_kd; rw [if_neg c, if_neg d, if_neg e', if_pos f']
          have ee : x_en (g_T H) n q = x_dg (g_T H) n q := by unfold x_en; rw [if_neg c, if_neg d, if_neg e', if_pos f']
          rw [if_neg qn1, c_passAll hn x2 b2 x3, xT]
          simp only [Option.bind_some]
          rw [show g_fst (fun i => !g_in (g_T H i) 48 57) q (n - q) = x_dg (g_T H) n q from rfl, ke, ee]
          generalize x_dg (g_T H) n q = r at gb ⊢
          rw [g_rd_e, g_rd_o (by omega), x5, pk_sub gb.1]
          by_cases l : r - q ≤ 3
          · rw [if_pos (show nI (r - q) ≤ (3 : Int32) from nI_le (b := 3) l (by decide)), if_pos l, c_numberRead (n := n) (q := q) (r := r) hn (by rw [g_rd_o (by omega), g_rd_o (by omega)]; exact x2) gb.1 gb.2 (by rw [g_rd_o (by omega), g_rd_e]) (by rw [g_rd_o (by omega), g_rd_o (by omega)]; exact x5)]
            refine ⟨_, rfl, g_tf_tr (g_tf_tr (g_tf_tr xf (g_tf_si (by omega))) (g_tf_si (by omega))) (g_tf_si (by omega)), ?_, ?_, ?_, ?_⟩
            · rw [g_rd_o (by omega), g_rd_o (by omega), g_rd_e]
            · rw [g_rd_o (by omega), g_rd_e]; rfl
            · rw [g_rd_o (by omega), g_rd_o (by omega), g_rd_o (by omega), x5]
            · intro _
              rw [g_rd_e]
              exact congrArg (fun z => x_nm z q r) xT
          · rw [if_neg (show ¬ nI (r - q) ≤ (3 : Int32) from nI_ge (a := 3) (by omega) (by omega)), if_neg l, c_numberRead (n := n) (q := q) (r := r) hn (by rw [g_rd_o (by omega), g_rd_o (by omega)]; exact x2) gb.1 gb.2 (by rw [g_rd_o (by omega), g_rd_e]) (by rw [g_rd_o (by omega), g_rd_o (by omega)]; exact x5)]
            refine ⟨_, rfl, g_tf_tr (g_tf_tr (g_tf_tr xf (g_tf_si (by omega))) (g_tf_si (by omega))) (g_tf_si (by omega)), ?_, ?_, ?_, ?_⟩
            · rw [g_rd_o (by omega), g_rd_o (by omega), g_rd_e]
            · rw [g_rd_o (by omega), g_rd_e]; rfl
            · rw [g_rd_o (by omega), g_rd_o (by omega), g_rd_o (by omega), x5]
            · intro k; omega
end x_C
