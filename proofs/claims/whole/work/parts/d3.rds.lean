/-! the text: tokens, the reference -/
def g_by (c m : Int32) : Prop := (∃ k, k < 128 ∧ c = nI k ∧ m = nI k) ∨ (∃ k, 128 ≤ k ∧ k < 256 ∧ c = nI k ∧ m < 0)
theorem g_by_eq {c m : Int32} {v : Nat} (h : g_by c m) (hv : v < 128) : c = nI v ↔ m = nI v := by
  rcases h with ⟨k, h1, rfl, rfl⟩ | ⟨k, h1, h2, rfl, h3⟩
  · exact Iff.rfl
  · constructor
    · intro e
      have := (nI_eq (by omega) (by omega)).mp e
      omega
    · intro e
      rw [e] at h3
      exact absurd h3 (nI_nlt (b := 0) (by omega) (by omega))
theorem g_by_in {c m : Int32} {lo hi : Nat} (h : g_by c m) (hh : hi < 128) (hl : lo < 128) : g_in c (nI lo) (nI hi) = g_in m (nI lo) (nI hi) := by
  rcases h with ⟨k, h1, rfl, rfl⟩ | ⟨k, h1, h2, rfl, h3⟩
  · rfl
  · unfold g_in
    have e1 : nI hi < nI k := nI_lt (by omega) (by omega)
    have e2 : m < nI lo := Int32.lt_of_lt_of_le h3 (nI_pos' (by omega))
    rw [decide_eq_true e1, decide_eq_true e2, Bool.not_true, Bool.and_false, Bool.false_and]
theorem g_by_same {c m : Int32} {lo hi : Nat} (h : g_by c m) (hh : hi < 128) (e : g_in c (nI lo) (nI hi) = true) : m = c := by
  rcases h with ⟨k, h1, rfl, rfl⟩ | ⟨k, h1, h2, rfl, h3⟩
  · rfl
  · unfold g_in at e
    rw [decide_eq_true (show nI hi < nI k from nI_lt (by omega) (by omega)), Bool.not_true, Bool.and_false] at e
    cases e
def x_hf (T : Nat → Int32) (q i : Nat) (w : Int64) : Int64 := if 8 ≤ i - q then w else (27 : Int64) * w + (T i).toInt64 - (96 : Int64)
def x_ha (T : Nat → Int32) (q i : Nat) : Int64 := g_it (x_hf T q) q (i - q) 0
theorem x_ha_s {T : Nat → Int32} {q i : Nat} (h : q ≤ i) : x_ha T q (i + 1) = x_hf T q i (x_ha T q i) := by
  unfold x_ha
  rw [show i + 1 - q = (i - q) + 1 by omega]
  show x_hf T q (q + (i - q)) _ = _
  rw [show q + (i - q) = i by omega]
theorem x_ha_0 {T : Nat → Int32} {q : Nat} : x_ha T q q = 0 := by
  unfold x_ha
  rw [show q - q = 0 by omega]; rfl
def x_n3 (T : Nat → Int32) (q i : Nat) : Int32 := g_it (fun i x => if 3 ≤ i - q then x else (10 : Int32) * x + T i - 48) q (i - q) 0
theorem x_n3_s {T : Nat → Int32} {q i : Nat} (h : q ≤ i) : x_n3 T q (i + 1) = if 3 ≤ i - q then x_n3 T q i else (10 : Int32) * x_n3 T q i + T i - 48 := by
  unfold x_n3
  rw [show i + 1 - q = (i - q) + 1 by omega]
  show (if 3 ≤ (q + (i - q)) - q then _ else _) = _
  rw [show q + (i - q) = i by omega]
theorem x_n3_0 {T : Nat → Int32} {q : Nat} : x_n3 T q q = 0 := by
  unfold x_n3
  rw [show q - q = 0 by omega]; rfl
theorem x_n3_nm {T : Nat → Int32} {q r : Nat} (h : r - q ≤ 3) : x_n3 T q r = x_nm T q r := by
  unfold x_n3 x_nm
  refine g_it_congr _ _ _ (fun j a b x => ?_)
  rw [if_neg (by omega), Int32.mul_comm]
def g_tm (H H' : q_H) : Prop := (∀ t f k i, ¬ (t = 30 ∧ k = 7 ∧ 17 ≤ f ∧ f ≤ 20) → H'.1 t f k i = H.1 t f k i) ∧ ∀ t f k i, ¬ (t = 30 ∧ k = 7 ∧ f = 22) → H'.2 t f k i = H.2 t f k i
theorem g_tm_tr {H H' H'' : q_H} (a : g_tm H H') (b : g_tm H' H'') : g_tm H H'' := ⟨fun t f k i n => (b.1 t f k i n).trans (a.1 t f k i n), fun t f k i n => (b.2 t f k i n).trans (a.2 t f k i n)⟩
theorem g_tm_si {H : q_H} {f i : Nat} {v : Int32} (h : 17 ≤ f ∧ f ≤ 20) : g_tm H (q_si H 30 f 7 i v) := ⟨fun t g k j n => g_rd_o (fun q => n ⟨q.1, by omega⟩), fun _ _ _ _ _ => rfl⟩
theorem g_tm_sl {H : q_H} {v : Int64} : g_tm H (q_sl H 30 22 7 0 v) := ⟨fun _ _ _ _ _ => rfl, fun t g k j n => by
  unfold q_sl
  exact if_neg (fun q => n ⟨q.1, q.2.2.1, q.2.1⟩)⟩
theorem g_sl_e {h : q_H} {t f k i : Nat} {v : Int64} : (q_sl h t f k i v).2 t f k i = v := by
  unfold q_sl
  exact if_pos ⟨rfl, rfl, rfl, rfl⟩
theorem g_sl_1 {h : q_H} {t f k i : Nat} {v : Int64} : (q_sl h t f k i v).1 = h.1 := rfl
theorem g_sl_id {h : q_H} {t f k i : Nat} {v : Int64} (e : h.2 t f k i = v) : q_sl h t f k i v = h := by
  unfold q_sl
  refine Prod.ext rfl ?_
  funext a b c d
  dsimp only
  by_cases q : a = t ∧ b = f ∧ c = k ∧ d = i
  · obtain ⟨rfl, rfl, rfl, rfl⟩ := q
    rw [if_pos ⟨rfl, rfl, rfl, rfl⟩]; exact e.symm
  · rw [if_neg q]
theorem g_sl_sl {h : q_H} {t f k i : Nat} {u v : Int64} : q_sl (q_sl h t f k i u) t f k i v = q_sl h t f k i v := by
  unfold q_sl
  congr 1
  funext a b c d
  by_cases e : a = t ∧ b = f ∧ c = k ∧ d = i
  · simp only [if_pos e]
  · simp only [if_neg e]
theorem g_si_cm {h : q_H} {t f k i t' f' k' i' : Nat} {u v : Int32} (hn : ¬ (t = t' ∧ f = f' ∧ k = k' ∧ i = i')) : q_si (q_si h t f k i u) t' f' k' i' v = q_si (q_si h t' f' k' i' v) t f k i u := by
  unfold q_si
  congr 1
  funext a b c d
  dsimp only
  by_cases e : a = t ∧ b = f ∧ c = k ∧ d = i
  · obtain ⟨rfl, rfl, rfl, rfl⟩ := e
    rw [if_neg hn, if_pos ⟨rfl, rfl, rfl, rfl⟩, if_pos ⟨rfl, rfl, rfl, rfl⟩]
  · by_cases e2 : a = t' ∧ b = f' ∧ c = k' ∧ d = i'
    · rw [if_pos e2, if_neg e, if_pos e2]
    · rw [if_neg e2, if_neg e, if_neg e, if_neg e2]
theorem g_sl_cm {h : q_H} {t f k i t' f' k' i' : Nat} {u : Int32} {v : Int64} : q_sl (q_si h t f k i u) t' f' k' i' v = q_si (q_sl h t' f' k' i' v) t f k i u := rfl
section x_M
variable {h : q_H} {n : Nat} {T : Nat → Int32}
theorem m_isOf {i lo hi : Nat} (hB : ∀ i, i < 700 → g_by (T i) (h.1 38 0 7 i)) (hn : n ≤ 700) (he : h.1 30 21 7 0 = nI n) (h31 : i < 2 ^ 31) (hl : lo < 128) (hh : hi < 128) : Mo_isOf (nI i) (nI lo) (nI hi) h = some (q_bi (decide (i < n) && g_in (T i) (nI lo) (nI hi))) := by
  unfold Mo_isOf
  rw [he]
  by_cases c : i < n
  · rw [if_neg (nI_ge c (by omega)), g_inN (by omega) (by decide), cond_true, g_cl (by omega), m_isIn, decide_eq_true c, Bool.true_and, ← g_by_in (hB i (by omega)) hh hl]
    simp only [Option.bind_some]
    cases g_in (T i) (nI lo) (nI hi) <;> rfl
  · rw [if_pos (nI_le (by omega) h31), decide_eq_false c]; rfl
theorem m_reads {p : Nat} (hB : ∀ i, i < 700 → g_by (T i) (h.1 38 0 7 i)) (hn : n ≤ 700) (he : h.1 30 21 7 0 = nI n) (hp : p ≤ n) (hx : h.1 30 18 7 0 = nI p) : ∃ h', Mo_reads h = some h' ∧ g_tm h h' ∧ h'.1 30 17 7 0 = nI (x_sk T n p) ∧ h'.1 30 19 7 0 = nI (x_kd T n (x_sk T n p)) ∧ (x_kd T n (x_sk T n p) = 1 ∨ x_kd T n (x_sk T n p) = 2 ∨ x_kd T n (x_sk T n p) = 3 → h'.1 30 18 7 0 = nI (x_en T n (x_sk T n p))) ∧ (x_kd T n (x_sk T n p) = 2 → h'.1 30 20 7 0 = x_nm T (x_sk T n p) (x_dg T n (x_sk T n p))) ∧ (x_kd T n (x_sk T n p) = 1 → h'.2 30 22 7 0 = x_ha T (x_sk T n p) (x_lt T n (x_sk T n p))) := by
  have e1 : q_lp (fun s1 : q_H => (if (s1.1 30 21 7 0) ≤ (s1.1 30 17 7 0) then (some (.inr (s1))) else (bif q_in (s1.1 30 17 7 0) 700 then (if (s1.1 38 0 7 (s1.1 30 17 7 0).toNatClampNeg) = (10 : Int32) then (some (.inl (q_si s1 30 17 7 0 ((s1.1 30 17 7 0) + (1 : Int32))))) else (bif q_in (s1.1 30 17 7 0) 700 then (if ¬ (s1.1 38 0 7 (s1.1 30 17 7 0).toNatClampNeg) = (32 : Int32) then (some (.inr (s1))) else (some (.inl (q_si s1 30 17 7 0 ((s1.1 30 17 7 0) + (1 : Int32)))))) else none)) else none) : Option ((q_H) ⊕ (q_H)))) q_fu ((q_si h 30 17 7 0 (nI p)) : q_H) = some (q_si h 30 17 7 0 (nI (x_sk T n p))) := by
    refine g_lpB (fun i => !x_bl (T i)) (fun i => q_si h 30 17 7 0 (nI i)) p (n - p) (fun i => q_si h 30 17 7 0 (nI i)) rfl (fun i a b => ?_) ?_ (by unfold q_fu; omega)
    · rw [g_rd_o (by omega), he, g_rd_e, if_neg (nI_ge (by omega) (by omega)), g_inN (by omega) (by decide), cond_true, g_cl (by omega), g_rd_o (by omega), g_si_si, nI_1]
      unfold x_bl
      have k1 := g_by_eq (v := 10) (hB i (by omega)) (by decide)
      have k2 := g_by_eq (v := 32) (hB i (by omega)) (by decide)
      by_cases c : T i = 10
      · rw [if_pos (show h.1 38 0 7 i = 10 from k1.mp c), decide_eq_true c, Bool.or_true]; rfl
      · rw [if_neg (show ¬ h.1 38 0 7 i = 10 from fun y => c (k1.mpr y)), decide_eq_false c, Bool.or_false]
        by_cases d : T i = 32
        · rw [if_neg (fun y => y (show h.1 38 0 7 i = 32 from k2.mp d)), decide_eq_true d]; rfl
        · rw [if_pos (show ¬ h.1 38 0 7 i = 32 from fun y => d (k2.mpr y)), decide_eq_false d]; rfl
    · rw [g_rd_o (by omega), he, g_rd_e, if_pos (by rw [show p + (n - p) = n by omega]; exact Int32.le_refl _)]
  obtain ⟨b1, b2⟩ := x_sk_b (T := T) hp
  generalize x_sk T n p = q at e1 b1 b2 ⊢
  unfold Mo_reads
  rw [hx, e1]
  simp only [Option.bind_some]
  rw [show (q_si h 30 17 7 0 (nI q)).1 30 17 7 0 = nI q from g_rd_e, nI_1]
  have e2 : (if ((q_si (q_si h 30 17 7 0 (nI q)) 30 18 7 0 (nI (q + 1))).1 30 17 7 0) < ((q_si (q_si h 30 17 7 0 (nI q)) 30 18 7 0 (nI (q + 1))).1 30 21 7 0) then (bif q_in ((q_si (q_si h 30 17 7 0 (nI q)) 30 18 7 0 (nI (q + 1))).1 30 17 7 0) 700 then (if ¬ ((q_si (q_si h 30 17 7 0 (nI q)) 30 18 7 0 (nI (q + 1))).1 38 0 7 ((q_si (q_si h 30 17 7 0 (nI q)) 30 18 7 0 (nI (q + 1))).1 30 17 7 0).toNatClampNeg) = (59 : Int32) then (some ((4 : Int32))) else (some ((3 : Int32)))) else none) else (some ((0 : Int32)))) = some (if n ≤ q then (0 : Int32) else if T q = 59 then 3 else 4) := by
    rw [g_rd_o (by omega), g_rd_e, g_rd_o (by omega), g_rd_o (by omega), he]
    by_cases c : n ≤ q
    · rw [if_neg (nI_nlt c (by omega)), if_pos c]
    · rw [if_pos (nI_lt (by omega) (by omega)), if_neg c, g_inN (by omega) (by decide), cond_true, g_cl (by omega), g_rd_o (by omega), g_rd_o (by omega)]
      have k := g_by_eq (v := 59) (hB q (by omega)) (by decide)
      by_cases d : T q = 59
      · rw [if_neg (fun y => y (show h.1 38 0 7 q = 59 from k.mp d)), if_pos d]
      · rw [if_pos (show ¬ h.1 38 0 7 q = 59 from fun y => d (k.mpr y)), if_neg d]
  rw [e2]
  simp only [Option.bind_some]
  generalize hX : q_si (q_si (q_si h 30 17 7 0 (nI q)) 30 18 7 0 (nI (q + 1))) 30 19 7 0 (if n ≤ q then (0 : Int32) else if T q = 59 then 3 else 4) = X
  have x17 : X.1 30 17 7 0 = nI q := by rw [← hX, g_rd_o (by omega), g_rd_o (by omega), g_rd_e]
  have x18 : X.1 30 18 7 0 = nI (q + 1) := by rw [← hX, g_rd_o (by omega), g_rd_e]
  have x19 : X.1 30 19 7 0 = (if n ≤ q then (0 : Int32) else if T q = 59 then 3 else 4) := by rw [← hX, g_rd_e]
  have x21 : X.1 30 21 7 0 = nI n := by rw [← hX, g_rd_o (by omega), g_rd_o (by omega), g_rd_o (by omega)]; exact he
  have xB : ∀ i, i < 700 → g_by (T i) (X.1 38 0 7 i) := fun i hi => by rw [← hX, g_rd_o (by omega), g_rd_o (by omega), g_rd_o (by omega)]; exact hB i hi
  have xf : g_tm h X := by rw [← hX]; exact g_tm_tr (g_tm_tr (g_tm_si (by omega)) (g_tm_si (by omega))) (g_tm_si (by omega))
  clear hX e1 e2
  rw [x17, show (97 : Int32) = nI 97 from rfl, show (122 : Int32) = nI 122 from rfl, m_isOf xB hn x21 (by omega) (by decide) (by decide)]
  simp only [Option.bind_some]
  by_cases c : n ≤ q
  · rw [decide_eq_false (show ¬ q < n by omega), Bool.false_and, if_pos (show q_bi false = 0 from rfl), show (48 : Int32) = nI 48 from rfl, show (57 : Int32) = nI 57 from rfl, m_isOf xB hn x21 (by omega) (by decide) (by decide), decide_eq_false (show ¬ q < n by omega), Bool.false_and]
    simp only [Option.bind_some]
    rw [if_pos (show q_bi false = 0 from rfl)]
    have kd : x_kd T n q = 0 := if_pos c
    rw [kd]
    exact ⟨_, rfl, xf, x17, by rw [x19, if_pos c]; rfl, fun k => by omega, fun k => by omega, fun k => by omega⟩
  · have c' : q < n := by omega
    rw [decide_eq_true c', Bool.true_and]
    rw [if_neg c] at x19
    cases e : g_in (T q) (nI 97) (nI 122) with
    | true =>
      have e' : x_le (T q) = true := e
      have n59 : ¬ T q = 59 := fun y => by rw [y] at e; exact absurd e (by decide)
      rw [if_neg qn1]
      have kd : x_kd T n q = 1 := by unfold x_kd; rw [if_neg c, if_neg n59, if_pos e']
      have ee : x_en T n q = x_lt T n q := by unfold x_en; rw [if_neg c, if_neg n59, if_pos e']
      rw [kd, ee]
      generalize hY : q_sl (q_si X 30 19 7 0 (1 : Int32)) 30 22 7 0 (0 : Int64) = Y
      have y17 : Y.1 30 17 7 0 = nI q := by rw [← hY, g_sl_1, g_rd_o (by omega)]; exact x17
      have y19 : Y.1 30 19 7 0 = 1 := by rw [← hY, g_sl_1, g_rd_e]
      have y21 : Y.1 30 21 7 0 = nI n := by rw [← hY, g_sl_1, g_rd_o (by omega)]; exact x21
      have yB : ∀ i, i < 700 → g_by (T i) (Y.1 38 0 7 i) := fun i hi => by rw [← hY, g_sl_1, g_rd_o (by omega)]; exact xB i hi
      have yw : Y.2 30 22 7 0 = 0 := by rw [← hY, g_sl_e]
      have yf : g_tm h Y := by rw [← hY]; exact g_tm_tr (g_tm_tr xf (g_tm_si (by omega))) g_tm_sl
      have lp := g_lpB (body := fun s53 : q_H => ((Mo_isOf (s53.1 30 18 7 0) (nI 97) (nI 122) s53).bind fun x61 => if x61 = 0 then (some (.inr (s53))) else (Option.bind (α := Int64) (if (8 : Int32) ≤ ((s53.1 30 18 7 0) - (s53.1 30 17 7 0)) then (some ((s53.2 30 22 7 0))) else (bif q_in (s53.1 30 18 7 0) 700 then (some (((((27 : Int64) * (s53.2 30 22 7 0)) + ((s53.1 38 0 7 (s53.1 30 18 7 0).toNatClampNeg)).toInt64) - (96 : Int64)))) else none)) (fun p69 => some (.inl (q_si (q_sl s53 30 22 7 0 p69) 30 18 7 0 (((q_sl s53 30 22 7 0 p69).1 30 18 7 0) + (1 : Int32)))))) : Option ((q_H) ⊕ q_H))) (s0 := q_si Y 30 18 7 0 (nI q)) (fun i => !x_le (T i)) (fun i => q_si (q_sl Y 30 22 7 0 (x_ha T q i)) 30 18 7 0 (nI i)) q (n - q) (fun i => q_si (q_sl Y 30 22 7 0 (x_ha T q i)) 30 18 7 0 (nI i)) (by rw [x_ha_0, g_sl_id yw]) (fun i a b => ?_) ?_ (by unfold q_fu; omega)
      · rw [y17, lp]
        refine ⟨_, rfl, g_tm_tr (g_tm_tr yf g_tm_sl) (g_tm_si (by omega)), ?_, ?_, fun _ => ?_, fun k => by omega, fun _ => ?_⟩
        · rw [g_rd_o (by omega), g_sl_1, y17]
        · rw [g_rd_o (by omega), g_sl_1, y19]; rfl
        · rw [g_rd_e]; rfl
        · show (q_sl Y 30 22 7 0 _).2 30 22 7 0 = _
          rw [g_sl_e]; rfl
      · rw [g_rd_e, m_isOf (h := q_si (q_sl Y 30 22 7 0 (x_ha T q i)) 30 18 7 0 (nI i)) (n := n) (T := T) (fun j hj => by rw [g_rd_o (by omega), g_sl_1]; exact yB j hj) hn (by rw [g_rd_o (by omega), g_sl_1]; exact y21) (by omega) (by decide) (by decide)]
        simp only [Option.bind_some]
        rw [decide_eq_true (show i < n by omega), Bool.true_and]
        cases f : g_in (T i) (nI 97) (nI 122) with
        | false =>
          have f' : x_le (T i) = false := f
          rw [if_pos (show q_bi false = 0 from rfl), f']; rfl
        | true =>
          have f' : x_le (T i) = true := f
          have sm := g_by_same (hB i (by omega)) (by decide) f
          have sm' : (q_si (q_sl Y 30 22 7 0 (x_ha T q i)) 30 18 7 0 (nI i)).1 38 0 7 i = T i := by
            rw [g_rd_o (by omega), g_sl_1]
            exact g_by_same (yB i (by omega)) (by decide) f
          have w2 : (q_si (q_sl Y 30 22 7 0 (x_ha T q i)) 30 18 7 0 (nI i)).2 30 22 7 0 = x_ha T q i := by
            show (q_sl Y 30 22 7 0 (x_ha T q i)).2 30 22 7 0 = _
            exact g_sl_e
          rw [if_neg qn1, f', g_rd_o (by omega), g_sl_1, y17, pk_sub a, w2, g_inN (by omega) (by decide), cond_true, g_cl (by omega), sm']
          have st : ∀ v : Int64, q_si (q_sl (q_si (q_sl Y 30 22 7 0 (x_ha T q i)) 30 18 7 0 (nI i)) 30 22 7 0 v) 30 18 7 0 (nI i + 1) = q_si (q_sl Y 30 22 7 0 v) 30 18 7 0 (nI (i + 1)) := fun v => by
            rw [g_sl_cm, g_si_si, g_sl_sl, nI_1]
          have s18 : ∀ v : Int64, (q_sl (q_si (q_sl Y 30 22 7 0 (x_ha T q i)) 30 18 7 0 (nI i)) 30 22 7 0 v).1 30 18 7 0 = nI i := fun v => by rw [g_sl_1, g_rd_e]
          rw [x_ha_s a]
          unfold x_hf
          by_cases l : 8 ≤ i - q
          · rw [if_pos (show (8 : Int32) ≤ nI (i - q) from nI_le (a := 8) l (by omega)), Option.bind_some, if_pos l, s18, st]; rfl
          · rw [if_neg (show ¬ (8 : Int32) ≤ nI (i - q) from nI_ge (b := 8) (by omega) (by decide)), Option.bind_some, if_neg l, s18, st]; rfl
      · rw [show q + (n - q) = n by omega, g_rd_e, m_isOf (h := q_si (q_sl Y 30 22 7 0 (x_ha T q n)) 30 18 7 0 (nI n)) (n := n) (T := T) (fun j hj => by rw [g_rd_o (by omega), g_sl_1]; exact yB j hj) hn (by rw [g_rd_o (by omega), g_sl_1]; exact y21) (by omega) (by decide) (by decide), decide_eq_false (by omega), Bool.false_and]
        rfl
    | false =>
      have e' : ¬ x_le (T q) = true := by unfold x_le; rw [show g_in (T q) 97 122 = false from e]; decide
      rw [if_pos (show q_bi false = 0 from rfl), show (48 : Int32) = nI 48 from rfl, show (57 : Int32) = nI 57 from rfl, m_isOf xB hn x21 (by omega) (by decide) (by decide), decide_eq_true c', Bool.true_and]
      simp only [Option.bind_some]
      cases f : g_in (T q) (nI 48) (nI 57) with
      | false =>
        have f' : ¬ x_di (T q) = true := by unfold x_di; rw [show g_in (T q) 48 57 = false from f]; decide
        rw [if_pos (show q_bi false = 0 from rfl)]
        by_cases d : T q = 59
        · rw [if_pos d] at x19
          have kd : x_kd T n q = 3 := by unfold x_kd; rw [if_neg c, if_pos d]
          have ee : x_en T n q = q + 1 := by unfold x_en; rw [if_neg c, if_pos d]
          rw [kd, ee]
          exact ⟨_, rfl, xf, x17, by rw [x19]; rfl, fun _ => x18, fun k => by omega, fun k => by omega⟩
        · rw [if_neg d] at x19
          have kd : x_kd T n q = 4 := by unfold x_kd; rw [if_neg c, if_neg d, if_neg e', if_neg f']
          rw [kd]
          exact ⟨_, rfl, xf, x17, by rw [x19]; rfl, fun k => by omega, fun k => by omega, fun k => by omega⟩
      | true =>
        have f' : x_di (T q) = true := f
        have n59 : ¬ T q = 59 := fun y => by rw [y] at f; exact absurd f (by decide)
        rw [if_neg qn1]
        have kd : x_kd T n q = if x_dg T n q - q ≤ 3 then 2 else 4 := by unfold x_kd; rw [if_neg c, if_neg n59, if_neg e', if_pos f']
        have ee : x_en T n q = x_dg T n q := by unfold x_en; rw [if_neg c, if_neg n59, if_neg e', if_pos f']
        have gb := x_dg_b (T := T) b2
        rw [kd, ee]
        generalize hY : q_si X 30 20 7 0 (0 : Int32) = Y
        have y17 : Y.1 30 17 7 0 = nI q := by rw [← hY, g_rd_o (by omega)]; exact x17
        have y20 : Y.1 30 20 7 0 = 0 := by rw [← hY, g_rd_e]
        have y21 : Y.1 30 21 7 0 = nI n := by rw [← hY, g_rd_o (by omega)]; exact x21
        have yB : ∀ i, i < 700 → g_by (T i) (Y.1 38 0 7 i) := fun i hi => by rw [← hY, g_rd_o (by omega)]; exact xB i hi
        have yf : g_tm h Y := by rw [← hY]; exact g_tm_tr xf (g_tm_si (by omega))
        have lp := g_lpB (body := fun s29 : q_H => ((Mo_isOf (s29.1 30 18 7 0) (nI 48) (nI 57) s29).bind fun x37 => if x37 = 0 then (some (.inr (s29))) else (Option.bind (α := Int32) (if (3 : Int32) ≤ ((s29.1 30 18 7 0) - (s29.1 30 17 7 0)) then (some ((s29.1 30 20 7 0))) else (bif q_in (s29.1 30 18 7 0) 700 then (some (((((10 : Int32) * (s29.1 30 20 7 0)) + (s29.1 38 0 7 (s29.1 30 18 7 0).toNatClampNeg)) - nI 48))) else none)) (fun p45 => some (.inl (q_si (q_si s29 30 20 7 0 p45) 30 18 7 0 (((q_si s29 30 20 7 0 p45).1 30 18 7 0) + (1 : Int32)))))) : Option ((q_H) ⊕ (q_H)))) (s0 := q_si Y 30 18 7 0 (nI q)) (fun i => !x_di (T i)) (fun i => q_si (q_si Y 30 20 7 0 (x_n3 T q i)) 30 18 7 0 (nI i)) q (n - q) (fun i => q_si (q_si Y 30 20 7 0 (x_n3 T q i)) 30 18 7 0 (nI i)) (by rw [x_n3_0, g_si_id y20]) (fun i a b => ?_) ?_ (by unfold q_fu; omega)
        · rw [y17, lp]
          simp only [Option.bind_some]
          rw [show g_fst (fun i => !x_di (T i)) q (n - q) = x_dg T n q from rfl]
          generalize x_dg T n q = r at gb ⊢
          rw [g_rd_e, g_rd_o (by omega), g_rd_o (by omega), y17, pk_sub gb.1]
          by_cases l : r - q ≤ 3
          · rw [if_pos (show nI (r - q) ≤ (3 : Int32) from nI_le (b := 3) l (by decide)), if_pos l]
            refine ⟨_, rfl, g_tm_tr (g_tm_tr (g_tm_tr yf (g_tm_si (by omega))) (g_tm_si (by omega))) (g_tm_si (by omega)), ?_, ?_, fun _ => ?_, fun _ => ?_, fun k => by omega⟩
            · rw [g_rd_o (by omega), g_rd_o (by omega), g_rd_o (by omega), y17]
            · rw [g_rd_e]; rfl
            · rw [g_rd_o (by omega), g_rd_e]
            · rw [g_rd_o (by omega), g_rd_o (by omega), g_rd_e, x_n3_nm l]
          · rw [if_neg (show ¬ nI (r - q) ≤ (3 : Int32) from nI_ge (a := 3) (by omega) (by omega)), if_neg l]
            refine ⟨_, rfl, g_tm_tr (g_tm_tr (g_tm_tr yf (g_tm_si (by omega))) (g_tm_si (by omega))) (g_tm_si (by omega)), ?_, ?_, fun k => by omega, fun k => by omega, fun k => by omega⟩
            · rw [g_rd_o (by omega), g_rd_o (by omega), g_rd_o (by omega), y17]
            · rw [g_rd_e]; rfl
        · rw [g_rd_e, m_isOf (h := q_si (q_si Y 30 20 7 0 (x_n3 T q i)) 30 18 7 0 (nI i)) (n := n) (T := T) (fun j hj => by rw [g_rd_o (by omega), g_rd_o (by omega)]; exact yB j hj) hn (by rw [g_rd_o (by omega), g_rd_o (by omega)]; exact y21) (by omega) (by decide) (by decide)]
          simp only [Option.bind_some]
          rw [decide_eq_true (show i < n by omega), Bool.true_and]
          cases o : g_in (T i) (nI 48) (nI 57) with
          | false =>
            have o' : x_di (T i) = false := o
            rw [if_pos (show q_bi false = 0 from rfl), o']; rfl
          | true =>
            have o' : x_di (T i) = true := o
            have sm' : (q_si (q_si Y 30 20 7 0 (x_n3 T q i)) 30 18 7 0 (nI i)).1 38 0 7 i = T i := by
              rw [g_rd_o (by omega), g_rd_o (by omega)]
              exact g_by_same (yB i (by omega)) (by decide) o
            have w2 : (q_si (q_si Y 30 20 7 0 (x_n3 T q i)) 30 18 7 0 (nI i)).1 30 20 7 0 = x_n3 T q i := by rw [g_rd_o (by omega), g_rd_e]
            have w17 : (q_si (q_si Y 30 20 7 0 (x_n3 T q i)) 30 18 7 0 (nI i)).1 30 17 7 0 = nI q := by rw [g_rd_o (by omega), g_rd_o (by omega), y17]
            rw [if_neg qn1, o', w17, pk_sub a, w2, g_inN (by omega) (by decide), cond_true, g_cl (by omega), sm']
            have st : ∀ v : Int32, q_si (q_si (q_si (q_si Y 30 20 7 0 (x_n3 T q i)) 30 18 7 0 (nI i)) 30 20 7 0 v) 30 18 7 0 (nI i + 1) = q_si (q_si Y 30 20 7 0 v) 30 18 7 0 (nI (i + 1)) := fun v => by
              rw [g_si_cm (t := 30) (f := 18) (t' := 30) (f' := 20) (by omega), g_si_si, g_si_si, nI_1]
            have s18 : ∀ v : Int32, (q_si (q_si (q_si Y 30 20 7 0 (x_n3 T q i)) 30 18 7 0 (nI i)) 30 20 7 0 v).1 30 18 7 0 = nI i := fun v => by rw [g_rd_o (by omega), g_rd_e]
            rw [x_n3_s a]
            by_cases l : 3 ≤ i - q
            · rw [if_pos (show (3 : Int32) ≤ nI (i - q) from nI_le (a := 3) l (by omega)), Option.bind_some, if_pos l, s18, st]; rfl
            · rw [if_neg (show ¬ (3 : Int32) ≤ nI (i - q) from nI_ge (b := 3) (by omega) (by decide)), Option.bind_some, if_neg l, s18, st]; rfl
        · rw [show q + (n - q) = n by omega, g_rd_e, m_isOf (h := q_si (q_si Y 30 20 7 0 (x_n3 T q n)) 30 18 7 0 (nI n)) (n := n) (T := T) (fun j hj => by rw [g_rd_o (by omega), g_rd_o (by omega)]; exact yB j hj) hn (by rw [g_rd_o (by omega), g_rd_o (by omega)]; exact y21) (by omega) (by decide) (by decide), decide_eq_false (by omega), Bool.false_and]
          rfl
end x_M
