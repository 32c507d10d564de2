/-! the text: words -/
def x_hr : List Nat → Nat
  | [] => 0
  | c :: t => 27 * x_hr t + (c - 96)
def x_W : List Nat := [11442943, 1097234, 923, 13550, 1166657, 136958465, 309910109, 60293219, 51283955, 582248, 8873042, 316282333, 247547, 261253280]
theorem x_W_s : ∀ k, k < 14 → ((q_strs.getD k []).reverse.length ≤ 6 ∧ 1 ≤ (q_strs.getD k []).length ∧ x_hr (q_strs.getD k []).reverse = x_W.getD k 0 ∧ ∀ c, c ∈ q_strs.getD k [] → 97 ≤ c ∧ c ≤ 122) ∧ x_W.getD k 0 < 2 ^ 62 ∧ q_strs[k]? = some (q_strs.getD k []) := by decide
theorem x_hr_inj : ∀ X Y : List Nat, (∀ c, c ∈ X → 97 ≤ c ∧ c ≤ 122) → (∀ c, c ∈ Y → 97 ≤ c ∧ c ≤ 122) → x_hr X = x_hr Y → X = Y
  | [], [], _, _, _ => rfl
  | [], d :: u, _, hY, e => by
    have := hY d List.mem_cons_self
    simp only [x_hr] at e
    omega
  | c :: t, [], hX, _, e => by
    have := hX c List.mem_cons_self
    simp only [x_hr] at e
    omega
  | c :: t, d :: u, hX, hY, e => by
    have h1 := hX c List.mem_cons_self
    have h2 := hY d List.mem_cons_self
    simp only [x_hr] at e
    have h3 : c = d := by omega
    have h4 : x_hr t = x_hr u := by omega
    rw [h3, x_hr_inj t u (fun x hx => hX x (List.mem_cons_of_mem _ hx)) (fun x hx => hY x (List.mem_cons_of_mem _ hx)) h4]
theorem x_hr_lt : ∀ X : List Nat, (∀ c, c ∈ X → 97 ≤ c ∧ c ≤ 122) → X.length ≤ 8 → x_hr X < 27 ^ X.length
  | [], _, _ => by decide
  | c :: t, hX, hl => by
    have h1 := hX c List.mem_cons_self
    have h2 := x_hr_lt t (fun x hx => hX x (List.mem_cons_of_mem _ hx)) (Nat.le_of_succ_le hl)
    show 27 * x_hr t + (c - 96) < 27 ^ (t.length + 1)
    rw [Nat.pow_succ]
    omega
theorem x_hr_b {X : List Nat} (hX : ∀ c, c ∈ X → 97 ≤ c ∧ c ≤ 122) (hl : X.length ≤ 8) : x_hr X < 2 ^ 62 := by
  have h := x_hr_lt X hX hl
  have : 27 ^ X.length ≤ 27 ^ 8 := Nat.pow_le_pow_right (by decide) hl
  have : (27 : Nat) ^ 8 < 2 ^ 62 := by decide
  omega
def x_cd (v : Int32) : Nat := v.toNatClampNeg
theorem x_le_c {v : Int32} (h : x_le v = true) : v = nI (x_cd v) ∧ 97 ≤ x_cd v ∧ x_cd v ≤ 122 := by
  have h' : g_in v 0 (nI 122) = true := by
    unfold x_le g_in at h
    unfold g_in
    simp only [Bool.and_eq_true, Bool.not_eq_true', decide_eq_false_iff_not] at h ⊢
    exact ⟨fun q => h.1 (Int32.lt_of_lt_of_le q (by decide)), h.2⟩
  obtain ⟨k, hk, rfl⟩ := g_in_t (by decide) h'
  have e : x_cd (nI k) = k := g_cl (by omega)
  rw [e]
  refine ⟨rfl, ?_, hk⟩
  by_cases q : 97 ≤ k
  · exact q
  · unfold x_le g_in at h
    rw [decide_eq_true (show nI k < 97 from nI_lt (a := k) (b := 97) (by omega) (by omega))] at h
    cases h
def x_X (T : Nat → Int32) (q i : Nat) : List Nat := (List.range (min (i - q) 8)).map (fun j => x_cd (T (q + j)))
theorem x_64 : ∀ c, c < 123 → (nI c).toInt64 = Int64.ofNat c := by decide
theorem x_ha_X {T : Nat → Int32} {q : Nat} : ∀ m, (∀ i, q ≤ i → i < q + m → x_le (T i) = true) → x_ha T q (q + m) = Int64.ofNat (x_hr (x_X T q (q + m)).reverse) ∧ (∀ c, c ∈ x_X T q (q + m) → 97 ≤ c ∧ c ≤ 122) := by
  intro m
  induction m with
  | zero =>
    intro _
    have : x_X T q (q + 0) = [] := by
      unfold x_X
      rw [show q + 0 - q = 0 by omega]; rfl
    rw [this]
    exact ⟨x_ha_0, fun c hc => by cases hc⟩
  | succ m ih =>
    intro h
    obtain ⟨k1, k2⟩ := ih (fun i a b => h i a (by omega))
    rw [show q + (m + 1) = (q + m) + 1 by omega, x_ha_s (by omega), k1]
    unfold x_hf
    by_cases c : 8 ≤ (q + m) - q
    · have : x_X T q (q + m + 1) = x_X T q (q + m) := by
        unfold x_X
        rw [show min (q + m + 1 - q) 8 = min (q + m - q) 8 by omega]
      rw [if_pos c, this]
      exact ⟨rfl, k2⟩
    · obtain ⟨e1, e2, e3⟩ := x_le_c (h (q + m) (by omega) (by omega))
      have : x_X T q (q + m + 1) = x_X T q (q + m) ++ [x_cd (T (q + m))] := by
        unfold x_X
        rw [show min (q + m + 1 - q) 8 = m + 1 by omega, show min (q + m - q) 8 = m by omega, List.range_succ, List.map_append]; rfl
      rw [if_neg c, this, List.reverse_append]
      refine ⟨?_, fun x hx => ?_⟩
      · show _ = Int64.ofNat (27 * x_hr (x_X T q (q + m)).reverse + (x_cd (T (q + m)) - 96))
        have c96 : Int64.ofNat (x_cd (T (q + m))) = Int64.ofNat (x_cd (T (q + m)) - 96) + 96 := by
          rw [show (96 : Int64) = Int64.ofNat 96 from rfl, ← Int64.ofNat_add, show x_cd (T (q + m)) - 96 + 96 = x_cd (T (q + m)) by omega]
        rw [Int64.ofNat_add, Int64.ofNat_mul, show (T (q + m)).toInt64 = Int64.ofNat (x_cd (T (q + m))) by
          conv => lhs; rw [e1]
          exact x_64 _ (by omega), c96, ← Int64.add_assoc, Int64.add_sub_cancel]
        rfl
      · rcases List.mem_append.mp hx with y | y
        · exact k2 x y
        · rw [List.mem_singleton] at y; rw [y]; exact ⟨e2, e3⟩
def x_sp (T : Nat → Int32) (q r k : Nat) : Bool := decide ((q_strs.getD k []).length = r - q ∧ ∀ j, j < (q_strs.getD k []).length → T (q + j) = Int32.ofNat ((q_strs.getD k []).getD j 0))
theorem x_sp_ha {T : Nat → Int32} {q r k : Nat} (hq : q ≤ r) (hk : k < 14) (h : ∀ i, q ≤ i → i < r → x_le (T i) = true) : x_sp T q r k = decide (Int64.ofNat (x_W.getD k 0) = x_ha T q r) := by
  obtain ⟨⟨w1, w1', w2, w3⟩, w4, _⟩ := x_W_s k hk
  obtain ⟨k1, k2⟩ := x_ha_X (T := T) (q := q) (r - q) (fun i a b => h i a (by omega))
  rw [show q + (r - q) = r by omega] at k1 k2
  rw [List.length_reverse] at w1
  have lX : (x_X T q r).length = min (r - q) 8 := by unfold x_X; rw [List.length_map, List.length_range]
  unfold x_sp
  rw [decide_eq_decide, k1, ← w2]
  have eL : q_strs.getD k [] = x_X T q r ↔ ((q_strs.getD k []).length = r - q ∧ ∀ j, j < (q_strs.getD k []).length → T (q + j) = Int32.ofNat ((q_strs.getD k []).getD j 0)) := by
    generalize q_strs.getD k [] = L at w1 w3
    constructor
    · intro e
      have l1 : L.length = min (r - q) 8 := by rw [e, lX]
      refine ⟨by omega, fun j hj => ?_⟩
      have e2 : L.getD j 0 = (x_X T q r).getD j 0 := by rw [e]
      have e3 : (x_X T q r).getD j 0 = x_cd (T (q + j)) := by
        rw [List.getD_eq_getElem?_getD, List.getElem?_eq_getElem (by rw [lX]; omega)]
        unfold x_X
        simp
      rw [e2, e3]
      exact (x_le_c (h (q + j) (by omega) (by omega))).1
    · intro ⟨e1, e2⟩
      refine List.ext_getElem (by rw [lX]; omega) (fun j h1 h2 => ?_)
      have e3 : (x_X T q r)[j] = x_cd (T (q + j)) := by
        have g : ∀ (X : List Nat) (_ : X = (List.range (min (r - q) 8)).map (fun j => x_cd (T (q + j)))) (h : j < X.length), X[j] = x_cd (T (q + j)) := fun X e h => by
          subst e; simp
        exact g _ rfl h2
      have e4 := e2 j h1
      rw [e3, e4, List.getD_eq_getElem?_getD, List.getElem?_eq_getElem h1]
      have := w3 L[j] (List.getElem_mem h1)
      exact (g_cl (n := L[j]) (by omega)).symm
  rw [← eL]
  constructor
  · intro e
    rw [e]
  · intro e
    have b1 : x_hr (q_strs.getD k []).reverse < 2 ^ 62 := by rw [w2]; exact w4
    have b2 : x_hr (x_X T q r).reverse < 2 ^ 62 := x_hr_b (fun c hc => k2 c (List.mem_reverse.mp hc)) (by rw [List.length_reverse, lX]; omega)
    have e2 : x_hr (q_strs.getD k []).reverse = x_hr (x_X T q r).reverse := by
      have := congrArg (fun z : Int64 => z.toBitVec.toNat) e
      have t : ∀ a, a < 2 ^ 62 → (Int64.ofNat a).toBitVec.toNat = a := fun a ha => by
        show a % 2 ^ 64 = a
        omega
      rw [t _ b1, t _ b2] at this
      exact this
    have e3 := x_hr_inj _ _ (fun c hc => w3 c (List.mem_reverse.mp hc)) (fun c hc => k2 c (List.mem_reverse.mp hc)) e2
    exact List.reverse_inj.mp e3
def x_wd (T : Nat → Int32) (q r : Nat) : Nat := g_fst (x_sp T q r) 0 14
theorem c_isSpelled {H : q_H} {n q r k : Nat} (hn : n ≤ 700) (hl : H.1 25 2 6 0 = nI n) (hq : q ≤ r) (hr : r ≤ n) (ha : H.1 25 3 6 0 = nI r) (hp : H.1 25 5 6 0 = nI q) (hk : k < 14) : Tx_isSpelled k H = some (q_bi (x_sp (g_T H) q r k)) := by
  obtain ⟨⟨w1, w1', w2, w3⟩, w4, w5⟩ := x_W_s k hk
  rw [List.length_reverse] at w1
  unfold Tx_isSpelled x_sp
  have e1 : q_slen k = some (nI (q_strs.getD k []).length) := by unfold q_slen; rw [w5]; rfl
  have e2 : ∀ j, j < (q_strs.getD k []).length → q_sch k (nI j) = some (Int32.ofNat ((q_strs.getD k []).getD j 0)) := fun j hj => by
    unfold q_sch
    rw [w5]
    show (bif q_in (nI j) (q_strs.getD k []).length then _ else none) = _
    rw [g_inN hj (by omega), cond_true, g_cl (by omega)]
  generalize q_strs.getD k [] = L at w1 w1' w3 e1 e2 ⊢
  rw [e1, ha, hp, pk_sub hq]
  simp only [Option.bind_some]
  by_cases c : L.length = r - q
  · rw [if_pos (by rw [c])]
    refine g_bs (Eq.trans (g_lpB (fun j => !decide (g_T H (q + j) = Int32.ofNat (L.getD j 0))) (fun j => nI j) 0 L.length (fun j => if j < L.length then (0 : Int32) else 1) rfl (fun j a b => ?_) ?_ (by unfold q_fu; omega)) ?_)
    · rw [if_neg (nI_ge (by omega) (by omega)), e2 j (by omega), nI_add, c_byteAt hn hl (by omega), nI_1]
      simp only [Option.bind_some]
      by_cases y : g_T H (q + j) = Int32.ofNat (L.getD j 0)
      · rw [if_pos y.symm, decide_eq_true y]; rfl
      · rw [if_neg (fun z => y z.symm), decide_eq_false y, if_pos (show j < L.length by omega)]; rfl
    · rw [if_pos (show nI L.length ≤ nI (0 + L.length) by rw [Nat.zero_add]; exact Int32.le_refl _), if_neg (by omega)]
    · by_cases f : g_fst (fun j => !decide (g_T H (q + j) = Int32.ofNat (L.getD j 0))) 0 L.length < L.length
      · have y := g_fst_at (fun j => !decide (g_T H (q + j) = Int32.ofNat (L.getD j 0))) L.length 0 (by omega)
        rw [if_pos f, decide_eq_false (fun z => by
          rw [decide_eq_true (z.2 _ f)] at y
          cases y)]
        rfl
      · rw [if_neg f, decide_eq_true ⟨c, fun j hj => by
          have y := g_fst_ne (fun j => !decide (g_T H (q + j) = Int32.ofNat (L.getD j 0))) L.length 0 j (by omega) (by omega)
          rw [Bool.not_eq_false', decide_eq_true_iff] at y
          exact y⟩]
        rfl
  · rw [if_neg (fun y => c ((nI_eq (by omega) (by omega)).mp y)), decide_eq_false (fun y => c y.1)]; rfl
theorem c_wordRead {H : q_H} {n q r : Nat} (hn : n ≤ 700) (hl : H.1 25 2 6 0 = nI n) (hq : q ≤ r) (hr : r ≤ n) (ha : H.1 25 3 6 0 = nI r) (hp : H.1 25 5 6 0 = nI q) : Tx_wordRead H = some (if x_wd (g_T H) q r < 14 then nI (x_wd (g_T H) q r) else -1) := by
  unfold Tx_wordRead
  refine g_bs (g_lpB (x_sp (g_T H) q r) (fun k => nI k) 0 14 (fun k => if k < 14 then nI k else -1) rfl (fun k a b => ?_) ?_ (by unfold q_fu; omega))
  · have hk : k < 14 := by omega
    have sp : Tx_spelling (nI k) H = some k := by
      have : k = 0 ∨ k = 1 ∨ k = 2 ∨ k = 3 ∨ k = 4 ∨ k = 5 ∨ k = 6 ∨ k = 7 ∨ k = 8 ∨ k = 9 ∨ k = 10 ∨ k = 11 ∨ k = 12 ∨ k = 13 := by omega
      rcases this with rfl | rfl | rfl | rfl | rfl | rfl | rfl | rfl | rfl | rfl | rfl | rfl | rfl | rfl <;> rfl
    rw [if_neg (show ¬ (14 : Int32) ≤ nI k from nI_ge (b := 14) hk (by decide)), sp]
    simp only [Option.bind_some]
    rw [c_isSpelled hn hl hq hr ha hp hk]
    simp only [Option.bind_some]
    cases x_sp (g_T H) q r k with
    | true => rw [if_neg qn1, if_pos hk]; rfl
    | false => rw [if_pos (show q_bi false = 0 from rfl), nI_1]; rfl
  · rw [if_pos (show (14 : Int32) ≤ nI (0 + 14) from Int32.le_refl _), if_neg (by omega)]
theorem lg_cmp_0 {x y : Int64} : lg_cmp x y = 0 ↔ x = y := by
  unfold lg_cmp
  by_cases c : x > y
  · rw [if_pos c]
    constructor
    · intro e; exact absurd e (by decide)
    · intro e; rw [e] at c; exact absurd c Int64.lt_irrefl
  · rw [if_neg c]
    by_cases d : x = y
    · rw [if_pos d]; exact ⟨fun _ => d, fun _ => rfl⟩
    · rw [if_neg d]
      exact ⟨fun e => absurd e (by decide), fun e => absurd e d⟩
theorem m_key {h : q_H} {T : Nat → Int32} {q r : Nat} (hq : q ≤ r) (hw : ∀ k, k < 14 → h.2 39 0 7 k = Int64.ofNat (x_W.getD k 0)) (hs : h.1 30 19 7 0 = 1) (hh : h.2 30 22 7 0 = x_ha T q r) (hL : ∀ i, q ≤ i → i < r → x_le (T i) = true) : Mo_key h = some (if x_wd T q r < 14 then nI (x_wd T q r) else -1) := by
  unfold Mo_key
  refine g_bs (g_lpB (x_sp T q r) (fun k => nI k) 0 14 (fun k => if k < 14 then nI k else -1) rfl (fun k a b => ?_) ?_ (by unfold q_fu; omega))
  · have hk : k < 14 := by omega
    rw [if_neg (show ¬ (14 : Int32) ≤ nI k from nI_ge (b := 14) hk (by decide)), hs, if_neg (fun y => y rfl), g_inN hk (by decide), cond_true, g_cl (by omega), hw k hk, hh, x_sp_ha hq hk hL]
    by_cases c : Int64.ofNat (x_W.getD k 0) = x_ha T q r
    · rw [if_neg (fun y => y (lg_cmp_0.mpr c)), decide_eq_true c, if_pos hk]; rfl
    · rw [if_pos (fun y => c (lg_cmp_0.mp y)), decide_eq_false c, nI_1]; rfl
  · rw [if_pos (show (14 : Int32) ≤ nI (0 + 14) from Int32.le_refl _), if_neg (by omega)]
theorem m_key0 {h : q_H} (hs : ¬ h.1 30 19 7 0 = 1) : Mo_key h = some (-1) := by
  unfold Mo_key
  refine g_bs (g_lpB (fun _ => true) (fun k => nI k) 0 14 (fun k => -1) rfl (fun k a b => ?_) ?_ (by unfold q_fu; omega))
  · rw [if_neg (show ¬ (14 : Int32) ≤ nI k from nI_ge (b := 14) (by omega) (by decide)), if_pos hs]; rfl
  · rw [if_pos (show (14 : Int32) ≤ nI (0 + 14) from Int32.le_refl _)]
theorem x_lt_L {T : Nat → Int32} {n q i : Nat} (a : q ≤ i) (b : i < x_lt T n q) : x_le (T i) = true := by
  have := g_fst_ne (fun i => !x_le (T i)) (n - q) q i a b
  rw [Bool.not_eq_false'] at this
  exact this
