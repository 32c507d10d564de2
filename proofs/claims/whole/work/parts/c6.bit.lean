/-! the count of bits -/
def u_mk8 (c : Nat) : Nat → Nat | 0 => 0 | n + 1 => c + 256 * u_mk8 c n
theorem u_an8 {a b c d : Nat} (ha : a < 256) (hc : c < 256) : (a + 256 * b) &&& (c + 256 * d) = (a &&& c) + 256 * (b &&& d) := by
  have hac : a &&& c < 2 ^ 8 := Nat.lt_of_le_of_lt Nat.and_le_left ha
  rw [Nat.add_comm a, Nat.add_comm c, Nat.add_comm (a &&& c)]
  apply Nat.eq_of_testBit_eq
  intro j
  rw [Nat.testBit_and, show 256 = 2 ^ 8 from rfl, Nat.testBit_two_pow_mul_add b ha, Nat.testBit_two_pow_mul_add d hc, Nat.testBit_two_pow_mul_add (b &&& d) hac]
  by_cases q : j < 8
  · simp only [if_pos q, Nat.testBit_and]
  · simp only [if_neg q, Nat.testBit_and]
def u_p1 (m x : Nat) : Nat := x - (x / 2 &&& m)
def u_p2 (m y : Nat) : Nat := (y &&& m) + (y / 4 &&& m)
def u_p3 (m z : Nat) : Nat := (z + z / 16) &&& m
theorem u_p1s {d x m : Nat} (hd : d < 256) : u_p1 (85 + 256 * m) (d + 256 * x) = u_p1 85 d + 256 * u_p1 m x := by
  unfold u_p1
  have h1 : (d + 256 * x) / 2 = (d / 2 + 128 * (x % 2)) + 256 * (x / 2) := by omega
  have key : ∀ d, d < 128 → ∀ r, r < 2 → (d + 128 * r) &&& 85 = d &&& 85 := by decide +kernel
  rw [h1, u_an8 (by omega) (by omega), key (d / 2) (by omega) _ (by omega)]
  have h2 : d / 2 &&& 85 ≤ d / 2 := Nat.and_le_left
  have h3 : x / 2 &&& m ≤ x / 2 := Nat.and_le_left
  omega
theorem u_p1l : ∀ d, d < 256 → u_p1 85 d < 256 := fun d h => by
  unfold u_p1; omega
theorem u_p2s {d x m : Nat} (hd : d < 256) : u_p2 (51 + 256 * m) (d + 256 * x) = u_p2 51 d + 256 * u_p2 m x := by
  unfold u_p2
  have h1 : (d + 256 * x) / 4 = (d / 4 + 64 * (x % 4)) + 256 * (x / 4) := by omega
  have key : ∀ d, d < 64 → ∀ r, r < 4 → (d + 64 * r) &&& 51 = d &&& 51 := by decide +kernel
  rw [h1, u_an8 (by omega) (by omega), u_an8 (by omega) (by omega), key (d / 4) (by omega) _ (by omega)]
  omega
set_option maxRecDepth 4000 in
theorem u_p2l : ∀ d, d < 256 → u_p2 51 d ≤ 102 ∧ u_p2 51 d % 16 ≤ 6 := by decide +kernel
theorem u_p3s {d x m : Nat} (hd : d ≤ 102) (hx : x % 16 ≤ 6) : u_p3 (15 + 256 * m) (d + 256 * x) = u_p3 15 d + 256 * u_p3 m x := by
  unfold u_p3
  have h1 : (d + 256 * x) + (d + 256 * x) / 16 = (d + d / 16 + 16 * (x % 16)) + 256 * (x + x / 16) := by omega
  have e15 : ∀ y, y &&& 15 = y % 16 := fun y => Nat.and_two_pow_sub_one_eq_mod y 4
  rw [h1, u_an8 (by omega) (by omega), e15, e15]
  omega
def u_pb (d : Nat) : Nat := u_p3 15 (u_p2 51 (u_p1 85 d))
def u_pc : Nat → Nat → Nat | 0, _ => 0 | n + 1, x => u_pb (x % 256) + 256 * u_pc n (x / 256)
theorem u_psw : ∀ n x, x < 256 ^ n → u_p3 (u_mk8 15 n) (u_p2 (u_mk8 51 n) (u_p1 (u_mk8 85 n) x)) = u_pc n x ∧ u_p2 (u_mk8 51 n) (u_p1 (u_mk8 85 n) x) % 16 ≤ 6 := by
  intro n
  induction n with
  | zero => intro x h; have : x = 0 := by simpa using h
            subst this; exact ⟨rfl, by decide⟩
  | succ n ih =>
    intro x h
    have hx : x / 256 < 256 ^ n := by rw [Nat.pow_succ] at h; omega
    obtain ⟨i1, i2⟩ := ih (x / 256) hx
    have e : x = x % 256 + 256 * (x / 256) := by omega
    have hd : x % 256 < 256 := by omega
    have l2 := u_p2l (u_p1 85 (x % 256)) (u_p1l _ hd)
    have E : u_p2 (u_mk8 51 (n + 1)) (u_p1 (u_mk8 85 (n + 1)) x) = u_p2 51 (u_p1 85 (x % 256)) + 256 * u_p2 (u_mk8 51 n) (u_p1 (u_mk8 85 n) (x / 256)) := by
      show u_p2 (51 + 256 * u_mk8 51 n) (u_p1 (85 + 256 * u_mk8 85 n) x) = _
      conv => lhs; rw [e]
      rw [u_p1s hd, u_p2s (u_p1l _ hd)]
    rw [E]
    refine ⟨?_, by omega⟩
    show u_p3 (15 + 256 * u_mk8 15 n) _ = u_pb (x % 256) + 256 * u_pc n (x / 256)
    rw [u_p3s l2.1 i2, i1]; rfl
def u_tc (x : Nat) : Nat → Nat | 0 => 0 | n + 1 => u_tc x n + (x.testBit n).toNat
set_option maxRecDepth 4000 in
theorem u_pbt : ∀ d, d < 256 → u_pb d = u_tc d 8 := by decide +kernel
theorem u_tc_add (x a : Nat) : ∀ n, u_tc x (a + n) = u_tc x a + u_tc (x / 2 ^ a) n
  | 0 => rfl
  | n + 1 => by
    show u_tc x (a + n) + (x.testBit (a + n)).toNat = u_tc x a + (u_tc (x / 2 ^ a) n + ((x / 2 ^ a).testBit n).toNat)
    rw [u_tc_add x a n, Nat.testBit_div_two_pow, Nat.add_comm n a]; omega
theorem u_tc_mod (x : Nat) : ∀ n a, n ≤ a → u_tc (x % 2 ^ a) n = u_tc x n
  | 0, _, _ => rfl
  | n + 1, a, h => by
    show u_tc (x % 2 ^ a) n + ((x % 2 ^ a).testBit n).toNat = u_tc x n + (x.testBit n).toNat
    rw [u_tc_mod x n a (by omega), Nat.testBit_mod_two_pow, decide_eq_true (show n < a by omega), Bool.true_and]
theorem u_tc_le (x : Nat) : ∀ n, u_tc x n ≤ n
  | 0 => Nat.le_refl 0
  | n + 1 => by
    have := u_tc_le x n
    have : (x.testBit n).toNat ≤ 1 := by cases x.testBit n <;> decide
    show u_tc x n + (x.testBit n).toNat ≤ n + 1
    omega
theorem u_pb_8 (x : Nat) : u_pb (x % 256) = u_tc x 8 ∧ u_pb (x % 256) ≤ 8 := by
  have e : u_pb (x % 256) = u_tc x 8 := by
    rw [u_pbt _ (Nat.mod_lt _ (by decide)), show 256 = 2 ^ 8 from rfl, u_tc_mod x 8 8 (by decide)]
  exact ⟨e, by rw [e]; exact u_tc_le x 8⟩
def u_bc (x : Nat) : Nat :=
  let w := u_p3 1085102592571150095 (u_p2 3689348814741910323 (u_p1 6148914691236517205 x))
  let a := w + w / 256
  let b := a + a / 65536
  let c := b + b / 4294967296
  c % 128
theorem u_m15 : u_mk8 15 8 = 1085102592571150095 := by decide
theorem u_m51 : u_mk8 51 8 = 3689348814741910323 := by decide
theorem u_m85 : u_mk8 85 8 = 6148914691236517205 := by decide
theorem u_tc8 {y n m : Nat} (h : m = 8 + n) : u_tc y m = u_pb (y % 256) + u_tc (y / 256) n := by
  rw [h, u_tc_add, (u_pb_8 y).1]
theorem u_pc_s {n x : Nat} : u_pc (n + 1) x = u_pb (x % 256) + 256 * u_pc n (x / 256) := rfl
theorem u_d1 {s Y : Nat} (h : s < 256) : (s + 256 * Y) / 256 = Y := by omega
theorem u_d2 {s t Y : Nat} (h : s < 256) (k : t < 256) : (s + 256 * (t + 256 * Y)) / 65536 = Y := by
  rw [show 65536 = 256 * 256 from rfl, ← Nat.div_div_eq_div_mul, u_d1 h, u_d1 k]
theorem u_d4 {s t u v Y : Nat} (h : s < 256) (k : t < 256) (l : u < 256) (m : v < 256) : (s + 256 * (t + 256 * (u + 256 * (v + 256 * Y)))) / 4294967296 = Y := by
  rw [show 4294967296 = 65536 * 65536 from rfl, ← Nat.div_div_eq_div_mul, u_d2 h k, u_d2 l m]
theorem u_dm {s Z : Nat} (h : s < 128) : (s + 256 * Z) % 128 = s := by omega
theorem u_n2b {a b : Nat} (h : a ≤ 8) (k : b ≤ 8) : a + b < 256 := by omega
theorem u_n4b {a b c d : Nat} (h : a ≤ 8) (k : b ≤ 8) (l : c ≤ 8) (m : d ≤ 8) : a + b + (c + d) < 256 := by omega
theorem u_bw {c0 c1 c2 c3 c4 c5 c6 c7 w X1 X2 X3 X4 X5 X6 X7 : Nat} (b0 : c0 ≤ 8) (b1 : c1 ≤ 8) (b2 : c2 ≤ 8) (b3 : c3 ≤ 8) (b4 : c4 ≤ 8) (b5 : c5 ≤ 8) (b6 : c6 ≤ 8) (b7 : c7 ≤ 8) (p : w = c0 + 256 * X1) (p1 : X1 = c1 + 256 * X2) (p2 : X2 = c2 + 256 * X3) (p3 : X3 = c3 + 256 * X4) (p4 : X4 = c4 + 256 * X5) (p5 : X5 = c5 + 256 * X6) (p6 : X6 = c6 + 256 * X7) (p7 : X7 = c7 + 256 * 0) : (w + w / 256 + (w + w / 256) / 65536 + (w + w / 256 + (w + w / 256) / 65536) / 4294967296) % 128 = c0 + (c1 + (c2 + (c3 + (c4 + (c5 + (c6 + (c7 + 0))))))) := by
  have e1 : w / 256 = X1 := by rw [p]; exact u_d1 (Nat.lt_of_le_of_lt b0 (by decide))
  have Y2 : X2 + X3 = (c2 + c3) + 256 * ((c3 + c4) + 256 * ((c4 + c5) + 256 * ((c5 + c6) + 256 * (X6 + X7)))) := by clear e1 p p1; omega
  have Y0 : w + X1 = (c0 + c1) + 256 * ((c1 + c2) + 256 * (X2 + X3)) := by clear e1 Y2 p3 p4 p5 p6 p7; omega
  have e2 : (w + X1) / 65536 = X2 + X3 := by rw [Y0]; exact u_d2 (u_n2b b0 b1) (u_n2b b1 b2)
  have Y4 : X2 + X3 = (c2 + c3) + 256 * ((c3 + c4) + 256 * (X4 + X5)) := by clear Y2 e1 e2 Y0 p p1 p5 p6 p7; omega
  have Z0 : w + X1 + (X2 + X3) = (c0 + c1 + (c2 + c3)) + 256 * ((c1 + c2 + (c3 + c4)) + 256 * ((c2 + c3 + (c4 + c5)) + 256 * ((c3 + c4 + (c5 + c6)) + 256 * (X4 + X5 + (X6 + X7))))) := by
    clear e1 e2 p p1 p2 p3 p4 p5 p6 p7; omega
  have e3 : (w + X1 + (X2 + X3)) / 4294967296 = X4 + X5 + (X6 + X7) := by rw [Z0]; exact u_d4 (u_n4b b0 b1 b2 b3) (u_n4b b1 b2 b3 b4) (u_n4b b2 b3 b4 b5) (u_n4b b3 b4 b5 b6)
  rw [e1, e2, e3]
  have V : w + X1 + (X2 + X3) + (X4 + X5 + (X6 + X7)) = (c0 + (c1 + (c2 + (c3 + (c4 + (c5 + (c6 + (c7 + 0)))))))) + 256 * ((c1 + c2 + (c3 + c4)) + 256 * ((c2 + c3 + (c4 + c5)) + 256 * ((c3 + c4 + (c5 + c6)) + 256 * (X4 + X5 + (X6 + X7)))) + (X5 + X6 + X7)) := by
    rw [Z0]
    clear e1 e2 e3 p p1 p2 p3 Y2 Y0 Y4 Z0; omega
  rw [V]
  exact u_dm (by clear Y2 Y0 Y4 Z0 V e1 e2 e3 p p1 p2 p3 p4 p5 p6 p7; omega)
theorem u_bwb {c0 c1 c2 c3 c4 c5 c6 c7 w : Nat} (b0 : c0 ≤ 8) (b1 : c1 ≤ 8) (b2 : c2 ≤ 8) (b3 : c3 ≤ 8) (b4 : c4 ≤ 8) (b5 : c5 ≤ 8) (b6 : c6 ≤ 8) (b7 : c7 ≤ 8) (p : w = c0 + 256 * (c1 + 256 * (c2 + 256 * (c3 + 256 * (c4 + 256 * (c5 + 256 * (c6 + 256 * (c7 + 256 * 0)))))))) : w ≤ 8 * 72340172838076673 := by omega
theorem u_bc_tc {x w : Nat} (hx : x < 2 ^ 64) (hw : w = u_p3 1085102592571150095 (u_p2 3689348814741910323 (u_p1 6148914691236517205 x))) : (w + w / 256 + (w + w / 256) / 65536 + (w + w / 256 + (w + w / 256) / 65536) / 4294967296) % 128 = u_tc x 64 ∧ w ≤ 8 * 72340172838076673 := by
  have h1 := (u_psw 8 x (Nat.lt_of_lt_of_eq hx (by decide))).1
  rw [u_m15, u_m51, u_m85, ← hw, @u_pc_s 7, @u_pc_s 6, @u_pc_s 5, @u_pc_s 4, @u_pc_s 3, @u_pc_s 2, @u_pc_s 1, @u_pc_s 0] at h1
  rw [@u_tc8 _ 56 64 rfl, @u_tc8 _ 48 56 rfl, @u_tc8 _ 40 48 rfl, @u_tc8 _ 32 40 rfl, @u_tc8 _ 24 32 rfl, @u_tc8 _ 16 24 rfl, @u_tc8 _ 8 16 rfl, @u_tc8 _ 0 8 rfl]
  exact ⟨u_bw (u_pb_8 _).2 (u_pb_8 _).2 (u_pb_8 _).2 (u_pb_8 _).2 (u_pb_8 _).2 (u_pb_8 _).2 (u_pb_8 _).2 (u_pb_8 _).2 h1 rfl rfl rfl rfl rfl rfl rfl, u_bwb (u_pb_8 _).2 (u_pb_8 _).2 (u_pb_8 _).2 (u_pb_8 _).2 (u_pb_8 _).2 (u_pb_8 _).2 (u_pb_8 _).2 (u_pb_8 _).2 h1⟩
def u_v6 (x : Int64) : Nat := x.toBitVec.toNat
theorem u_v6_sub {x y : Int64} (h : u_v6 y ≤ u_v6 x) : u_v6 (x - y) = u_v6 x - u_v6 y := by
  show (x.toBitVec - y.toBitVec).toNat = _
  unfold u_v6 at h ⊢
  have := x.toBitVec.isLt
  rw [BitVec.toNat_sub]; omega
theorem u_v6_and {x y : Int64} : u_v6 (x &&& y) = u_v6 x &&& u_v6 y := by
  show (x.toBitVec &&& y.toBitVec).toNat = _
  rw [BitVec.toNat_and]; rfl
theorem u_v6_add {x y : Int64} (h : u_v6 x + u_v6 y < 2 ^ 64) : u_v6 (x + y) = u_v6 x + u_v6 y := by
  show (x.toBitVec + y.toBitVec).toNat = _
  rw [BitVec.toNat_add]; exact Nat.mod_eq_of_lt h
def u_s6 (k : Int32) (x : Int64) : Int64 := (x.toUInt64 >>> (k.toInt64.toUInt64 &&& Int64.toUInt64 63)).toInt64
theorem u_s6_k {k : Int32} {n : Nat} {x : Int64} (e : (k.toInt64.toUInt64 &&& Int64.toUInt64 63) = UInt64.ofNat n) (hn : n < 64) : u_v6 (u_s6 k x) = u_v6 x / 2 ^ n := by
  unfold u_s6
  rw [e]
  show (x.toBitVec >>> (UInt64.mod (UInt64.ofNat n) 64).toBitVec).toNat = _
  have e2 : (UInt64.mod (UInt64.ofNat n) 64).toBitVec.toNat = n := by
    show (n % 2 ^ 64) % 64 = n
    omega
  show (x.toBitVec >>> (UInt64.mod (UInt64.ofNat n) 64).toBitVec.toNat).toNat = _
  rw [e2, BitVec.toNat_ushiftRight, Nat.shiftRight_eq_div_pow]; rfl
def u_y6 (x : Int64) : Int64 :=
  (fun z => (z + u_s6 4 z) &&& 1085102592571150095) ((fun y => (y &&& 3689348814741910323) + (u_s6 2 y &&& 3689348814741910323)) (x - (u_s6 1 x &&& 6148914691236517205)))
def u_z6 (w : Int64) : Int64 := (fun b => b + u_s6 32 b) ((fun a => a + u_s6 16 a) (w + u_s6 8 w))
theorem u_y6_v {x : Int64} : u_v6 (u_y6 x) = u_p3 1085102592571150095 (u_p2 3689348814741910323 (u_p1 6148914691236517205 (u_v6 x))) := by
  unfold u_y6
  dsimp only
  have c1 : u_v6 (6148914691236517205 : Int64) = 6148914691236517205 := rfl
  have c2 : u_v6 (3689348814741910323 : Int64) = 3689348814741910323 := rfl
  have c3 : u_v6 (1085102592571150095 : Int64) = 1085102592571150095 := rfl
  have hx : u_v6 x < 2 ^ 64 := x.toBitVec.isLt
  have e1 : u_v6 (x - (u_s6 1 x &&& 6148914691236517205)) = u_p1 6148914691236517205 (u_v6 x) := by
    have l : u_v6 (u_s6 1 x &&& 6148914691236517205) = (u_v6 x / 2 &&& 6148914691236517205) := by
      rw [u_v6_and, c1, u_s6_k (n := 1) (by decide) (by decide)]
    rw [u_v6_sub (by rw [l]; exact Nat.le_trans Nat.and_le_left (Nat.div_le_self _ _)), l]; rfl
  generalize x - (u_s6 1 x &&& 6148914691236517205) = y at e1 ⊢
  have e2 : u_v6 ((y &&& 3689348814741910323) + (u_s6 2 y &&& 3689348814741910323)) = u_p2 3689348814741910323 (u_v6 y) ∧ u_p2 3689348814741910323 (u_v6 y) < 2 ^ 63 := by
    have l : u_v6 (u_s6 2 y &&& 3689348814741910323) = (u_v6 y / 4 &&& 3689348814741910323) := by
      rw [u_v6_and, c2, u_s6_k (n := 2) (by decide) (by decide)]
    have l2 : u_v6 (y &&& 3689348814741910323) = (u_v6 y &&& 3689348814741910323) := by rw [u_v6_and, c2]
    have k1 : (u_v6 y / 4 &&& 3689348814741910323) ≤ 3689348814741910323 := Nat.and_le_right
    have k2 : (u_v6 y &&& 3689348814741910323) ≤ 3689348814741910323 := Nat.and_le_right
    rw [u_v6_add (by rw [l, l2]; omega), l, l2]
    exact ⟨rfl, by unfold u_p2; omega⟩
  generalize (y &&& 3689348814741910323) + (u_s6 2 y &&& 3689348814741910323) = z at e2 ⊢
  obtain ⟨e2, k⟩ := e2
  rw [e1] at e2 k
  have l : u_v6 (u_s6 4 z) = u_v6 z / 16 := by rw [u_s6_k (n := 4) (by decide) (by decide)]
  rw [u_v6_and, c3, u_v6_add (by rw [l, e2]; omega), l, e2]; rfl
theorem u_z6_v {w : Int64} (h : u_v6 w ≤ 8 * 72340172838076673) : u_v6 (u_z6 w) = u_v6 w + u_v6 w / 256 + (u_v6 w + u_v6 w / 256) / 65536 + (u_v6 w + u_v6 w / 256 + (u_v6 w + u_v6 w / 256) / 65536) / 4294967296 := by
  unfold u_z6
  dsimp only
  have l1 : u_v6 (u_s6 8 w) = u_v6 w / 256 := by rw [u_s6_k (n := 8) (by decide) (by decide)]
  have e1 : u_v6 (w + u_s6 8 w) = u_v6 w + u_v6 w / 256 := by rw [u_v6_add (by rw [l1]; omega), l1]
  generalize w + u_s6 8 w = a at e1 ⊢
  have l2 : u_v6 (u_s6 16 a) = u_v6 a / 65536 := by rw [u_s6_k (n := 16) (by decide) (by decide)]
  have ha : u_v6 a < 2 ^ 61 := by rw [e1]; omega
  have e2 : u_v6 (a + u_s6 16 a) = u_v6 a + u_v6 a / 65536 := by rw [u_v6_add (by rw [l2]; omega), l2]
  generalize a + u_s6 16 a = b at e2 ⊢
  have l3 : u_v6 (u_s6 32 b) = u_v6 b / 4294967296 := by rw [u_s6_k (n := 32) (by decide) (by decide)]
  have hb : u_v6 b < 2 ^ 62 := by rw [e2]; omega
  rw [u_v6_add (by rw [l3]; omega), l3, e2, e1]
theorem u_i7 {y : Int64} : (y.toInt32 &&& (127 : Int32)) = Int32.ofNat (u_v6 y % 128) := by
  apply Int32.toBitVec_inj.mp
  apply BitVec.eq_of_toNat_eq
  show (y.toBitVec.signExtend 32 &&& 127#32).toNat = (u_v6 y % 128) % 2 ^ 32
  rw [BitVec.signExtend_eq_setWidth_of_le _ (by decide), BitVec.toNat_and, BitVec.toNat_setWidth, show (127#32).toNat = 127 from rfl, Nat.and_two_pow_sub_one_eq_mod (y.toBitVec.toNat % 2 ^ 32) 7]
  unfold u_v6
  omega
theorem c_bits {x : Int64} {h : q_H} : Jl_bitCount x h = some (nI (u_tc (u_v6 x) 64)) := by
  have e : Jl_bitCount x h = some ((u_z6 (u_y6 x)).toInt32 &&& (127 : Int32)) := rfl
  have k := u_bc_tc (x := u_v6 x) x.toBitVec.isLt (u_y6_v (x := x))
  rw [e, u_i7, u_z6_v k.2, k.1]; rfl
theorem g_tc_sm {y : Nat} {f : Nat → Bool} {t : Nat} (h0 : y.testBit 0 = false) (h : ∀ o, 1 ≤ o → o < t → y.testBit o = f o) : ∀ n, 1 + n ≤ t → nI (u_tc y (1 + n)) = g_sm (fun o => q_bi (f o)) 1 n := by
  intro n
  induction n with
  | zero => intro _; show nI (0 + (y.testBit 0).toNat) = 0; rw [h0]; rfl
  | succ n ih =>
    intro hn
    show nI (u_tc y (1 + n) + (y.testBit (1 + n)).toNat) = g_sm (fun o => q_bi (f o)) 1 n + q_bi (f (1 + n))
    rw [← ih (by omega), h (1 + n) (by omega) (by omega)]
    cases f (1 + n)
    · show nI (u_tc y (1 + n) + 0) = nI (u_tc y (1 + n)) + 0
      rw [Nat.add_zero, Int32.add_zero]
    · show nI (u_tc y (1 + n) + 1) = nI (u_tc y (1 + n)) + 1
      rw [nI_1]
theorem g_tc_up {y t : Nat} : ∀ n, (∀ o, t ≤ o → o < t + n → y.testBit o = false) → u_tc y (t + n) = u_tc y t
  | 0, _ => rfl
  | n + 1, h => by
    show u_tc y (t + n) + (y.testBit (t + n)).toNat = u_tc y t
    rw [g_tc_up n (fun o a b => h o a (by omega)), h (t + n) (by omega) (by omega)]; rfl
theorem c_notedMany {A : g_A} {H : q_H} {k t : Nat} (hR : r_t (g_st H k) A) (hw : g_wt A) (h1 : 1 ≤ t) (h2 : t < g_nx A) : Tn_howManyNoted k (nI t) H = some (g_sm (fun o => q_bi (g_nt A t o)) 1 (t - 1)) := by
  have n61 := hw.2.2
  obtain ⟨_, _, _, r4, r5⟩ := hR.2 t h1 h2
  have e : nI (u_tc (u_v6 (H.2 10 0 k t)) 64) = g_sm (fun o => q_bi (g_nt A t o)) 1 (t - 1) := by
    rw [show (64 : Nat) = t + (64 - t) by omega, @g_tc_up (u_v6 (H.2 10 0 k t)) t (64 - t) (fun o a b => r5 o (by omega) (Or.inr a))]
    have := g_tc_sm (y := u_v6 (H.2 10 0 k t)) (f := g_nt A t) (t := t) (r5 0 (by decide) (Or.inl rfl)) (fun o a b => r4 o a b) (t - 1) (by omega)
    rw [show 1 + (t - 1) = t by omega] at this
    exact this
  unfold Tn_howManyNoted
  rw [if_neg (show ¬ nI t < 0 from nI_nlt (b := 0) (by omega) (by omega)), if_neg (show ¬ (61 : Int32) ≤ nI t from nI_ge (b := 61) (by omega) (by decide)), g_inN (by omega) (by decide), g_cl (by omega), c_bits, e]
  rfl
theorem m_notedMany {A : g_A} {h : q_H} {t : Nat} (h1 : 1 ≤ t) (ht : t < 61) : Mo_notedMany (nI t) (g_ma h 31 A) = some (g_sm (fun o => q_bi (g_nt A t o)) 1 (t - 1)) := by
  unfold Mo_notedMany
  refine g_bs (g_lpC0 (fun o => q_bi (g_nt A t o)) 1 (t - 1) rfl (fun o x a b => ?_) (fun x => ?_) (by unfold q_fu; omega))
  · dsimp only
    rw [if_neg (nI_ge (by omega) (by omega)), m_noted ht a (by omega)]
    simp only [Option.bind_some]
    cases g_nt A t o
    · rw [if_pos (by decide), Option.bind_some, nI_1]; rfl
    · rw [if_neg (by decide), Option.bind_some, nI_1]; rfl
  · dsimp only
    rw [show 1 + (t - 1) = t by omega, if_pos (Int32.le_refl _)]
