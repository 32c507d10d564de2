/-! THE STRING CONSTANTS AND THE NEST WORDS: what X is -/
def q_pa : Cond → List Bool → Option Cond
  | c, [] => some c
  | .and a b, x :: l => bif x then q_pa b l else q_pa a l
  | _, _ :: _ => none
theorem q_pa_ok {args : Array Value} {s : State} : ∀ (l : List Bool) (c d : Cond), c.before args s = true → q_pa c l = some d → d.before args s = true := by
  intro l
  induction l with
  | nil => intro c d h e; unfold q_pa at e; cases e; exact h
  | cons x l ih =>
    intro c d h e
    cases c with
    | and a b =>
      rw [Cond.before_and, Bool.and_eq_true] at h
      have e : (bif x then q_pa b l else q_pa a l) = some d := e
      cases x with
      | true => exact ih b d h.2 e
      | false => exact ih a d h.1 e
    | _ => cases e
def q_txs : List String := ["units", "batch", "age", "row", "begin", "insert", "update", "delete", "commit", "abort", "prune", "vacuum", "look", "repack"]
def q_stm (i : Nat) : Term := .string RX6 (q_sds.getD i 0)
def q_byt : List (List Int32) := q_strs.map (fun l => l.map Int32.ofNat)
def q_len : List Nat := q_strs.map List.length
theorem q_i14 {P : Nat → Prop} (h0 : P 0) (h1 : P 1) (h2 : P 2) (h3 : P 3) (h4 : P 4) (h5 : P 5) (h6 : P 6) (h7 : P 7) (h8 : P 8) (h9 : P 9) (h10 : P 10) (h11 : P 11) (h12 : P 12) (h13 : P 13) : ∀ i, i < 14 → P i := by
  intro i hi
  match i, hi with
  | 0, _ => exact h0
  | 1, _ => exact h1
  | 2, _ => exact h2
  | 3, _ => exact h3
  | 4, _ => exact h4
  | 5, _ => exact h5
  | 6, _ => exact h6
  | 7, _ => exact h7
  | 8, _ => exact h8
  | 9, _ => exact h9
  | 10, _ => exact h10
  | 11, _ => exact h11
  | 12, _ => exact h12
  | 13, _ => exact h13
theorem q_iN {P : Nat → Prop} (n : Nat) (h : ∀ j : Fin n, P j.1) : ∀ j, j < n → P j := fun j hj => h ⟨j, hj⟩
set_option maxRecDepth 100000 in
theorem sx_ex_0 : q_pa narrow_1 [false, false, false, true, true, true, false, true] = some (Cond.exactly (q_stm 0) "java/lang/String") := rfl
set_option maxRecDepth 100000 in
theorem sx_ex_1 : q_pa narrow_1 [false, false, true, false, false, true, true, true] = some (Cond.exactly (q_stm 1) "java/lang/String") := rfl
set_option maxRecDepth 100000 in
theorem sx_ex_2 : q_pa narrow_1 [false, false, true, true, false, false, false, true] = some (Cond.exactly (q_stm 2) "java/lang/String") := rfl
set_option maxRecDepth 100000 in
theorem sx_ex_3 : q_pa narrow_1 [false, false, true, true, true, false, true, false] = some (Cond.exactly (q_stm 3) "java/lang/String") := rfl
set_option maxRecDepth 100000 in
theorem sx_ex_4 : q_pa narrow_1 [false, true, false, false, false, true, false, true] = some (Cond.exactly (q_stm 4) "java/lang/String") := rfl
set_option maxRecDepth 100000 in
theorem sx_ex_5 : q_pa narrow_1 [false, true, false, true, false, false, true, true] = some (Cond.exactly (q_stm 5) "java/lang/String") := rfl
set_option maxRecDepth 100000 in
theorem sx_ex_6 : q_pa narrow_1 [false, true, true, false, false, false, true, true] = some (Cond.exactly (q_stm 6) "java/lang/String") := rfl
set_option maxRecDepth 100000 in
theorem sx_ex_7 : q_pa narrow_1 [false, true, true, true, false, false, true, true] = some (Cond.exactly (q_stm 7) "java/lang/String") := rfl
set_option maxRecDepth 100000 in
theorem sx_ex_8 : q_pa narrow_1 [true, false, false, false, false, true, false, true] = some (Cond.exactly (q_stm 8) "java/lang/String") := rfl
set_option maxRecDepth 100000 in
theorem sx_ex_9 : q_pa narrow_1 [true, false, false, true, true, false, false, false] = some (Cond.exactly (q_stm 9) "java/lang/String") := rfl
set_option maxRecDepth 100000 in
theorem sx_ex_10 : q_pa narrow_1 [true, false, true, false, true, false, true, true] = some (Cond.exactly (q_stm 10) "java/lang/String") := rfl
set_option maxRecDepth 100000 in
theorem sx_ex_11 : q_pa narrow_1 [true, false, true, true, true, true, true, false] = some (Cond.exactly (q_stm 11) "java/lang/String") := rfl
set_option maxRecDepth 100000 in
theorem sx_ex_12 : q_pa narrow_1 [true, true, false, true, false, true, false, false] = some (Cond.exactly (q_stm 12) "java/lang/String") := rfl
set_option maxRecDepth 100000 in
theorem sx_ex_13 : q_pa narrow_1 [true, true, true, false, true, false, false, true] = some (Cond.exactly (q_stm 13) "java/lang/String") := rfl
theorem sx_ex {args : Array Value} {s : State} (h : narrow_1.before args s = true) : ∀ i : Nat, i < 14 → (Cond.exactly (q_stm i) "java/lang/String").before args s = true := q_i14 (P := fun i => (Cond.exactly (q_stm i) "java/lang/String").before args s = true) (q_pa_ok _ _ _ h sx_ex_0) (q_pa_ok _ _ _ h sx_ex_1) (q_pa_ok _ _ _ h sx_ex_2) (q_pa_ok _ _ _ h sx_ex_3) (q_pa_ok _ _ _ h sx_ex_4) (q_pa_ok _ _ _ h sx_ex_5) (q_pa_ok _ _ _ h sx_ex_6) (q_pa_ok _ _ _ h sx_ex_7) (q_pa_ok _ _ _ h sx_ex_8) (q_pa_ok _ _ _ h sx_ex_9) (q_pa_ok _ _ _ h sx_ex_10) (q_pa_ok _ _ _ h sx_ex_11) (q_pa_ok _ _ _ h sx_ex_12) (q_pa_ok _ _ _ h sx_ex_13)
set_option maxRecDepth 100000 in
theorem sx_co_0 : q_pa narrow_1 [false, false, false, true, true, true, true, false] = some (Cond.eq (.field (q_stm 0) "java/lang/String" "coder" "B") (.int 0)) := rfl
set_option maxRecDepth 100000 in
theorem sx_co_1 : q_pa narrow_1 [false, false, true, false, true, false, false, false] = some (Cond.eq (.field (q_stm 1) "java/lang/String" "coder" "B") (.int 0)) := rfl
set_option maxRecDepth 100000 in
theorem sx_co_2 : q_pa narrow_1 [false, false, true, true, false, false, true, false] = some (Cond.eq (.field (q_stm 2) "java/lang/String" "coder" "B") (.int 0)) := rfl
set_option maxRecDepth 100000 in
theorem sx_co_3 : q_pa narrow_1 [false, false, true, true, true, false, true, true] = some (Cond.eq (.field (q_stm 3) "java/lang/String" "coder" "B") (.int 0)) := rfl
set_option maxRecDepth 100000 in
theorem sx_co_4 : q_pa narrow_1 [false, true, false, false, false, true, true, false] = some (Cond.eq (.field (q_stm 4) "java/lang/String" "coder" "B") (.int 0)) := rfl
set_option maxRecDepth 100000 in
theorem sx_co_5 : q_pa narrow_1 [false, true, false, true, false, true, false, false] = some (Cond.eq (.field (q_stm 5) "java/lang/String" "coder" "B") (.int 0)) := rfl
set_option maxRecDepth 100000 in
theorem sx_co_6 : q_pa narrow_1 [false, true, true, false, false, true, false, false] = some (Cond.eq (.field (q_stm 6) "java/lang/String" "coder" "B") (.int 0)) := rfl
set_option maxRecDepth 100000 in
theorem sx_co_7 : q_pa narrow_1 [false, true, true, true, false, true, false, false] = some (Cond.eq (.field (q_stm 7) "java/lang/String" "coder" "B") (.int 0)) := rfl
set_option maxRecDepth 100000 in
theorem sx_co_8 : q_pa narrow_1 [true, false, false, false, false, true, true, false] = some (Cond.eq (.field (q_stm 8) "java/lang/String" "coder" "B") (.int 0)) := rfl
set_option maxRecDepth 100000 in
theorem sx_co_9 : q_pa narrow_1 [true, false, false, true, true, false, false, true] = some (Cond.eq (.field (q_stm 9) "java/lang/String" "coder" "B") (.int 0)) := rfl
set_option maxRecDepth 100000 in
theorem sx_co_10 : q_pa narrow_1 [true, false, true, false, true, true, false, false] = some (Cond.eq (.field (q_stm 10) "java/lang/String" "coder" "B") (.int 0)) := rfl
set_option maxRecDepth 100000 in
theorem sx_co_11 : q_pa narrow_1 [true, false, true, true, true, true, true, true] = some (Cond.eq (.field (q_stm 11) "java/lang/String" "coder" "B") (.int 0)) := rfl
set_option maxRecDepth 100000 in
theorem sx_co_12 : q_pa narrow_1 [true, true, false, true, false, true, false, true] = some (Cond.eq (.field (q_stm 12) "java/lang/String" "coder" "B") (.int 0)) := rfl
set_option maxRecDepth 100000 in
theorem sx_co_13 : q_pa narrow_1 [true, true, true, false, true, false, true, false] = some (Cond.eq (.field (q_stm 13) "java/lang/String" "coder" "B") (.int 0)) := rfl
theorem sx_co {args : Array Value} {s : State} (h : narrow_1.before args s = true) : ∀ i : Nat, i < 14 → (Cond.eq (.field (q_stm i) "java/lang/String" "coder" "B") (.int 0)).before args s = true := q_i14 (P := fun i => (Cond.eq (.field (q_stm i) "java/lang/String" "coder" "B") (.int 0)).before args s = true) (q_pa_ok _ _ _ h sx_co_0) (q_pa_ok _ _ _ h sx_co_1) (q_pa_ok _ _ _ h sx_co_2) (q_pa_ok _ _ _ h sx_co_3) (q_pa_ok _ _ _ h sx_co_4) (q_pa_ok _ _ _ h sx_co_5) (q_pa_ok _ _ _ h sx_co_6) (q_pa_ok _ _ _ h sx_co_7) (q_pa_ok _ _ _ h sx_co_8) (q_pa_ok _ _ _ h sx_co_9) (q_pa_ok _ _ _ h sx_co_10) (q_pa_ok _ _ _ h sx_co_11) (q_pa_ok _ _ _ h sx_co_12) (q_pa_ok _ _ _ h sx_co_13)
set_option maxRecDepth 100000 in
theorem sx_ar_0 : q_pa narrow_1 [false, false, false, true, true, true, true, true] = some (Cond.arrayOf (.field (q_stm 0) "java/lang/String" "value" "[B") .byte) := rfl
set_option maxRecDepth 100000 in
theorem sx_ar_1 : q_pa narrow_1 [false, false, true, false, true, false, false, true] = some (Cond.arrayOf (.field (q_stm 1) "java/lang/String" "value" "[B") .byte) := rfl
set_option maxRecDepth 100000 in
theorem sx_ar_2 : q_pa narrow_1 [false, false, true, true, false, false, true, true] = some (Cond.arrayOf (.field (q_stm 2) "java/lang/String" "value" "[B") .byte) := rfl
set_option maxRecDepth 100000 in
theorem sx_ar_3 : q_pa narrow_1 [false, false, true, true, true, true, false, false] = some (Cond.arrayOf (.field (q_stm 3) "java/lang/String" "value" "[B") .byte) := rfl
set_option maxRecDepth 100000 in
theorem sx_ar_4 : q_pa narrow_1 [false, true, false, false, false, true, true, true] = some (Cond.arrayOf (.field (q_stm 4) "java/lang/String" "value" "[B") .byte) := rfl
set_option maxRecDepth 100000 in
theorem sx_ar_5 : q_pa narrow_1 [false, true, false, true, false, true, false, true] = some (Cond.arrayOf (.field (q_stm 5) "java/lang/String" "value" "[B") .byte) := rfl
set_option maxRecDepth 100000 in
theorem sx_ar_6 : q_pa narrow_1 [false, true, true, false, false, true, false, true] = some (Cond.arrayOf (.field (q_stm 6) "java/lang/String" "value" "[B") .byte) := rfl
set_option maxRecDepth 100000 in
theorem sx_ar_7 : q_pa narrow_1 [false, true, true, true, false, true, false, true] = some (Cond.arrayOf (.field (q_stm 7) "java/lang/String" "value" "[B") .byte) := rfl
set_option maxRecDepth 100000 in
theorem sx_ar_8 : q_pa narrow_1 [true, false, false, false, false, true, true, true] = some (Cond.arrayOf (.field (q_stm 8) "java/lang/String" "value" "[B") .byte) := rfl
set_option maxRecDepth 100000 in
theorem sx_ar_9 : q_pa narrow_1 [true, false, false, true, true, false, true, false] = some (Cond.arrayOf (.field (q_stm 9) "java/lang/String" "value" "[B") .byte) := rfl
set_option maxRecDepth 100000 in
theorem sx_ar_10 : q_pa narrow_1 [true, false, true, false, true, true, false, true] = some (Cond.arrayOf (.field (q_stm 10) "java/lang/String" "value" "[B") .byte) := rfl
set_option maxRecDepth 100000 in
theorem sx_ar_11 : q_pa narrow_1 [true, true, false, false, false, false, false] = some (Cond.arrayOf (.field (q_stm 11) "java/lang/String" "value" "[B") .byte) := rfl
set_option maxRecDepth 100000 in
theorem sx_ar_12 : q_pa narrow_1 [true, true, false, true, false, true, true, false] = some (Cond.arrayOf (.field (q_stm 12) "java/lang/String" "value" "[B") .byte) := rfl
set_option maxRecDepth 100000 in
theorem sx_ar_13 : q_pa narrow_1 [true, true, true, false, true, false, true, true] = some (Cond.arrayOf (.field (q_stm 13) "java/lang/String" "value" "[B") .byte) := rfl
theorem sx_ar {args : Array Value} {s : State} (h : narrow_1.before args s = true) : ∀ i : Nat, i < 14 → (Cond.arrayOf (.field (q_stm i) "java/lang/String" "value" "[B") .byte).before args s = true := q_i14 (P := fun i => (Cond.arrayOf (.field (q_stm i) "java/lang/String" "value" "[B") .byte).before args s = true) (q_pa_ok _ _ _ h sx_ar_0) (q_pa_ok _ _ _ h sx_ar_1) (q_pa_ok _ _ _ h sx_ar_2) (q_pa_ok _ _ _ h sx_ar_3) (q_pa_ok _ _ _ h sx_ar_4) (q_pa_ok _ _ _ h sx_ar_5) (q_pa_ok _ _ _ h sx_ar_6) (q_pa_ok _ _ _ h sx_ar_7) (q_pa_ok _ _ _ h sx_ar_8) (q_pa_ok _ _ _ h sx_ar_9) (q_pa_ok _ _ _ h sx_ar_10) (q_pa_ok _ _ _ h sx_ar_11) (q_pa_ok _ _ _ h sx_ar_12) (q_pa_ok _ _ _ h sx_ar_13)
set_option maxRecDepth 100000 in
theorem sx_le_0 : q_pa narrow_1 [false, false, true, false, false, false, false] = some (Cond.eq (.length (.field (q_stm 0) "java/lang/String" "value" "[B")) (.int (Int32.ofNat (q_len.getD 0 0)))) := rfl
set_option maxRecDepth 100000 in
theorem sx_le_1 : q_pa narrow_1 [false, false, true, false, true, false, true, false] = some (Cond.eq (.length (.field (q_stm 1) "java/lang/String" "value" "[B")) (.int (Int32.ofNat (q_len.getD 1 0)))) := rfl
set_option maxRecDepth 100000 in
theorem sx_le_2 : q_pa narrow_1 [false, false, true, true, false, true, false, false] = some (Cond.eq (.length (.field (q_stm 2) "java/lang/String" "value" "[B")) (.int (Int32.ofNat (q_len.getD 2 0)))) := rfl
set_option maxRecDepth 100000 in
theorem sx_le_3 : q_pa narrow_1 [false, false, true, true, true, true, false, true] = some (Cond.eq (.length (.field (q_stm 3) "java/lang/String" "value" "[B")) (.int (Int32.ofNat (q_len.getD 3 0)))) := rfl
set_option maxRecDepth 100000 in
theorem sx_le_4 : q_pa narrow_1 [false, true, false, false, true, false, false, false] = some (Cond.eq (.length (.field (q_stm 4) "java/lang/String" "value" "[B")) (.int (Int32.ofNat (q_len.getD 4 0)))) := rfl
set_option maxRecDepth 100000 in
theorem sx_le_5 : q_pa narrow_1 [false, true, false, true, false, true, true, false] = some (Cond.eq (.length (.field (q_stm 5) "java/lang/String" "value" "[B")) (.int (Int32.ofNat (q_len.getD 5 0)))) := rfl
set_option maxRecDepth 100000 in
theorem sx_le_6 : q_pa narrow_1 [false, true, true, false, false, true, true, false] = some (Cond.eq (.length (.field (q_stm 6) "java/lang/String" "value" "[B")) (.int (Int32.ofNat (q_len.getD 6 0)))) := rfl
set_option maxRecDepth 100000 in
theorem sx_le_7 : q_pa narrow_1 [false, true, true, true, false, true, true, false] = some (Cond.eq (.length (.field (q_stm 7) "java/lang/String" "value" "[B")) (.int (Int32.ofNat (q_len.getD 7 0)))) := rfl
set_option maxRecDepth 100000 in
theorem sx_le_8 : q_pa narrow_1 [true, false, false, false, true, false, false, false] = some (Cond.eq (.length (.field (q_stm 8) "java/lang/String" "value" "[B")) (.int (Int32.ofNat (q_len.getD 8 0)))) := rfl
set_option maxRecDepth 100000 in
theorem sx_le_9 : q_pa narrow_1 [true, false, false, true, true, false, true, true] = some (Cond.eq (.length (.field (q_stm 9) "java/lang/String" "value" "[B")) (.int (Int32.ofNat (q_len.getD 9 0)))) := rfl
set_option maxRecDepth 100000 in
theorem sx_le_10 : q_pa narrow_1 [true, false, true, false, true, true, true, false] = some (Cond.eq (.length (.field (q_stm 10) "java/lang/String" "value" "[B")) (.int (Int32.ofNat (q_len.getD 10 0)))) := rfl
set_option maxRecDepth 100000 in
theorem sx_le_11 : q_pa narrow_1 [true, true, false, false, false, false, true, false] = some (Cond.eq (.length (.field (q_stm 11) "java/lang/String" "value" "[B")) (.int (Int32.ofNat (q_len.getD 11 0)))) := rfl
set_option maxRecDepth 100000 in
theorem sx_le_12 : q_pa narrow_1 [true, true, false, true, false, true, true, true] = some (Cond.eq (.length (.field (q_stm 12) "java/lang/String" "value" "[B")) (.int (Int32.ofNat (q_len.getD 12 0)))) := rfl
set_option maxRecDepth 100000 in
theorem sx_le_13 : q_pa narrow_1 [true, true, true, false, true, true, false, false] = some (Cond.eq (.length (.field (q_stm 13) "java/lang/String" "value" "[B")) (.int (Int32.ofNat (q_len.getD 13 0)))) := rfl
theorem sx_le {args : Array Value} {s : State} (h : narrow_1.before args s = true) : ∀ i : Nat, i < 14 → (Cond.eq (.length (.field (q_stm i) "java/lang/String" "value" "[B")) (.int (Int32.ofNat (q_len.getD i 0)))).before args s = true := q_i14 (P := fun i => (Cond.eq (.length (.field (q_stm i) "java/lang/String" "value" "[B")) (.int (Int32.ofNat (q_len.getD i 0)))).before args s = true) (q_pa_ok _ _ _ h sx_le_0) (q_pa_ok _ _ _ h sx_le_1) (q_pa_ok _ _ _ h sx_le_2) (q_pa_ok _ _ _ h sx_le_3) (q_pa_ok _ _ _ h sx_le_4) (q_pa_ok _ _ _ h sx_le_5) (q_pa_ok _ _ _ h sx_le_6) (q_pa_ok _ _ _ h sx_le_7) (q_pa_ok _ _ _ h sx_le_8) (q_pa_ok _ _ _ h sx_le_9) (q_pa_ok _ _ _ h sx_le_10) (q_pa_ok _ _ _ h sx_le_11) (q_pa_ok _ _ _ h sx_le_12) (q_pa_ok _ _ _ h sx_le_13)
set_option maxRecDepth 100000 in
theorem sx_el_0_0 : q_pa narrow_1 [false, false, true, false, false, false, true, false] = some (Cond.eq (.elem (.field (q_stm 0) "java/lang/String" "value" "[B") (.int (Int32.ofNat 0))) (.int ((q_byt.getD 0 []).getD 0 0))) := rfl
set_option maxRecDepth 100000 in
theorem sx_el_0_1 : q_pa narrow_1 [false, false, true, false, false, false, true, true] = some (Cond.eq (.elem (.field (q_stm 0) "java/lang/String" "value" "[B") (.int (Int32.ofNat 1))) (.int ((q_byt.getD 0 []).getD 1 0))) := rfl
set_option maxRecDepth 100000 in
theorem sx_el_0_2 : q_pa narrow_1 [false, false, true, false, false, true, false, false] = some (Cond.eq (.elem (.field (q_stm 0) "java/lang/String" "value" "[B") (.int (Int32.ofNat 2))) (.int ((q_byt.getD 0 []).getD 2 0))) := rfl
set_option maxRecDepth 100000 in
theorem sx_el_0_3 : q_pa narrow_1 [false, false, true, false, false, true, false, true] = some (Cond.eq (.elem (.field (q_stm 0) "java/lang/String" "value" "[B") (.int (Int32.ofNat 3))) (.int ((q_byt.getD 0 []).getD 3 0))) := rfl
set_option maxRecDepth 100000 in
theorem sx_el_0_4 : q_pa narrow_1 [false, false, true, false, false, true, true, false] = some (Cond.eq (.elem (.field (q_stm 0) "java/lang/String" "value" "[B") (.int (Int32.ofNat 4))) (.int ((q_byt.getD 0 []).getD 4 0))) := rfl
theorem sx_el_0 {args : Array Value} {s : State} (h : narrow_1.before args s = true) : ∀ j, j < q_len.getD 0 0 → (Cond.eq (.elem (.field (q_stm 0) "java/lang/String" "value" "[B") (.int (Int32.ofNat j))) (.int ((q_byt.getD 0 []).getD j 0))).before args s = true := by
  intro j hj
  have hj : j < 5 := hj
  match j, hj with
  | 0, _ => exact q_pa_ok _ _ _ h sx_el_0_0
  | 1, _ => exact q_pa_ok _ _ _ h sx_el_0_1
  | 2, _ => exact q_pa_ok _ _ _ h sx_el_0_2
  | 3, _ => exact q_pa_ok _ _ _ h sx_el_0_3
  | 4, _ => exact q_pa_ok _ _ _ h sx_el_0_4
set_option maxRecDepth 100000 in
theorem sx_el_1_0 : q_pa narrow_1 [false, false, true, false, true, false, true, true] = some (Cond.eq (.elem (.field (q_stm 1) "java/lang/String" "value" "[B") (.int (Int32.ofNat 0))) (.int ((q_byt.getD 1 []).getD 0 0))) := rfl
set_option maxRecDepth 100000 in
theorem sx_el_1_1 : q_pa narrow_1 [false, false, true, false, true, true, false, false] = some (Cond.eq (.elem (.field (q_stm 1) "java/lang/String" "value" "[B") (.int (Int32.ofNat 1))) (.int ((q_byt.getD 1 []).getD 1 0))) := rfl
set_option maxRecDepth 100000 in
theorem sx_el_1_2 : q_pa narrow_1 [false, false, true, false, true, true, false, true] = some (Cond.eq (.elem (.field (q_stm 1) "java/lang/String" "value" "[B") (.int (Int32.ofNat 2))) (.int ((q_byt.getD 1 []).getD 2 0))) := rfl
set_option maxRecDepth 100000 in
theorem sx_el_1_3 : q_pa narrow_1 [false, false, true, false, true, true, true, false] = some (Cond.eq (.elem (.field (q_stm 1) "java/lang/String" "value" "[B") (.int (Int32.ofNat 3))) (.int ((q_byt.getD 1 []).getD 3 0))) := rfl
set_option maxRecDepth 100000 in
theorem sx_el_1_4 : q_pa narrow_1 [false, false, true, false, true, true, true, true] = some (Cond.eq (.elem (.field (q_stm 1) "java/lang/String" "value" "[B") (.int (Int32.ofNat 4))) (.int ((q_byt.getD 1 []).getD 4 0))) := rfl
theorem sx_el_1 {args : Array Value} {s : State} (h : narrow_1.before args s = true) : ∀ j, j < q_len.getD 1 0 → (Cond.eq (.elem (.field (q_stm 1) "java/lang/String" "value" "[B") (.int (Int32.ofNat j))) (.int ((q_byt.getD 1 []).getD j 0))).before args s = true := by
  intro j hj
  have hj : j < 5 := hj
  match j, hj with
  | 0, _ => exact q_pa_ok _ _ _ h sx_el_1_0
  | 1, _ => exact q_pa_ok _ _ _ h sx_el_1_1
  | 2, _ => exact q_pa_ok _ _ _ h sx_el_1_2
  | 3, _ => exact q_pa_ok _ _ _ h sx_el_1_3
  | 4, _ => exact q_pa_ok _ _ _ h sx_el_1_4
set_option maxRecDepth 100000 in
theorem sx_el_2_0 : q_pa narrow_1 [false, false, true, true, false, true, false, true] = some (Cond.eq (.elem (.field (q_stm 2) "java/lang/String" "value" "[B") (.int (Int32.ofNat 0))) (.int ((q_byt.getD 2 []).getD 0 0))) := rfl
set_option maxRecDepth 100000 in
theorem sx_el_2_1 : q_pa narrow_1 [false, false, true, true, false, true, true, false] = some (Cond.eq (.elem (.field (q_stm 2) "java/lang/String" "value" "[B") (.int (Int32.ofNat 1))) (.int ((q_byt.getD 2 []).getD 1 0))) := rfl
set_option maxRecDepth 100000 in
theorem sx_el_2_2 : q_pa narrow_1 [false, false, true, true, false, true, true, true] = some (Cond.eq (.elem (.field (q_stm 2) "java/lang/String" "value" "[B") (.int (Int32.ofNat 2))) (.int ((q_byt.getD 2 []).getD 2 0))) := rfl
theorem sx_el_2 {args : Array Value} {s : State} (h : narrow_1.before args s = true) : ∀ j, j < q_len.getD 2 0 → (Cond.eq (.elem (.field (q_stm 2) "java/lang/String" "value" "[B") (.int (Int32.ofNat j))) (.int ((q_byt.getD 2 []).getD j 0))).before args s = true := by
  intro j hj
  have hj : j < 3 := hj
  match j, hj with
  | 0, _ => exact q_pa_ok _ _ _ h sx_el_2_0
  | 1, _ => exact q_pa_ok _ _ _ h sx_el_2_1
  | 2, _ => exact q_pa_ok _ _ _ h sx_el_2_2
set_option maxRecDepth 100000 in
theorem sx_el_3_0 : q_pa narrow_1 [false, false, true, true, true, true, true, false] = some (Cond.eq (.elem (.field (q_stm 3) "java/lang/String" "value" "[B") (.int (Int32.ofNat 0))) (.int ((q_byt.getD 3 []).getD 0 0))) := rfl
set_option maxRecDepth 100000 in
theorem sx_el_3_1 : q_pa narrow_1 [false, false, true, true, true, true, true, true] = some (Cond.eq (.elem (.field (q_stm 3) "java/lang/String" "value" "[B") (.int (Int32.ofNat 1))) (.int ((q_byt.getD 3 []).getD 1 0))) := rfl
set_option maxRecDepth 100000 in
theorem sx_el_3_2 : q_pa narrow_1 [false, true, false, false, false, false, false] = some (Cond.eq (.elem (.field (q_stm 3) "java/lang/String" "value" "[B") (.int (Int32.ofNat 2))) (.int ((q_byt.getD 3 []).getD 2 0))) := rfl
theorem sx_el_3 {args : Array Value} {s : State} (h : narrow_1.before args s = true) : ∀ j, j < q_len.getD 3 0 → (Cond.eq (.elem (.field (q_stm 3) "java/lang/String" "value" "[B") (.int (Int32.ofNat j))) (.int ((q_byt.getD 3 []).getD j 0))).before args s = true := by
  intro j hj
  have hj : j < 3 := hj
  match j, hj with
  | 0, _ => exact q_pa_ok _ _ _ h sx_el_3_0
  | 1, _ => exact q_pa_ok _ _ _ h sx_el_3_1
  | 2, _ => exact q_pa_ok _ _ _ h sx_el_3_2
set_option maxRecDepth 100000 in
theorem sx_el_4_0 : q_pa narrow_1 [false, true, false, false, true, false, false, true] = some (Cond.eq (.elem (.field (q_stm 4) "java/lang/String" "value" "[B") (.int (Int32.ofNat 0))) (.int ((q_byt.getD 4 []).getD 0 0))) := rfl
set_option maxRecDepth 100000 in
theorem sx_el_4_1 : q_pa narrow_1 [false, true, false, false, true, false, true, false] = some (Cond.eq (.elem (.field (q_stm 4) "java/lang/String" "value" "[B") (.int (Int32.ofNat 1))) (.int ((q_byt.getD 4 []).getD 1 0))) := rfl
set_option maxRecDepth 100000 in
theorem sx_el_4_2 : q_pa narrow_1 [false, true, false, false, true, false, true, true] = some (Cond.eq (.elem (.field (q_stm 4) "java/lang/String" "value" "[B") (.int (Int32.ofNat 2))) (.int ((q_byt.getD 4 []).getD 2 0))) := rfl
set_option maxRecDepth 100000 in
theorem sx_el_4_3 : q_pa narrow_1 [false, true, false, false, true, true, false, false] = some (Cond.eq (.elem (.field (q_stm 4) "java/lang/String" "value" "[B") (.int (Int32.ofNat 3))) (.int ((q_byt.getD 4 []).getD 3 0))) := rfl
set_option maxRecDepth 100000 in
theorem sx_el_4_4 : q_pa narrow_1 [false, true, false, false, true, true, false, true] = some (Cond.eq (.elem (.field (q_stm 4) "java/lang/String" "value" "[B") (.int (Int32.ofNat 4))) (.int ((q_byt.getD 4 []).getD 4 0))) := rfl
theorem sx_el_4 {args : Array Value} {s : State} (h : narrow_1.before args s = true) : ∀ j, j < q_len.getD 4 0 → (Cond.eq (.elem (.field (q_stm 4) "java/lang/String" "value" "[B") (.int (Int32.ofNat j))) (.int ((q_byt.getD 4 []).getD j 0))).before args s = true := by
  intro j hj
  have hj : j < 5 := hj
  match j, hj with
  | 0, _ => exact q_pa_ok _ _ _ h sx_el_4_0
  | 1, _ => exact q_pa_ok _ _ _ h sx_el_4_1
  | 2, _ => exact q_pa_ok _ _ _ h sx_el_4_2
  | 3, _ => exact q_pa_ok _ _ _ h sx_el_4_3
  | 4, _ => exact q_pa_ok _ _ _ h sx_el_4_4
set_option maxRecDepth 100000 in
theorem sx_el_5_0 : q_pa narrow_1 [false, true, false, true, false, true, true, true] = some (Cond.eq (.elem (.field (q_stm 5) "java/lang/String" "value" "[B") (.int (Int32.ofNat 0))) (.int ((q_byt.getD 5 []).getD 0 0))) := rfl
set_option maxRecDepth 100000 in
theorem sx_el_5_1 : q_pa narrow_1 [false, true, false, true, true, false, false, false] = some (Cond.eq (.elem (.field (q_stm 5) "java/lang/String" "value" "[B") (.int (Int32.ofNat 1))) (.int ((q_byt.getD 5 []).getD 1 0))) := rfl
set_option maxRecDepth 100000 in
theorem sx_el_5_2 : q_pa narrow_1 [false, true, false, true, true, false, false, true] = some (Cond.eq (.elem (.field (q_stm 5) "java/lang/String" "value" "[B") (.int (Int32.ofNat 2))) (.int ((q_byt.getD 5 []).getD 2 0))) := rfl
set_option maxRecDepth 100000 in
theorem sx_el_5_3 : q_pa narrow_1 [false, true, false, true, true, false, true, false] = some (Cond.eq (.elem (.field (q_stm 5) "java/lang/String" "value" "[B") (.int (Int32.ofNat 3))) (.int ((q_byt.getD 5 []).getD 3 0))) := rfl
set_option maxRecDepth 100000 in
theorem sx_el_5_4 : q_pa narrow_1 [false, true, false, true, true, false, true, true] = some (Cond.eq (.elem (.field (q_stm 5) "java/lang/String" "value" "[B") (.int (Int32.ofNat 4))) (.int ((q_byt.getD 5 []).getD 4 0))) := rfl
set_option maxRecDepth 100000 in
theorem sx_el_5_5 : q_pa narrow_1 [false, true, false, true, true, true, false, false] = some (Cond.eq (.elem (.field (q_stm 5) "java/lang/String" "value" "[B") (.int (Int32.ofNat 5))) (.int ((q_byt.getD 5 []).getD 5 0))) := rfl
theorem sx_el_5 {args : Array Value} {s : State} (h : narrow_1.before args s = true) : ∀ j, j < q_len.getD 5 0 → (Cond.eq (.elem (.field (q_stm 5) "java/lang/String" "value" "[B") (.int (Int32.ofNat j))) (.int ((q_byt.getD 5 []).getD j 0))).before args s = true := by
  intro j hj
  have hj : j < 6 := hj
  match j, hj with
  | 0, _ => exact q_pa_ok _ _ _ h sx_el_5_0
  | 1, _ => exact q_pa_ok _ _ _ h sx_el_5_1
  | 2, _ => exact q_pa_ok _ _ _ h sx_el_5_2
  | 3, _ => exact q_pa_ok _ _ _ h sx_el_5_3
  | 4, _ => exact q_pa_ok _ _ _ h sx_el_5_4
  | 5, _ => exact q_pa_ok _ _ _ h sx_el_5_5
set_option maxRecDepth 100000 in
theorem sx_el_6_0 : q_pa narrow_1 [false, true, true, false, false, true, true, true] = some (Cond.eq (.elem (.field (q_stm 6) "java/lang/String" "value" "[B") (.int (Int32.ofNat 0))) (.int ((q_byt.getD 6 []).getD 0 0))) := rfl
set_option maxRecDepth 100000 in
theorem sx_el_6_1 : q_pa narrow_1 [false, true, true, false, true, false, false, false] = some (Cond.eq (.elem (.field (q_stm 6) "java/lang/String" "value" "[B") (.int (Int32.ofNat 1))) (.int ((q_byt.getD 6 []).getD 1 0))) := rfl
set_option maxRecDepth 100000 in
theorem sx_el_6_2 : q_pa narrow_1 [false, true, true, false, true, false, false, true] = some (Cond.eq (.elem (.field (q_stm 6) "java/lang/String" "value" "[B") (.int (Int32.ofNat 2))) (.int ((q_byt.getD 6 []).getD 2 0))) := rfl
set_option maxRecDepth 100000 in
theorem sx_el_6_3 : q_pa narrow_1 [false, true, true, false, true, false, true, false] = some (Cond.eq (.elem (.field (q_stm 6) "java/lang/String" "value" "[B") (.int (Int32.ofNat 3))) (.int ((q_byt.getD 6 []).getD 3 0))) := rfl
set_option maxRecDepth 100000 in
theorem sx_el_6_4 : q_pa narrow_1 [false, true, true, false, true, false, true, true] = some (Cond.eq (.elem (.field (q_stm 6) "java/lang/String" "value" "[B") (.int (Int32.ofNat 4))) (.int ((q_byt.getD 6 []).getD 4 0))) := rfl
set_option maxRecDepth 100000 in
theorem sx_el_6_5 : q_pa narrow_1 [false, true, true, false, true, true, false, false] = some (Cond.eq (.elem (.field (q_stm 6) "java/lang/String" "value" "[B") (.int (Int32.ofNat 5))) (.int ((q_byt.getD 6 []).getD 5 0))) := rfl
theorem sx_el_6 {args : Array Value} {s : State} (h : narrow_1.before args s = true) : ∀ j, j < q_len.getD 6 0 → (Cond.eq (.elem (.field (q_stm 6) "java/lang/String" "value" "[B") (.int (Int32.ofNat j))) (.int ((q_byt.getD 6 []).getD j 0))).before args s = true := by
  intro j hj
  have hj : j < 6 := hj
  match j, hj with
  | 0, _ => exact q_pa_ok _ _ _ h sx_el_6_0
  | 1, _ => exact q_pa_ok _ _ _ h sx_el_6_1
  | 2, _ => exact q_pa_ok _ _ _ h sx_el_6_2
  | 3, _ => exact q_pa_ok _ _ _ h sx_el_6_3
  | 4, _ => exact q_pa_ok _ _ _ h sx_el_6_4
  | 5, _ => exact q_pa_ok _ _ _ h sx_el_6_5
set_option maxRecDepth 100000 in
theorem sx_el_7_0 : q_pa narrow_1 [false, true, true, true, false, true, true, true] = some (Cond.eq (.elem (.field (q_stm 7) "java/lang/String" "value" "[B") (.int (Int32.ofNat 0))) (.int ((q_byt.getD 7 []).getD 0 0))) := rfl
set_option maxRecDepth 100000 in
theorem sx_el_7_1 : q_pa narrow_1 [false, true, true, true, true, false, false, false] = some (Cond.eq (.elem (.field (q_stm 7) "java/lang/String" "value" "[B") (.int (Int32.ofNat 1))) (.int ((q_byt.getD 7 []).getD 1 0))) := rfl
set_option maxRecDepth 100000 in
theorem sx_el_7_2 : q_pa narrow_1 [false, true, true, true, true, false, false, true] = some (Cond.eq (.elem (.field (q_stm 7) "java/lang/String" "value" "[B") (.int (Int32.ofNat 2))) (.int ((q_byt.getD 7 []).getD 2 0))) := rfl
set_option maxRecDepth 100000 in
theorem sx_el_7_3 : q_pa narrow_1 [false, true, true, true, true, false, true, false] = some (Cond.eq (.elem (.field (q_stm 7) "java/lang/String" "value" "[B") (.int (Int32.ofNat 3))) (.int ((q_byt.getD 7 []).getD 3 0))) := rfl
set_option maxRecDepth 100000 in
theorem sx_el_7_4 : q_pa narrow_1 [false, true, true, true, true, false, true, true] = some (Cond.eq (.elem (.field (q_stm 7) "java/lang/String" "value" "[B") (.int (Int32.ofNat 4))) (.int ((q_byt.getD 7 []).getD 4 0))) := rfl
set_option maxRecDepth 100000 in
theorem sx_el_7_5 : q_pa narrow_1 [false, true, true, true, true, true, false, false] = some (Cond.eq (.elem (.field (q_stm 7) "java/lang/String" "value" "[B") (.int (Int32.ofNat 5))) (.int ((q_byt.getD 7 []).getD 5 0))) := rfl
theorem sx_el_7 {args : Array Value} {s : State} (h : narrow_1.before args s = true) : ∀ j, j < q_len.getD 7 0 → (Cond.eq (.elem (.field (q_stm 7) "java/lang/String" "value" "[B") (.int (Int32.ofNat j))) (.int ((q_byt.getD 7 []).getD j 0))).before args s = true := by
  intro j hj
  have hj : j < 6 := hj
  match j, hj with
  | 0, _ => exact q_pa_ok _ _ _ h sx_el_7_0
  | 1, _ => exact q_pa_ok _ _ _ h sx_el_7_1
  | 2, _ => exact q_pa_ok _ _ _ h sx_el_7_2
  | 3, _ => exact q_pa_ok _ _ _ h sx_el_7_3
  | 4, _ => exact q_pa_ok _ _ _ h sx_el_7_4
  | 5, _ => exact q_pa_ok _ _ _ h sx_el_7_5
set_option maxRecDepth 100000 in
theorem sx_el_8_0 : q_pa narrow_1 [true, false, false, false, true, false, false, true] = some (Cond.eq (.elem (.field (q_stm 8) "java/lang/String" "value" "[B") (.int (Int32.ofNat 0))) (.int ((q_byt.getD 8 []).getD 0 0))) := rfl
set_option maxRecDepth 100000 in
theorem sx_el_8_1 : q_pa narrow_1 [true, false, false, false, true, false, true, false] = some (Cond.eq (.elem (.field (q_stm 8) "java/lang/String" "value" "[B") (.int (Int32.ofNat 1))) (.int ((q_byt.getD 8 []).getD 1 0))) := rfl
set_option maxRecDepth 100000 in
theorem sx_el_8_2 : q_pa narrow_1 [true, false, false, false, true, false, true, true] = some (Cond.eq (.elem (.field (q_stm 8) "java/lang/String" "value" "[B") (.int (Int32.ofNat 2))) (.int ((q_byt.getD 8 []).getD 2 0))) := rfl
set_option maxRecDepth 100000 in
theorem sx_el_8_3 : q_pa narrow_1 [true, false, false, false, true, true, false, false] = some (Cond.eq (.elem (.field (q_stm 8) "java/lang/String" "value" "[B") (.int (Int32.ofNat 3))) (.int ((q_byt.getD 8 []).getD 3 0))) := rfl
set_option maxRecDepth 100000 in
theorem sx_el_8_4 : q_pa narrow_1 [true, false, false, false, true, true, false, true] = some (Cond.eq (.elem (.field (q_stm 8) "java/lang/String" "value" "[B") (.int (Int32.ofNat 4))) (.int ((q_byt.getD 8 []).getD 4 0))) := rfl
set_option maxRecDepth 100000 in
theorem sx_el_8_5 : q_pa narrow_1 [true, false, false, false, true, true, true, false] = some (Cond.eq (.elem (.field (q_stm 8) "java/lang/String" "value" "[B") (.int (Int32.ofNat 5))) (.int ((q_byt.getD 8 []).getD 5 0))) := rfl
theorem sx_el_8 {args : Array Value} {s : State} (h : narrow_1.before args s = true) : ∀ j, j < q_len.getD 8 0 → (Cond.eq (.elem (.field (q_stm 8) "java/lang/String" "value" "[B") (.int (Int32.ofNat j))) (.int ((q_byt.getD 8 []).getD j 0))).before args s = true := by
  intro j hj
  have hj : j < 6 := hj
  match j, hj with
  | 0, _ => exact q_pa_ok _ _ _ h sx_el_8_0
  | 1, _ => exact q_pa_ok _ _ _ h sx_el_8_1
  | 2, _ => exact q_pa_ok _ _ _ h sx_el_8_2
  | 3, _ => exact q_pa_ok _ _ _ h sx_el_8_3
  | 4, _ => exact q_pa_ok _ _ _ h sx_el_8_4
  | 5, _ => exact q_pa_ok _ _ _ h sx_el_8_5
set_option maxRecDepth 100000 in
theorem sx_el_9_0 : q_pa narrow_1 [true, false, false, true, true, true, false, false] = some (Cond.eq (.elem (.field (q_stm 9) "java/lang/String" "value" "[B") (.int (Int32.ofNat 0))) (.int ((q_byt.getD 9 []).getD 0 0))) := rfl
set_option maxRecDepth 100000 in
theorem sx_el_9_1 : q_pa narrow_1 [true, false, false, true, true, true, false, true] = some (Cond.eq (.elem (.field (q_stm 9) "java/lang/String" "value" "[B") (.int (Int32.ofNat 1))) (.int ((q_byt.getD 9 []).getD 1 0))) := rfl
set_option maxRecDepth 100000 in
theorem sx_el_9_2 : q_pa narrow_1 [true, false, false, true, true, true, true, false] = some (Cond.eq (.elem (.field (q_stm 9) "java/lang/String" "value" "[B") (.int (Int32.ofNat 2))) (.int ((q_byt.getD 9 []).getD 2 0))) := rfl
set_option maxRecDepth 100000 in
theorem sx_el_9_3 : q_pa narrow_1 [true, false, false, true, true, true, true, true] = some (Cond.eq (.elem (.field (q_stm 9) "java/lang/String" "value" "[B") (.int (Int32.ofNat 3))) (.int ((q_byt.getD 9 []).getD 3 0))) := rfl
set_option maxRecDepth 100000 in
theorem sx_el_9_4 : q_pa narrow_1 [true, false, true, false, false, false, false] = some (Cond.eq (.elem (.field (q_stm 9) "java/lang/String" "value" "[B") (.int (Int32.ofNat 4))) (.int ((q_byt.getD 9 []).getD 4 0))) := rfl
theorem sx_el_9 {args : Array Value} {s : State} (h : narrow_1.before args s = true) : ∀ j, j < q_len.getD 9 0 → (Cond.eq (.elem (.field (q_stm 9) "java/lang/String" "value" "[B") (.int (Int32.ofNat j))) (.int ((q_byt.getD 9 []).getD j 0))).before args s = true := by
  intro j hj
  have hj : j < 5 := hj
  match j, hj with
  | 0, _ => exact q_pa_ok _ _ _ h sx_el_9_0
  | 1, _ => exact q_pa_ok _ _ _ h sx_el_9_1
  | 2, _ => exact q_pa_ok _ _ _ h sx_el_9_2
  | 3, _ => exact q_pa_ok _ _ _ h sx_el_9_3
  | 4, _ => exact q_pa_ok _ _ _ h sx_el_9_4
set_option maxRecDepth 100000 in
theorem sx_el_10_0 : q_pa narrow_1 [true, false, true, false, true, true, true, true] = some (Cond.eq (.elem (.field (q_stm 10) "java/lang/String" "value" "[B") (.int (Int32.ofNat 0))) (.int ((q_byt.getD 10 []).getD 0 0))) := rfl
set_option maxRecDepth 100000 in
theorem sx_el_10_1 : q_pa narrow_1 [true, false, true, true, false, false, false, false] = some (Cond.eq (.elem (.field (q_stm 10) "java/lang/String" "value" "[B") (.int (Int32.ofNat 1))) (.int ((q_byt.getD 10 []).getD 1 0))) := rfl
set_option maxRecDepth 100000 in
theorem sx_el_10_2 : q_pa narrow_1 [true, false, true, true, false, false, false, true] = some (Cond.eq (.elem (.field (q_stm 10) "java/lang/String" "value" "[B") (.int (Int32.ofNat 2))) (.int ((q_byt.getD 10 []).getD 2 0))) := rfl
set_option maxRecDepth 100000 in
theorem sx_el_10_3 : q_pa narrow_1 [true, false, true, true, false, false, true, false] = some (Cond.eq (.elem (.field (q_stm 10) "java/lang/String" "value" "[B") (.int (Int32.ofNat 3))) (.int ((q_byt.getD 10 []).getD 3 0))) := rfl
set_option maxRecDepth 100000 in
theorem sx_el_10_4 : q_pa narrow_1 [true, false, true, true, false, false, true, true] = some (Cond.eq (.elem (.field (q_stm 10) "java/lang/String" "value" "[B") (.int (Int32.ofNat 4))) (.int ((q_byt.getD 10 []).getD 4 0))) := rfl
theorem sx_el_10 {args : Array Value} {s : State} (h : narrow_1.before args s = true) : ∀ j, j < q_len.getD 10 0 → (Cond.eq (.elem (.field (q_stm 10) "java/lang/String" "value" "[B") (.int (Int32.ofNat j))) (.int ((q_byt.getD 10 []).getD j 0))).before args s = true := by
  intro j hj
  have hj : j < 5 := hj
  match j, hj with
  | 0, _ => exact q_pa_ok _ _ _ h sx_el_10_0
  | 1, _ => exact q_pa_ok _ _ _ h sx_el_10_1
  | 2, _ => exact q_pa_ok _ _ _ h sx_el_10_2
  | 3, _ => exact q_pa_ok _ _ _ h sx_el_10_3
  | 4, _ => exact q_pa_ok _ _ _ h sx_el_10_4
set_option maxRecDepth 100000 in
theorem sx_el_11_0 : q_pa narrow_1 [true, true, false, false, false, false, true, true] = some (Cond.eq (.elem (.field (q_stm 11) "java/lang/String" "value" "[B") (.int (Int32.ofNat 0))) (.int ((q_byt.getD 11 []).getD 0 0))) := rfl
set_option maxRecDepth 100000 in
theorem sx_el_11_1 : q_pa narrow_1 [true, true, false, false, false, true, false, false] = some (Cond.eq (.elem (.field (q_stm 11) "java/lang/String" "value" "[B") (.int (Int32.ofNat 1))) (.int ((q_byt.getD 11 []).getD 1 0))) := rfl
set_option maxRecDepth 100000 in
theorem sx_el_11_2 : q_pa narrow_1 [true, true, false, false, false, true, false, true] = some (Cond.eq (.elem (.field (q_stm 11) "java/lang/String" "value" "[B") (.int (Int32.ofNat 2))) (.int ((q_byt.getD 11 []).getD 2 0))) := rfl
set_option maxRecDepth 100000 in
theorem sx_el_11_3 : q_pa narrow_1 [true, true, false, false, false, true, true, false] = some (Cond.eq (.elem (.field (q_stm 11) "java/lang/String" "value" "[B") (.int (Int32.ofNat 3))) (.int ((q_byt.getD 11 []).getD 3 0))) := rfl
set_option maxRecDepth 100000 in
theorem sx_el_11_4 : q_pa narrow_1 [true, true, false, false, false, true, true, true] = some (Cond.eq (.elem (.field (q_stm 11) "java/lang/String" "value" "[B") (.int (Int32.ofNat 4))) (.int ((q_byt.getD 11 []).getD 4 0))) := rfl
set_option maxRecDepth 100000 in
theorem sx_el_11_5 : q_pa narrow_1 [true, true, false, false, true, false, false, false] = some (Cond.eq (.elem (.field (q_stm 11) "java/lang/String" "value" "[B") (.int (Int32.ofNat 5))) (.int ((q_byt.getD 11 []).getD 5 0))) := rfl
theorem sx_el_11 {args : Array Value} {s : State} (h : narrow_1.before args s = true) : ∀ j, j < q_len.getD 11 0 → (Cond.eq (.elem (.field (q_stm 11) "java/lang/String" "value" "[B") (.int (Int32.ofNat j))) (.int ((q_byt.getD 11 []).getD j 0))).before args s = true := by
  intro j hj
  have hj : j < 6 := hj
  match j, hj with
  | 0, _ => exact q_pa_ok _ _ _ h sx_el_11_0
  | 1, _ => exact q_pa_ok _ _ _ h sx_el_11_1
  | 2, _ => exact q_pa_ok _ _ _ h sx_el_11_2
  | 3, _ => exact q_pa_ok _ _ _ h sx_el_11_3
  | 4, _ => exact q_pa_ok _ _ _ h sx_el_11_4
  | 5, _ => exact q_pa_ok _ _ _ h sx_el_11_5
set_option maxRecDepth 100000 in
theorem sx_el_12_0 : q_pa narrow_1 [true, true, false, true, true, false, false, false] = some (Cond.eq (.elem (.field (q_stm 12) "java/lang/String" "value" "[B") (.int (Int32.ofNat 0))) (.int ((q_byt.getD 12 []).getD 0 0))) := rfl
set_option maxRecDepth 100000 in
theorem sx_el_12_1 : q_pa narrow_1 [true, true, false, true, true, false, false, true] = some (Cond.eq (.elem (.field (q_stm 12) "java/lang/String" "value" "[B") (.int (Int32.ofNat 1))) (.int ((q_byt.getD 12 []).getD 1 0))) := rfl
set_option maxRecDepth 100000 in
theorem sx_el_12_2 : q_pa narrow_1 [true, true, false, true, true, false, true, false] = some (Cond.eq (.elem (.field (q_stm 12) "java/lang/String" "value" "[B") (.int (Int32.ofNat 2))) (.int ((q_byt.getD 12 []).getD 2 0))) := rfl
set_option maxRecDepth 100000 in
theorem sx_el_12_3 : q_pa narrow_1 [true, true, false, true, true, false, true, true] = some (Cond.eq (.elem (.field (q_stm 12) "java/lang/String" "value" "[B") (.int (Int32.ofNat 3))) (.int ((q_byt.getD 12 []).getD 3 0))) := rfl
theorem sx_el_12 {args : Array Value} {s : State} (h : narrow_1.before args s = true) : ∀ j, j < q_len.getD 12 0 → (Cond.eq (.elem (.field (q_stm 12) "java/lang/String" "value" "[B") (.int (Int32.ofNat j))) (.int ((q_byt.getD 12 []).getD j 0))).before args s = true := by
  intro j hj
  have hj : j < 4 := hj
  match j, hj with
  | 0, _ => exact q_pa_ok _ _ _ h sx_el_12_0
  | 1, _ => exact q_pa_ok _ _ _ h sx_el_12_1
  | 2, _ => exact q_pa_ok _ _ _ h sx_el_12_2
  | 3, _ => exact q_pa_ok _ _ _ h sx_el_12_3
set_option maxRecDepth 100000 in
theorem sx_el_13_0 : q_pa narrow_1 [true, true, true, false, true, true, false, true] = some (Cond.eq (.elem (.field (q_stm 13) "java/lang/String" "value" "[B") (.int (Int32.ofNat 0))) (.int ((q_byt.getD 13 []).getD 0 0))) := rfl
set_option maxRecDepth 100000 in
theorem sx_el_13_1 : q_pa narrow_1 [true, true, true, false, true, true, true, false] = some (Cond.eq (.elem (.field (q_stm 13) "java/lang/String" "value" "[B") (.int (Int32.ofNat 1))) (.int ((q_byt.getD 13 []).getD 1 0))) := rfl
set_option maxRecDepth 100000 in
theorem sx_el_13_2 : q_pa narrow_1 [true, true, true, false, true, true, true, true] = some (Cond.eq (.elem (.field (q_stm 13) "java/lang/String" "value" "[B") (.int (Int32.ofNat 2))) (.int ((q_byt.getD 13 []).getD 2 0))) := rfl
set_option maxRecDepth 100000 in
theorem sx_el_13_3 : q_pa narrow_1 [true, true, true, true, false, false, false, false] = some (Cond.eq (.elem (.field (q_stm 13) "java/lang/String" "value" "[B") (.int (Int32.ofNat 3))) (.int ((q_byt.getD 13 []).getD 3 0))) := rfl
set_option maxRecDepth 100000 in
theorem sx_el_13_4 : q_pa narrow_1 [true, true, true, true, false, false, false, true] = some (Cond.eq (.elem (.field (q_stm 13) "java/lang/String" "value" "[B") (.int (Int32.ofNat 4))) (.int ((q_byt.getD 13 []).getD 4 0))) := rfl
set_option maxRecDepth 100000 in
theorem sx_el_13_5 : q_pa narrow_1 [true, true, true, true, false, false, true, false] = some (Cond.eq (.elem (.field (q_stm 13) "java/lang/String" "value" "[B") (.int (Int32.ofNat 5))) (.int ((q_byt.getD 13 []).getD 5 0))) := rfl
theorem sx_el_13 {args : Array Value} {s : State} (h : narrow_1.before args s = true) : ∀ j, j < q_len.getD 13 0 → (Cond.eq (.elem (.field (q_stm 13) "java/lang/String" "value" "[B") (.int (Int32.ofNat j))) (.int ((q_byt.getD 13 []).getD j 0))).before args s = true := by
  intro j hj
  have hj : j < 6 := hj
  match j, hj with
  | 0, _ => exact q_pa_ok _ _ _ h sx_el_13_0
  | 1, _ => exact q_pa_ok _ _ _ h sx_el_13_1
  | 2, _ => exact q_pa_ok _ _ _ h sx_el_13_2
  | 3, _ => exact q_pa_ok _ _ _ h sx_el_13_3
  | 4, _ => exact q_pa_ok _ _ _ h sx_el_13_4
  | 5, _ => exact q_pa_ok _ _ _ h sx_el_13_5
theorem sx_el {args : Array Value} {s : State} (h : narrow_1.before args s = true) : ∀ i : Nat, i < 14 → ∀ j : Nat, j < q_len.getD i 0 → (Cond.eq (.elem (.field (q_stm i) "java/lang/String" "value" "[B") (.int (Int32.ofNat j))) (.int ((q_byt.getD i []).getD j 0))).before args s = true := q_i14 (P := fun i => ∀ j : Nat, j < q_len.getD i 0 → (Cond.eq (.elem (.field (q_stm i) "java/lang/String" "value" "[B") (.int (Int32.ofNat j))) (.int ((q_byt.getD i []).getD j 0))).before args s = true) (sx_el_0 h) (sx_el_1 h) (sx_el_2 h) (sx_el_3 h) (sx_el_4 h) (sx_el_5 h) (sx_el_6 h) (sx_el_7 h) (sx_el_8 h) (sx_el_9 h) (sx_el_10 h) (sx_el_11 h) (sx_el_12 h) (sx_el_13 h)
set_option maxRecDepth 100000 in
theorem sx_ne_0_1 : q_pa narrow_1 [false, false, true, true, false, false, false, false] = some (Cond.not (Cond.eq (q_stm 0) (q_stm 1))) := rfl
set_option maxRecDepth 100000 in
theorem sx_ne_0_2 : q_pa narrow_1 [false, false, true, true, true, false, false, false] = some (Cond.not (Cond.eq (q_stm 0) (q_stm 2))) := rfl
set_option maxRecDepth 100000 in
theorem sx_ne_0_3 : q_pa narrow_1 [false, true, false, false, false, false, true, false] = some (Cond.not (Cond.eq (q_stm 0) (q_stm 3))) := rfl
set_option maxRecDepth 100000 in
theorem sx_ne_0_4 : q_pa narrow_1 [false, true, false, false, true, true, true, false] = some (Cond.not (Cond.eq (q_stm 0) (q_stm 4))) := rfl
set_option maxRecDepth 100000 in
theorem sx_ne_0_5 : q_pa narrow_1 [false, true, false, true, true, true, false, true] = some (Cond.not (Cond.eq (q_stm 0) (q_stm 5))) := rfl
set_option maxRecDepth 100000 in
theorem sx_ne_0_6 : q_pa narrow_1 [false, true, true, false, true, true, false, true] = some (Cond.not (Cond.eq (q_stm 0) (q_stm 6))) := rfl
set_option maxRecDepth 100000 in
theorem sx_ne_0_7 : q_pa narrow_1 [false, true, true, true, true, true, false, true] = some (Cond.not (Cond.eq (q_stm 0) (q_stm 7))) := rfl
set_option maxRecDepth 100000 in
theorem sx_ne_0_8 : q_pa narrow_1 [true, false, false, false, true, true, true, true] = some (Cond.not (Cond.eq (q_stm 0) (q_stm 8))) := rfl
set_option maxRecDepth 100000 in
theorem sx_ne_0_9 : q_pa narrow_1 [true, false, true, false, false, false, true, false] = some (Cond.not (Cond.eq (q_stm 0) (q_stm 9))) := rfl
set_option maxRecDepth 100000 in
theorem sx_ne_0_10 : q_pa narrow_1 [true, false, true, true, false, true, false, false] = some (Cond.not (Cond.eq (q_stm 0) (q_stm 10))) := rfl
set_option maxRecDepth 100000 in
theorem sx_ne_0_11 : q_pa narrow_1 [true, true, false, false, true, false, false, true] = some (Cond.not (Cond.eq (q_stm 0) (q_stm 11))) := rfl
set_option maxRecDepth 100000 in
theorem sx_ne_0_12 : q_pa narrow_1 [true, true, false, true, true, true, false, false] = some (Cond.not (Cond.eq (q_stm 0) (q_stm 12))) := rfl
set_option maxRecDepth 100000 in
theorem sx_ne_0_13 : q_pa narrow_1 [true, true, true, true, false, false, true, true] = some (Cond.not (Cond.eq (q_stm 0) (q_stm 13))) := rfl
set_option maxRecDepth 100000 in
theorem sx_ne_1_2 : q_pa narrow_1 [false, false, true, true, true, false, false, true] = some (Cond.not (Cond.eq (q_stm 1) (q_stm 2))) := rfl
set_option maxRecDepth 100000 in
theorem sx_ne_1_3 : q_pa narrow_1 [false, true, false, false, false, false, true, true] = some (Cond.not (Cond.eq (q_stm 1) (q_stm 3))) := rfl
set_option maxRecDepth 100000 in
theorem sx_ne_1_4 : q_pa narrow_1 [false, true, false, false, true, true, true, true] = some (Cond.not (Cond.eq (q_stm 1) (q_stm 4))) := rfl
set_option maxRecDepth 100000 in
theorem sx_ne_1_5 : q_pa narrow_1 [false, true, false, true, true, true, true, false] = some (Cond.not (Cond.eq (q_stm 1) (q_stm 5))) := rfl
set_option maxRecDepth 100000 in
theorem sx_ne_1_6 : q_pa narrow_1 [false, true, true, false, true, true, true, false] = some (Cond.not (Cond.eq (q_stm 1) (q_stm 6))) := rfl
set_option maxRecDepth 100000 in
theorem sx_ne_1_7 : q_pa narrow_1 [false, true, true, true, true, true, true, false] = some (Cond.not (Cond.eq (q_stm 1) (q_stm 7))) := rfl
set_option maxRecDepth 100000 in
theorem sx_ne_1_8 : q_pa narrow_1 [true, false, false, true, false, false, false] = some (Cond.not (Cond.eq (q_stm 1) (q_stm 8))) := rfl
set_option maxRecDepth 100000 in
theorem sx_ne_1_9 : q_pa narrow_1 [true, false, true, false, false, false, true, true] = some (Cond.not (Cond.eq (q_stm 1) (q_stm 9))) := rfl
set_option maxRecDepth 100000 in
theorem sx_ne_1_10 : q_pa narrow_1 [true, false, true, true, false, true, false, true] = some (Cond.not (Cond.eq (q_stm 1) (q_stm 10))) := rfl
set_option maxRecDepth 100000 in
theorem sx_ne_1_11 : q_pa narrow_1 [true, true, false, false, true, false, true, false] = some (Cond.not (Cond.eq (q_stm 1) (q_stm 11))) := rfl
set_option maxRecDepth 100000 in
theorem sx_ne_1_12 : q_pa narrow_1 [true, true, false, true, true, true, false, true] = some (Cond.not (Cond.eq (q_stm 1) (q_stm 12))) := rfl
set_option maxRecDepth 100000 in
theorem sx_ne_1_13 : q_pa narrow_1 [true, true, true, true, false, true, false, false] = some (Cond.not (Cond.eq (q_stm 1) (q_stm 13))) := rfl
set_option maxRecDepth 100000 in
theorem sx_ne_2_3 : q_pa narrow_1 [false, true, false, false, false, true, false, false] = some (Cond.not (Cond.eq (q_stm 2) (q_stm 3))) := rfl
set_option maxRecDepth 100000 in
theorem sx_ne_2_4 : q_pa narrow_1 [false, true, false, true, false, false, false] = some (Cond.not (Cond.eq (q_stm 2) (q_stm 4))) := rfl
set_option maxRecDepth 100000 in
theorem sx_ne_2_5 : q_pa narrow_1 [false, true, false, true, true, true, true, true] = some (Cond.not (Cond.eq (q_stm 2) (q_stm 5))) := rfl
set_option maxRecDepth 100000 in
theorem sx_ne_2_6 : q_pa narrow_1 [false, true, true, false, true, true, true, true] = some (Cond.not (Cond.eq (q_stm 2) (q_stm 6))) := rfl
set_option maxRecDepth 100000 in
theorem sx_ne_2_7 : q_pa narrow_1 [false, true, true, true, true, true, true, true] = some (Cond.not (Cond.eq (q_stm 2) (q_stm 7))) := rfl
set_option maxRecDepth 100000 in
theorem sx_ne_2_8 : q_pa narrow_1 [true, false, false, true, false, false, true, false] = some (Cond.not (Cond.eq (q_stm 2) (q_stm 8))) := rfl
set_option maxRecDepth 100000 in
theorem sx_ne_2_9 : q_pa narrow_1 [true, false, true, false, false, true, false, false] = some (Cond.not (Cond.eq (q_stm 2) (q_stm 9))) := rfl
set_option maxRecDepth 100000 in
theorem sx_ne_2_10 : q_pa narrow_1 [true, false, true, true, false, true, true, false] = some (Cond.not (Cond.eq (q_stm 2) (q_stm 10))) := rfl
set_option maxRecDepth 100000 in
theorem sx_ne_2_11 : q_pa narrow_1 [true, true, false, false, true, false, true, true] = some (Cond.not (Cond.eq (q_stm 2) (q_stm 11))) := rfl
set_option maxRecDepth 100000 in
theorem sx_ne_2_12 : q_pa narrow_1 [true, true, false, true, true, true, true, false] = some (Cond.not (Cond.eq (q_stm 2) (q_stm 12))) := rfl
set_option maxRecDepth 100000 in
theorem sx_ne_2_13 : q_pa narrow_1 [true, true, true, true, false, true, false, true] = some (Cond.not (Cond.eq (q_stm 2) (q_stm 13))) := rfl
set_option maxRecDepth 100000 in
theorem sx_ne_3_4 : q_pa narrow_1 [false, true, false, true, false, false, true, false] = some (Cond.not (Cond.eq (q_stm 3) (q_stm 4))) := rfl
set_option maxRecDepth 100000 in
theorem sx_ne_3_5 : q_pa narrow_1 [false, true, true, false, false, false, false] = some (Cond.not (Cond.eq (q_stm 3) (q_stm 5))) := rfl
set_option maxRecDepth 100000 in
theorem sx_ne_3_6 : q_pa narrow_1 [false, true, true, true, false, false, false, false] = some (Cond.not (Cond.eq (q_stm 3) (q_stm 6))) := rfl
set_option maxRecDepth 100000 in
theorem sx_ne_3_7 : q_pa narrow_1 [true, false, false, false, false, false, false] = some (Cond.not (Cond.eq (q_stm 3) (q_stm 7))) := rfl
set_option maxRecDepth 100000 in
theorem sx_ne_3_8 : q_pa narrow_1 [true, false, false, true, false, false, true, true] = some (Cond.not (Cond.eq (q_stm 3) (q_stm 8))) := rfl
set_option maxRecDepth 100000 in
theorem sx_ne_3_9 : q_pa narrow_1 [true, false, true, false, false, true, false, true] = some (Cond.not (Cond.eq (q_stm 3) (q_stm 9))) := rfl
set_option maxRecDepth 100000 in
theorem sx_ne_3_10 : q_pa narrow_1 [true, false, true, true, false, true, true, true] = some (Cond.not (Cond.eq (q_stm 3) (q_stm 10))) := rfl
set_option maxRecDepth 100000 in
theorem sx_ne_3_11 : q_pa narrow_1 [true, true, false, false, true, true, false, false] = some (Cond.not (Cond.eq (q_stm 3) (q_stm 11))) := rfl
set_option maxRecDepth 100000 in
theorem sx_ne_3_12 : q_pa narrow_1 [true, true, false, true, true, true, true, true] = some (Cond.not (Cond.eq (q_stm 3) (q_stm 12))) := rfl
set_option maxRecDepth 100000 in
theorem sx_ne_3_13 : q_pa narrow_1 [true, true, true, true, false, true, true, false] = some (Cond.not (Cond.eq (q_stm 3) (q_stm 13))) := rfl
set_option maxRecDepth 100000 in
theorem sx_ne_4_5 : q_pa narrow_1 [false, true, true, false, false, false, true, false] = some (Cond.not (Cond.eq (q_stm 4) (q_stm 5))) := rfl
set_option maxRecDepth 100000 in
theorem sx_ne_4_6 : q_pa narrow_1 [false, true, true, true, false, false, false, true] = some (Cond.not (Cond.eq (q_stm 4) (q_stm 6))) := rfl
set_option maxRecDepth 100000 in
theorem sx_ne_4_7 : q_pa narrow_1 [true, false, false, false, false, false, true, false] = some (Cond.not (Cond.eq (q_stm 4) (q_stm 7))) := rfl
set_option maxRecDepth 100000 in
theorem sx_ne_4_8 : q_pa narrow_1 [true, false, false, true, false, true, false, false] = some (Cond.not (Cond.eq (q_stm 4) (q_stm 8))) := rfl
set_option maxRecDepth 100000 in
theorem sx_ne_4_9 : q_pa narrow_1 [true, false, true, false, false, true, true, false] = some (Cond.not (Cond.eq (q_stm 4) (q_stm 9))) := rfl
set_option maxRecDepth 100000 in
theorem sx_ne_4_10 : q_pa narrow_1 [true, false, true, true, true, false, false, false] = some (Cond.not (Cond.eq (q_stm 4) (q_stm 10))) := rfl
set_option maxRecDepth 100000 in
theorem sx_ne_4_11 : q_pa narrow_1 [true, true, false, false, true, true, false, true] = some (Cond.not (Cond.eq (q_stm 4) (q_stm 11))) := rfl
set_option maxRecDepth 100000 in
theorem sx_ne_4_12 : q_pa narrow_1 [true, true, true, false, false, false, false] = some (Cond.not (Cond.eq (q_stm 4) (q_stm 12))) := rfl
set_option maxRecDepth 100000 in
theorem sx_ne_4_13 : q_pa narrow_1 [true, true, true, true, false, true, true, true] = some (Cond.not (Cond.eq (q_stm 4) (q_stm 13))) := rfl
set_option maxRecDepth 100000 in
theorem sx_ne_5_6 : q_pa narrow_1 [false, true, true, true, false, false, true, false] = some (Cond.not (Cond.eq (q_stm 5) (q_stm 6))) := rfl
set_option maxRecDepth 100000 in
theorem sx_ne_5_7 : q_pa narrow_1 [true, false, false, false, false, false, true, true] = some (Cond.not (Cond.eq (q_stm 5) (q_stm 7))) := rfl
set_option maxRecDepth 100000 in
theorem sx_ne_5_8 : q_pa narrow_1 [true, false, false, true, false, true, false, true] = some (Cond.not (Cond.eq (q_stm 5) (q_stm 8))) := rfl
set_option maxRecDepth 100000 in
theorem sx_ne_5_9 : q_pa narrow_1 [true, false, true, false, false, true, true, true] = some (Cond.not (Cond.eq (q_stm 5) (q_stm 9))) := rfl
set_option maxRecDepth 100000 in
theorem sx_ne_5_10 : q_pa narrow_1 [true, false, true, true, true, false, false, true] = some (Cond.not (Cond.eq (q_stm 5) (q_stm 10))) := rfl
set_option maxRecDepth 100000 in
theorem sx_ne_5_11 : q_pa narrow_1 [true, true, false, false, true, true, true, false] = some (Cond.not (Cond.eq (q_stm 5) (q_stm 11))) := rfl
set_option maxRecDepth 100000 in
theorem sx_ne_5_12 : q_pa narrow_1 [true, true, true, false, false, false, true, false] = some (Cond.not (Cond.eq (q_stm 5) (q_stm 12))) := rfl
set_option maxRecDepth 100000 in
theorem sx_ne_5_13 : q_pa narrow_1 [true, true, true, true, true, false, false, false] = some (Cond.not (Cond.eq (q_stm 5) (q_stm 13))) := rfl
set_option maxRecDepth 100000 in
theorem sx_ne_6_7 : q_pa narrow_1 [true, false, false, false, false, true, false, false] = some (Cond.not (Cond.eq (q_stm 6) (q_stm 7))) := rfl
set_option maxRecDepth 100000 in
theorem sx_ne_6_8 : q_pa narrow_1 [true, false, false, true, false, true, true, false] = some (Cond.not (Cond.eq (q_stm 6) (q_stm 8))) := rfl
set_option maxRecDepth 100000 in
theorem sx_ne_6_9 : q_pa narrow_1 [true, false, true, false, true, false, false, false] = some (Cond.not (Cond.eq (q_stm 6) (q_stm 9))) := rfl
set_option maxRecDepth 100000 in
theorem sx_ne_6_10 : q_pa narrow_1 [true, false, true, true, true, false, true, false] = some (Cond.not (Cond.eq (q_stm 6) (q_stm 10))) := rfl
set_option maxRecDepth 100000 in
theorem sx_ne_6_11 : q_pa narrow_1 [true, true, false, false, true, true, true, true] = some (Cond.not (Cond.eq (q_stm 6) (q_stm 11))) := rfl
set_option maxRecDepth 100000 in
theorem sx_ne_6_12 : q_pa narrow_1 [true, true, true, false, false, false, true, true] = some (Cond.not (Cond.eq (q_stm 6) (q_stm 12))) := rfl
set_option maxRecDepth 100000 in
theorem sx_ne_6_13 : q_pa narrow_1 [true, true, true, true, true, false, false, true] = some (Cond.not (Cond.eq (q_stm 6) (q_stm 13))) := rfl
set_option maxRecDepth 100000 in
theorem sx_ne_7_8 : q_pa narrow_1 [true, false, false, true, false, true, true, true] = some (Cond.not (Cond.eq (q_stm 7) (q_stm 8))) := rfl
set_option maxRecDepth 100000 in
theorem sx_ne_7_9 : q_pa narrow_1 [true, false, true, false, true, false, false, true] = some (Cond.not (Cond.eq (q_stm 7) (q_stm 9))) := rfl
set_option maxRecDepth 100000 in
theorem sx_ne_7_10 : q_pa narrow_1 [true, false, true, true, true, false, true, true] = some (Cond.not (Cond.eq (q_stm 7) (q_stm 10))) := rfl
set_option maxRecDepth 100000 in
theorem sx_ne_7_11 : q_pa narrow_1 [true, true, false, true, false, false, false, false] = some (Cond.not (Cond.eq (q_stm 7) (q_stm 11))) := rfl
set_option maxRecDepth 100000 in
theorem sx_ne_7_12 : q_pa narrow_1 [true, true, true, false, false, true, false, false] = some (Cond.not (Cond.eq (q_stm 7) (q_stm 12))) := rfl
set_option maxRecDepth 100000 in
theorem sx_ne_7_13 : q_pa narrow_1 [true, true, true, true, true, false, true, false] = some (Cond.not (Cond.eq (q_stm 7) (q_stm 13))) := rfl
set_option maxRecDepth 100000 in
theorem sx_ne_8_9 : q_pa narrow_1 [true, false, true, false, true, false, true, false] = some (Cond.not (Cond.eq (q_stm 8) (q_stm 9))) := rfl
set_option maxRecDepth 100000 in
theorem sx_ne_8_10 : q_pa narrow_1 [true, false, true, true, true, true, false, false] = some (Cond.not (Cond.eq (q_stm 8) (q_stm 10))) := rfl
set_option maxRecDepth 100000 in
theorem sx_ne_8_11 : q_pa narrow_1 [true, true, false, true, false, false, false, true] = some (Cond.not (Cond.eq (q_stm 8) (q_stm 11))) := rfl
set_option maxRecDepth 100000 in
theorem sx_ne_8_12 : q_pa narrow_1 [true, true, true, false, false, true, false, true] = some (Cond.not (Cond.eq (q_stm 8) (q_stm 12))) := rfl
set_option maxRecDepth 100000 in
theorem sx_ne_8_13 : q_pa narrow_1 [true, true, true, true, true, false, true, true] = some (Cond.not (Cond.eq (q_stm 8) (q_stm 13))) := rfl
set_option maxRecDepth 100000 in
theorem sx_ne_9_10 : q_pa narrow_1 [true, false, true, true, true, true, false, true] = some (Cond.not (Cond.eq (q_stm 9) (q_stm 10))) := rfl
set_option maxRecDepth 100000 in
theorem sx_ne_9_11 : q_pa narrow_1 [true, true, false, true, false, false, true, false] = some (Cond.not (Cond.eq (q_stm 9) (q_stm 11))) := rfl
set_option maxRecDepth 100000 in
theorem sx_ne_9_12 : q_pa narrow_1 [true, true, true, false, false, true, true, false] = some (Cond.not (Cond.eq (q_stm 9) (q_stm 12))) := rfl
set_option maxRecDepth 100000 in
theorem sx_ne_9_13 : q_pa narrow_1 [true, true, true, true, true, true, false, false] = some (Cond.not (Cond.eq (q_stm 9) (q_stm 13))) := rfl
set_option maxRecDepth 100000 in
theorem sx_ne_10_11 : q_pa narrow_1 [true, true, false, true, false, false, true, true] = some (Cond.not (Cond.eq (q_stm 10) (q_stm 11))) := rfl
set_option maxRecDepth 100000 in
theorem sx_ne_10_12 : q_pa narrow_1 [true, true, true, false, false, true, true, true] = some (Cond.not (Cond.eq (q_stm 10) (q_stm 12))) := rfl
set_option maxRecDepth 100000 in
theorem sx_ne_10_13 : q_pa narrow_1 [true, true, true, true, true, true, false, true] = some (Cond.not (Cond.eq (q_stm 10) (q_stm 13))) := rfl
set_option maxRecDepth 100000 in
theorem sx_ne_11_12 : q_pa narrow_1 [true, true, true, false, true, false, false, false] = some (Cond.not (Cond.eq (q_stm 11) (q_stm 12))) := rfl
set_option maxRecDepth 100000 in
theorem sx_ne_11_13 : q_pa narrow_1 [true, true, true, true, true, true, true, false] = some (Cond.not (Cond.eq (q_stm 11) (q_stm 13))) := rfl
set_option maxRecDepth 100000 in
theorem sx_ne_12_13 : q_pa narrow_1 [true, true, true, true, true, true, true, true] = some (Cond.not (Cond.eq (q_stm 12) (q_stm 13))) := rfl
theorem sx_ne {args : Array Value} {s : State} (h : narrow_1.before args s = true) : ∀ i j : Nat, i < 14 → j < 14 → i ≠ j → (Cond.not (Cond.eq (q_stm i) (q_stm j))).before args s = true ∨ (Cond.not (Cond.eq (q_stm j) (q_stm i))).before args s = true := fun i j hi => q_i14 (P := fun i => ∀ j : Nat, j < 14 → i ≠ j → (Cond.not (Cond.eq (q_stm i) (q_stm j))).before args s = true ∨ (Cond.not (Cond.eq (q_stm j) (q_stm i))).before args s = true) (q_i14 (P := fun j => 0 ≠ j → (Cond.not (Cond.eq (q_stm 0) (q_stm j))).before args s = true ∨ (Cond.not (Cond.eq (q_stm j) (q_stm 0))).before args s = true) (fun z => absurd rfl z) (fun _ => Or.inl (q_pa_ok _ _ _ h sx_ne_0_1)) (fun _ => Or.inl (q_pa_ok _ _ _ h sx_ne_0_2)) (fun _ => Or.inl (q_pa_ok _ _ _ h sx_ne_0_3)) (fun _ => Or.inl (q_pa_ok _ _ _ h sx_ne_0_4)) (fun _ => Or.inl (q_pa_ok _ _ _ h sx_ne_0_5)) (fun _ => Or.inl (q_pa_ok _ _ _ h sx_ne_0_6)) (fun _ => Or.inl (q_pa_ok _ _ _ h sx_ne_0_7)) (fun _ => Or.inl (q_pa_ok _ _ _ h sx_ne_0_8)) (fun _ => Or.inl (q_pa_ok _ _ _ h sx_ne_0_9)) (fun _ => Or.inl (q_pa_ok _ _ _ h sx_ne_0_10)) (fun _ => Or.inl (q_pa_ok _ _ _ h sx_ne_0_11)) (fun _ => Or.inl (q_pa_ok _ _ _ h sx_ne_0_12)) (fun _ => Or.inl (q_pa_ok _ _ _ h sx_ne_0_13))) (q_i14 (P := fun j => 1 ≠ j → (Cond.not (Cond.eq (q_stm 1) (q_stm j))).before args s = true ∨ (Cond.not (Cond.eq (q_stm j) (q_stm 1))).before args s = true) (fun _ => Or.inr (q_pa_ok _ _ _ h sx_ne_0_1)) (fun z => absurd rfl z) (fun _ => Or.inl (q_pa_ok _ _ _ h sx_ne_1_2)) (fun _ => Or.inl (q_pa_ok _ _ _ h sx_ne_1_3)) (fun _ => Or.inl (q_pa_ok _ _ _ h sx_ne_1_4)) (fun _ => Or.inl (q_pa_ok _ _ _ h sx_ne_1_5)) (fun _ => Or.inl (q_pa_ok _ _ _ h sx_ne_1_6)) (fun _ => Or.inl (q_pa_ok _ _ _ h sx_ne_1_7)) (fun _ => Or.inl (q_pa_ok _ _ _ h sx_ne_1_8)) (fun _ => Or.inl (q_pa_ok _ _ _ h sx_ne_1_9)) (fun _ => Or.inl (q_pa_ok _ _ _ h sx_ne_1_10)) (fun _ => Or.inl (q_pa_ok _ _ _ h sx_ne_1_11)) (fun _ => Or.inl (q_pa_ok _ _ _ h sx_ne_1_12)) (fun _ => Or.inl (q_pa_ok _ _ _ h sx_ne_1_13))) (q_i14 (P := fun j => 2 ≠ j → (Cond.not (Cond.eq (q_stm 2) (q_stm j))).before args s = true ∨ (Cond.not (Cond.eq (q_stm j) (q_stm 2))).before args s = true) (fun _ => Or.inr (q_pa_ok _ _ _ h sx_ne_0_2)) (fun _ => Or.inr (q_pa_ok _ _ _ h sx_ne_1_2)) (fun z => absurd rfl z) (fun _ => Or.inl (q_pa_ok _ _ _ h sx_ne_2_3)) (fun _ => Or.inl (q_pa_ok _ _ _ h sx_ne_2_4)) (fun _ => Or.inl (q_pa_ok _ _ _ h sx_ne_2_5)) (fun _ => Or.inl (q_pa_ok _ _ _ h sx_ne_2_6)) (fun _ => Or.inl (q_pa_ok _ _ _ h sx_ne_2_7)) (fun _ => Or.inl (q_pa_ok _ _ _ h sx_ne_2_8)) (fun _ => Or.inl (q_pa_ok _ _ _ h sx_ne_2_9)) (fun _ => Or.inl (q_pa_ok _ _ _ h sx_ne_2_10)) (fun _ => Or.inl (q_pa_ok _ _ _ h sx_ne_2_11)) (fun _ => Or.inl (q_pa_ok _ _ _ h sx_ne_2_12)) (fun _ => Or.inl (q_pa_ok _ _ _ h sx_ne_2_13))) (q_i14 (P := fun j => 3 ≠ j → (Cond.not (Cond.eq (q_stm 3) (q_stm j))).before args s = true ∨ (Cond.not (Cond.eq (q_stm j) (q_stm 3))).before args s = true) (fun _ => Or.inr (q_pa_ok _ _ _ h sx_ne_0_3)) (fun _ => Or.inr (q_pa_ok _ _ _ h sx_ne_1_3)) (fun _ => Or.inr (q_pa_ok _ _ _ h sx_ne_2_3)) (fun z => absurd rfl z) (fun _ => Or.inl (q_pa_ok _ _ _ h sx_ne_3_4)) (fun _ => Or.inl (q_pa_ok _ _ _ h sx_ne_3_5)) (fun _ => Or.inl (q_pa_ok _ _ _ h sx_ne_3_6)) (fun _ => Or.inl (q_pa_ok _ _ _ h sx_ne_3_7)) (fun _ => Or.inl (q_pa_ok _ _ _ h sx_ne_3_8)) (fun _ => Or.inl (q_pa_ok _ _ _ h sx_ne_3_9)) (fun _ => Or.inl (q_pa_ok _ _ _ h sx_ne_3_10)) (fun _ => Or.inl (q_pa_ok _ _ _ h sx_ne_3_11)) (fun _ => Or.inl (q_pa_ok _ _ _ h sx_ne_3_12)) (fun _ => Or.inl (q_pa_ok _ _ _ h sx_ne_3_13))) (q_i14 (P := fun j => 4 ≠ j → (Cond.not (Cond.eq (q_stm 4) (q_stm j))).before args s = true ∨ (Cond.not (Cond.eq (q_stm j) (q_stm 4))).before args s = true) (fun _ => Or.inr (q_pa_ok _ _ _ h sx_ne_0_4)) (fun _ => Or.inr (q_pa_ok _ _ _ h sx_ne_1_4)) (fun _ => Or.inr (q_pa_ok _ _ _ h sx_ne_2_4)) (fun _ => Or.inr (q_pa_ok _ _ _ h sx_ne_3_4)) (fun z => absurd rfl z) (fun _ => Or.inl (q_pa_ok _ _ _ h sx_ne_4_5)) (fun _ => Or.inl (q_pa_ok _ _ _ h sx_ne_4_6)) (fun _ => Or.inl (q_pa_ok _ _ _ h sx_ne_4_7)) (fun _ => Or.inl (q_pa_ok _ _ _ h sx_ne_4_8)) (fun _ => Or.inl (q_pa_ok _ _ _ h sx_ne_4_9)) (fun _ => Or.inl (q_pa_ok _ _ _ h sx_ne_4_10)) (fun _ => Or.inl (q_pa_ok _ _ _ h sx_ne_4_11)) (fun _ => Or.inl (q_pa_ok _ _ _ h sx_ne_4_12)) (fun _ => Or.inl (q_pa_ok _ _ _ h sx_ne_4_13))) (q_i14 (P := fun j => 5 ≠ j → (Cond.not (Cond.eq (q_stm 5) (q_stm j))).before args s = true ∨ (Cond.not (Cond.eq (q_stm j) (q_stm 5))).before args s = true) (fun _ => Or.inr (q_pa_ok _ _ _ h sx_ne_0_5)) (fun _ => Or.inr (q_pa_ok _ _ _ h sx_ne_1_5)) (fun _ => Or.inr (q_pa_ok _ _ _ h sx_ne_2_5)) (fun _ => Or.inr (q_pa_ok _ _ _ h sx_ne_3_5)) (fun _ => Or.inr (q_pa_ok _ _ _ h sx_ne_4_5)) (fun z => absurd rfl z) (fun _ => Or.inl (q_pa_ok _ _ _ h sx_ne_5_6)) (fun _ => Or.inl (q_pa_ok _ _ _ h sx_ne_5_7)) (fun _ => Or.inl (q_pa_ok _ _ _ h sx_ne_5_8)) (fun _ => Or.inl (q_pa_ok _ _ _ h sx_ne_5_9)) (fun _ => Or.inl (q_pa_ok _ _ _ h sx_ne_5_10)) (fun _ => Or.inl (q_pa_ok _ _ _ h sx_ne_5_11)) (fun _ => Or.inl (q_pa_ok _ _ _ h sx_ne_5_12)) (fun _ => Or.inl (q_pa_ok _ _ _ h sx_ne_5_13))) (q_i14 (P := fun j => 6 ≠ j → (Cond.not (Cond.eq (q_stm 6) (q_stm j))).before args s = true ∨ (Cond.not (Cond.eq (q_stm j) (q_stm 6))).before args s = true) (fun _ => Or.inr (q_pa_ok _ _ _ h sx_ne_0_6)) (fun _ => Or.inr (q_pa_ok _ _ _ h sx_ne_1_6)) (fun _ => Or.inr (q_pa_ok _ _ _ h sx_ne_2_6)) (fun _ => Or.inr (q_pa_ok _ _ _ h sx_ne_3_6)) (fun _ => Or.inr (q_pa_ok _ _ _ h sx_ne_4_6)) (fun _ => Or.inr (q_pa_ok _ _ _ h sx_ne_5_6)) (fun z => absurd rfl z) (fun _ => Or.inl (q_pa_ok _ _ _ h sx_ne_6_7)) (fun _ => Or.inl (q_pa_ok _ _ _ h sx_ne_6_8)) (fun _ => Or.inl (q_pa_ok _ _ _ h sx_ne_6_9)) (fun _ => Or.inl (q_pa_ok _ _ _ h sx_ne_6_10)) (fun _ => Or.inl (q_pa_ok _ _ _ h sx_ne_6_11)) (fun _ => Or.inl (q_pa_ok _ _ _ h sx_ne_6_12)) (fun _ => Or.inl (q_pa_ok _ _ _ h sx_ne_6_13))) (q_i14 (P := fun j => 7 ≠ j → (Cond.not (Cond.eq (q_stm 7) (q_stm j))).before args s = true ∨ (Cond.not (Cond.eq (q_stm j) (q_stm 7))).before args s = true) (fun _ => Or.inr (q_pa_ok _ _ _ h sx_ne_0_7)) (fun _ => Or.inr (q_pa_ok _ _ _ h sx_ne_1_7)) (fun _ => Or.inr (q_pa_ok _ _ _ h sx_ne_2_7)) (fun _ => Or.inr (q_pa_ok _ _ _ h sx_ne_3_7)) (fun _ => Or.inr (q_pa_ok _ _ _ h sx_ne_4_7)) (fun _ => Or.inr (q_pa_ok _ _ _ h sx_ne_5_7)) (fun _ => Or.inr (q_pa_ok _ _ _ h sx_ne_6_7)) (fun z => absurd rfl z) (fun _ => Or.inl (q_pa_ok _ _ _ h sx_ne_7_8)) (fun _ => Or.inl (q_pa_ok _ _ _ h sx_ne_7_9)) (fun _ => Or.inl (q_pa_ok _ _ _ h sx_ne_7_10)) (fun _ => Or.inl (q_pa_ok _ _ _ h sx_ne_7_11)) (fun _ => Or.inl (q_pa_ok _ _ _ h sx_ne_7_12)) (fun _ => Or.inl (q_pa_ok _ _ _ h sx_ne_7_13))) (q_i14 (P := fun j => 8 ≠ j → (Cond.not (Cond.eq (q_stm 8) (q_stm j))).before args s = true ∨ (Cond.not (Cond.eq (q_stm j) (q_stm 8))).before args s = true) (fun _ => Or.inr (q_pa_ok _ _ _ h sx_ne_0_8)) (fun _ => Or.inr (q_pa_ok _ _ _ h sx_ne_1_8)) (fun _ => Or.inr (q_pa_ok _ _ _ h sx_ne_2_8)) (fun _ => Or.inr (q_pa_ok _ _ _ h sx_ne_3_8)) (fun _ => Or.inr (q_pa_ok _ _ _ h sx_ne_4_8)) (fun _ => Or.inr (q_pa_ok _ _ _ h sx_ne_5_8)) (fun _ => Or.inr (q_pa_ok _ _ _ h sx_ne_6_8)) (fun _ => Or.inr (q_pa_ok _ _ _ h sx_ne_7_8)) (fun z => absurd rfl z) (fun _ => Or.inl (q_pa_ok _ _ _ h sx_ne_8_9)) (fun _ => Or.inl (q_pa_ok _ _ _ h sx_ne_8_10)) (fun _ => Or.inl (q_pa_ok _ _ _ h sx_ne_8_11)) (fun _ => Or.inl (q_pa_ok _ _ _ h sx_ne_8_12)) (fun _ => Or.inl (q_pa_ok _ _ _ h sx_ne_8_13))) (q_i14 (P := fun j => 9 ≠ j → (Cond.not (Cond.eq (q_stm 9) (q_stm j))).before args s = true ∨ (Cond.not (Cond.eq (q_stm j) (q_stm 9))).before args s = true) (fun _ => Or.inr (q_pa_ok _ _ _ h sx_ne_0_9)) (fun _ => Or.inr (q_pa_ok _ _ _ h sx_ne_1_9)) (fun _ => Or.inr (q_pa_ok _ _ _ h sx_ne_2_9)) (fun _ => Or.inr (q_pa_ok _ _ _ h sx_ne_3_9)) (fun _ => Or.inr (q_pa_ok _ _ _ h sx_ne_4_9)) (fun _ => Or.inr (q_pa_ok _ _ _ h sx_ne_5_9)) (fun _ => Or.inr (q_pa_ok _ _ _ h sx_ne_6_9)) (fun _ => Or.inr (q_pa_ok _ _ _ h sx_ne_7_9)) (fun _ => Or.inr (q_pa_ok _ _ _ h sx_ne_8_9)) (fun z => absurd rfl z) (fun _ => Or.inl (q_pa_ok _ _ _ h sx_ne_9_10)) (fun _ => Or.inl (q_pa_ok _ _ _ h sx_ne_9_11)) (fun _ => Or.inl (q_pa_ok _ _ _ h sx_ne_9_12)) (fun _ => Or.inl (q_pa_ok _ _ _ h sx_ne_9_13))) (q_i14 (P := fun j => 10 ≠ j → (Cond.not (Cond.eq (q_stm 10) (q_stm j))).before args s = true ∨ (Cond.not (Cond.eq (q_stm j) (q_stm 10))).before args s = true) (fun _ => Or.inr (q_pa_ok _ _ _ h sx_ne_0_10)) (fun _ => Or.inr (q_pa_ok _ _ _ h sx_ne_1_10)) (fun _ => Or.inr (q_pa_ok _ _ _ h sx_ne_2_10)) (fun _ => Or.inr (q_pa_ok _ _ _ h sx_ne_3_10)) (fun _ => Or.inr (q_pa_ok _ _ _ h sx_ne_4_10)) (fun _ => Or.inr (q_pa_ok _ _ _ h sx_ne_5_10)) (fun _ => Or.inr (q_pa_ok _ _ _ h sx_ne_6_10)) (fun _ => Or.inr (q_pa_ok _ _ _ h sx_ne_7_10)) (fun _ => Or.inr (q_pa_ok _ _ _ h sx_ne_8_10)) (fun _ => Or.inr (q_pa_ok _ _ _ h sx_ne_9_10)) (fun z => absurd rfl z) (fun _ => Or.inl (q_pa_ok _ _ _ h sx_ne_10_11)) (fun _ => Or.inl (q_pa_ok _ _ _ h sx_ne_10_12)) (fun _ => Or.inl (q_pa_ok _ _ _ h sx_ne_10_13))) (q_i14 (P := fun j => 11 ≠ j → (Cond.not (Cond.eq (q_stm 11) (q_stm j))).before args s = true ∨ (Cond.not (Cond.eq (q_stm j) (q_stm 11))).before args s = true) (fun _ => Or.inr (q_pa_ok _ _ _ h sx_ne_0_11)) (fun _ => Or.inr (q_pa_ok _ _ _ h sx_ne_1_11)) (fun _ => Or.inr (q_pa_ok _ _ _ h sx_ne_2_11)) (fun _ => Or.inr (q_pa_ok _ _ _ h sx_ne_3_11)) (fun _ => Or.inr (q_pa_ok _ _ _ h sx_ne_4_11)) (fun _ => Or.inr (q_pa_ok _ _ _ h sx_ne_5_11)) (fun _ => Or.inr (q_pa_ok _ _ _ h sx_ne_6_11)) (fun _ => Or.inr (q_pa_ok _ _ _ h sx_ne_7_11)) (fun _ => Or.inr (q_pa_ok _ _ _ h sx_ne_8_11)) (fun _ => Or.inr (q_pa_ok _ _ _ h sx_ne_9_11)) (fun _ => Or.inr (q_pa_ok _ _ _ h sx_ne_10_11)) (fun z => absurd rfl z) (fun _ => Or.inl (q_pa_ok _ _ _ h sx_ne_11_12)) (fun _ => Or.inl (q_pa_ok _ _ _ h sx_ne_11_13))) (q_i14 (P := fun j => 12 ≠ j → (Cond.not (Cond.eq (q_stm 12) (q_stm j))).before args s = true ∨ (Cond.not (Cond.eq (q_stm j) (q_stm 12))).before args s = true) (fun _ => Or.inr (q_pa_ok _ _ _ h sx_ne_0_12)) (fun _ => Or.inr (q_pa_ok _ _ _ h sx_ne_1_12)) (fun _ => Or.inr (q_pa_ok _ _ _ h sx_ne_2_12)) (fun _ => Or.inr (q_pa_ok _ _ _ h sx_ne_3_12)) (fun _ => Or.inr (q_pa_ok _ _ _ h sx_ne_4_12)) (fun _ => Or.inr (q_pa_ok _ _ _ h sx_ne_5_12)) (fun _ => Or.inr (q_pa_ok _ _ _ h sx_ne_6_12)) (fun _ => Or.inr (q_pa_ok _ _ _ h sx_ne_7_12)) (fun _ => Or.inr (q_pa_ok _ _ _ h sx_ne_8_12)) (fun _ => Or.inr (q_pa_ok _ _ _ h sx_ne_9_12)) (fun _ => Or.inr (q_pa_ok _ _ _ h sx_ne_10_12)) (fun _ => Or.inr (q_pa_ok _ _ _ h sx_ne_11_12)) (fun z => absurd rfl z) (fun _ => Or.inl (q_pa_ok _ _ _ h sx_ne_12_13))) (q_i14 (P := fun j => 13 ≠ j → (Cond.not (Cond.eq (q_stm 13) (q_stm j))).before args s = true ∨ (Cond.not (Cond.eq (q_stm j) (q_stm 13))).before args s = true) (fun _ => Or.inr (q_pa_ok _ _ _ h sx_ne_0_13)) (fun _ => Or.inr (q_pa_ok _ _ _ h sx_ne_1_13)) (fun _ => Or.inr (q_pa_ok _ _ _ h sx_ne_2_13)) (fun _ => Or.inr (q_pa_ok _ _ _ h sx_ne_3_13)) (fun _ => Or.inr (q_pa_ok _ _ _ h sx_ne_4_13)) (fun _ => Or.inr (q_pa_ok _ _ _ h sx_ne_5_13)) (fun _ => Or.inr (q_pa_ok _ _ _ h sx_ne_6_13)) (fun _ => Or.inr (q_pa_ok _ _ _ h sx_ne_7_13)) (fun _ => Or.inr (q_pa_ok _ _ _ h sx_ne_8_13)) (fun _ => Or.inr (q_pa_ok _ _ _ h sx_ne_9_13)) (fun _ => Or.inr (q_pa_ok _ _ _ h sx_ne_10_13)) (fun _ => Or.inr (q_pa_ok _ _ _ h sx_ne_11_13)) (fun _ => Or.inr (q_pa_ok _ _ _ h sx_ne_12_13)) (fun z => absurd rfl z)) i hi j
set_option maxRecDepth 100000 in
theorem sx_Z_0 : q_pa narrow_1 [false, false, false, false, false, false, true, true] = some (Cond.eq (.static "java/lang/String" "COMPACT_STRINGS" "Z") (.int 1)) := rfl
set_option maxRecDepth 100000 in
theorem sx_F_0 : q_pa narrow_1 [false, false, false, false, false, true, false, false] = some (Cond.isRef (.static "jdk/internal/util/Preconditions" "SIOOBE_FORMATTER" "Ljava/util/function/BiFunction;")) := rfl
set_option maxRecDepth 100000 in
theorem sx_lF : Cond.laysStatic "jdk/internal/util/Preconditions" "SIOOBE_FORMATTER" "Ljava/util/function/BiFunction;" ∈ lw_tbl := q_u3 (i := 51) rfl
set_option maxRecDepth 100000 in
theorem sx_iF : Cond.initialized "jdk/internal/util/Preconditions" ∈ lw_tbl := q_u1 (i := 15) rfl
set_option maxRecDepth 100000 in
theorem sx_rf_0 : Cond.stringRef RX6 (q_sds.getD 0 0) (q_txs.getD 0 "") ∈ lw_tbl := q_u3 (i := 8) rfl
set_option maxRecDepth 100000 in
theorem sx_rf_1 : Cond.stringRef RX6 (q_sds.getD 1 0) (q_txs.getD 1 "") ∈ lw_tbl := q_u3 (i := 9) rfl
set_option maxRecDepth 100000 in
theorem sx_rf_2 : Cond.stringRef RX6 (q_sds.getD 2 0) (q_txs.getD 2 "") ∈ lw_tbl := q_u3 (i := 10) rfl
set_option maxRecDepth 100000 in
theorem sx_rf_3 : Cond.stringRef RX6 (q_sds.getD 3 0) (q_txs.getD 3 "") ∈ lw_tbl := q_u3 (i := 11) rfl
set_option maxRecDepth 100000 in
theorem sx_rf_4 : Cond.stringRef RX6 (q_sds.getD 4 0) (q_txs.getD 4 "") ∈ lw_tbl := q_u3 (i := 12) rfl
set_option maxRecDepth 100000 in
theorem sx_rf_5 : Cond.stringRef RX6 (q_sds.getD 5 0) (q_txs.getD 5 "") ∈ lw_tbl := q_u3 (i := 13) rfl
set_option maxRecDepth 100000 in
theorem sx_rf_6 : Cond.stringRef RX6 (q_sds.getD 6 0) (q_txs.getD 6 "") ∈ lw_tbl := q_u3 (i := 14) rfl
set_option maxRecDepth 100000 in
theorem sx_rf_7 : Cond.stringRef RX6 (q_sds.getD 7 0) (q_txs.getD 7 "") ∈ lw_tbl := q_u3 (i := 15) rfl
set_option maxRecDepth 100000 in
theorem sx_rf_8 : Cond.stringRef RX6 (q_sds.getD 8 0) (q_txs.getD 8 "") ∈ lw_tbl := q_u3 (i := 16) rfl
set_option maxRecDepth 100000 in
theorem sx_rf_9 : Cond.stringRef RX6 (q_sds.getD 9 0) (q_txs.getD 9 "") ∈ lw_tbl := q_u3 (i := 17) rfl
set_option maxRecDepth 100000 in
theorem sx_rf_10 : Cond.stringRef RX6 (q_sds.getD 10 0) (q_txs.getD 10 "") ∈ lw_tbl := q_u3 (i := 18) rfl
set_option maxRecDepth 100000 in
theorem sx_rf_11 : Cond.stringRef RX6 (q_sds.getD 11 0) (q_txs.getD 11 "") ∈ lw_tbl := q_u3 (i := 19) rfl
set_option maxRecDepth 100000 in
theorem sx_rf_12 : Cond.stringRef RX6 (q_sds.getD 12 0) (q_txs.getD 12 "") ∈ lw_tbl := q_u3 (i := 20) rfl
set_option maxRecDepth 100000 in
theorem sx_rf_13 : Cond.stringRef RX6 (q_sds.getD 13 0) (q_txs.getD 13 "") ∈ lw_tbl := q_u3 (i := 21) rfl
theorem sx_rf : ∀ i : Nat, i < 14 → Cond.stringRef RX6 (q_sds.getD i 0) (q_txs.getD i "") ∈ lw_tbl := q_i14 sx_rf_0 sx_rf_1 sx_rf_2 sx_rf_3 sx_rf_4 sx_rf_5 sx_rf_6 sx_rf_7 sx_rf_8 sx_rf_9 sx_rf_10 sx_rf_11 sx_rf_12 sx_rf_13
set_option maxRecDepth 100000 in
theorem sx_lZ : Cond.laysStatic "java/lang/String" "COMPACT_STRINGS" "Z" ∈ lw_tbl := q_u3 (i := 35) rfl
set_option maxRecDepth 100000 in
theorem sx_iZ : Cond.initialized "java/lang/String" ∈ lw_tbl := q_u1 (i := 13) rfl
/-- X: the nest words, the constants where the class reads them, the constants' own cells -/
def lw_X (adK adV : Nat → Nat) (A : Nat → Prop) (U : State) : Prop :=
  (∀ e ∈ q_nes, va_Nw (q_nw e.1 e.2.1 e.2.2.1) U) ∧ (∀ i : Nat, i < 14 → vk_R RX6 (q_sds.getD i 0) (q_txs.getD i "") (adK i) U) ∧ vk_S 14 q_len q_byt adK adV A U U.heap ∧ va_Z "java/lang/String" "COMPACT_STRINGS" "Z" (.int 1) A U U.heap ∧ va_Zq "jdk/internal/util/Preconditions" "SIOOBE_FORMATTER" "Ljava/util/function/BiFunction;" A U U.heap
theorem lw_X_XX {ad : q_R → Nat} {adV : Nat → Nat} {A : Nat → Prop} : q_XX ad A (lw_X (fun i => ad (60, 0, i)) adV A) := by
  refine ⟨fun u U hW hz hq hX => ?_, fun a U g mk hX => ?_, fun s hX => hX.1, fun s H locs i hX hS hi => vk_recv hX.2.2.1 hi hS, fun p l e R s m args below meth c H locs Q cc pc x ls st hx hb hown hX hS hi hdg k => ?_⟩
  · exact ⟨fun e he => va_Nw.warmM hW (hX.1 e he), fun i hi => vk_R.warm hW (hX.2.1 i hi), vk_S.kept (vk_S.moved hW.alike hX.2.2.1) hq, va_Z.kept (va_Z.moved hW.alike hX.2.2.2.1) hq, va_Zq.kept (va_Zq.moved hW.alike hX.2.2.2.2) hq⟩
  · exact ⟨fun e he => va_Nw.same rfl (u := U) rfl (hX.1 e he), fun i hi => vk_R.same (u := U) rfl (hX.2.1 i hi), vk_S.moved (u := U) (U := U.calling g mk a) (Vm.Alike.refl U.vm) hX.2.2.1, va_Z.moved (u := U) (U := U.calling g mk a) (Vm.Alike.refl U.vm) hX.2.2.2.1, va_Zq.moved (u := U) (U := U.calling g mk a) (Vm.Alike.refl U.vm) hX.2.2.2.2⟩
  · exact va_ldcS hx hb hown (hX.2.1 x hi) hdg k
theorem lw_X_of {args : Array Value} {s : State} {A : Nat → Prop} (hts : ∀ w ∈ lw_tbl, w.before args s = true) (h : narrow_1.before args s = true) (hA : ∀ a : Nat, a < s.heap.size → ¬ A a) : ∃ adK adV : Nat → Nat, lw_X adK adV A s := by
  obtain ⟨adK, adV, h1, h2⟩ := vk_Sof (N := 14) (tm := q_stm) (len := q_len) (byt := q_byt) (A := A) (by decide) (sx_ex h) (sx_co h) (sx_ar h) (sx_le h) (sx_el h) (sx_ne h) hA
  exact ⟨adK, adV, fun e he => va_Nw.of rfl (hts _ (q_nes_ok e he)), fun i hi => vk_R.of (hts _ (sx_rf i hi)) (h2 i hi), h1, va_Zof (hts _ sx_lZ) (hts _ sx_iZ) (va_eqt (q_pa_ok _ _ _ h sx_Z_0)) hA, va_Zqof (hts _ sx_lF) (hts _ sx_iF) (q_pa_ok _ _ _ h sx_F_0) hA⟩
