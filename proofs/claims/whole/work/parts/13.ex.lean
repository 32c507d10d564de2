/-! runs, without fuel -/
def q_E (d : Nat) (c : q_C) (pc : Nat) (loc : q_L) (stk : List q_V) (h : q_H) (res : q_O) : Prop := ∃ n0 : Nat, ∀ a, n0 ≤ a → ∀ b, n0 ≤ b → q_ex (q_call a d) c b pc loc stk h = some res
def q_T (d m : Nat) (av : List q_V) (h : q_H) (res : q_O) : Prop := ∃ n0 : Nat, ∀ a, n0 ≤ a → q_call a d m av h = some res
def q_bi (b : Bool) : Int32 := bif b then 1 else 0
theorem q_bi01 (b : Bool) : q_01 (q_bi b) = true := by cases b <;> rfl
def q_fu : Nat := 5000
def q_lp {σ ρ : Type} (body : σ → Option (σ ⊕ ρ)) (n : Nat) (s : σ) : Option ρ :=
  match n with
  | 0 => none
  | n + 1 => match body s with
    | none => none
    | some (.inl s') => q_lp body n s'
    | some (.inr r) => some r
theorem q_bind {α β : Type} {x : Option α} {f : α → Option β} {r : β} (h : x.bind f = some r) : ∃ a, x = some a ∧ f a = some r := Option.bind_eq_some_iff.mp h
theorem q_lpE {σ ρ : Type} {body : σ → Option (σ ⊕ ρ)} {E : σ → Prop} (r : ρ) (hstep : ∀ s z, body s = some z → (∀ s', z = .inl s' → E s') → (∀ r', z = .inr r' → r' = r) → E s) : ∀ (n : Nat) (s : σ), q_lp body n s = some r → E s := by
  intro n
  induction n with
  | zero => intro s h; cases h
  | succ n ih =>
    intro s h
    unfold q_lp at h
    cases hb : body s with
    | none => rw [hb] at h; cases h
    | some z =>
      rw [hb] at h
      cases z with
      | inl s' => exact hstep s _ hb (fun s'' e => by cases e; exact ih s' h) (fun r' e => by cases e)
      | inr r' => exact hstep s _ hb (fun s'' e => by cases e) (fun r'' e => by cases e; exact Option.some.inj h)
section q_EX
variable {d : Nat} {c : q_C} {pc : Nat} {loc : q_L} {stk : List q_V} {h : q_H} {res : q_O}
theorem q_ent {m : Nat} {av : List q_V} (c : q_C) (hm : Nat.ble m 3 = false) (hct : Nat.ble (q_ct av) (q_ml m) = true) (hc : q_M m = c) (k : q_E d c 0 (q_l0 (q_ml m) av) [] h res) : q_T (d + 1) m av h res := by
  obtain ⟨n0, k⟩ := k
  refine ⟨n0, fun a ha => ?_⟩
  show (bif Nat.ble m 3 then (bif Nat.ble 4 d then q_xt m av h else none) else (bif Nat.ble (q_ct av) (q_ml m) then q_ex (q_call a d) (q_M m) a 0 (q_l0 (q_ml m) av) [] h else none)) = some res
  rw [hm, hct, hc]
  exact k a ha a ha
theorem q_blk (N : Nat) {pc' : Nat} {loc' : q_L} {stk' : List q_V} {h' : q_H} (heq : ∀ call b, q_ex call c (b + N) pc loc stk h = q_ex call c b pc' loc' stk' h') (k : q_E d c pc' loc' stk' h' res) : q_E d c pc loc stk h res := by
  obtain ⟨n0, k⟩ := k
  refine ⟨n0 + N, fun a ha b hb => ?_⟩
  obtain ⟨b', rfl⟩ : ∃ b', b = b' + N := ⟨b - N, by omega⟩
  rw [heq]
  exact k a (by omega) b' (by omega)
theorem q_gd (N : Nat) {g : Bool} {pc' : Nat} {loc' : q_L} {stk' : List q_V} {h' : q_H} (heq : ∀ call b, q_ex call c (b + N) pc loc stk h = bif g then q_ex call c b pc' loc' stk' h' else none) (hg : g = true) (k : q_E d c pc' loc' stk' h' res) : q_E d c pc loc stk h res :=
  q_blk N (fun call b => by rw [heq, hg]; rfl) k
theorem q_br (N : Nat) {P : Prop} [Decidable P] {pcT pcF : Nat} {loc' : q_L} {stk' : List q_V} {h' : q_H} (heq : ∀ call b, q_ex call c (b + N) pc loc stk h = bif decide P then q_ex call c b pcT loc' stk' h' else q_ex call c b pcF loc' stk' h') (kt : P → q_E d c pcT loc' stk' h' res) (kf : ¬ P → q_E d c pcF loc' stk' h' res) : q_E d c pc loc stk h res := by
  by_cases hp : P
  · exact q_blk N (fun call b => by rw [heq, decide_eq_true hp]; rfl) (kt hp)
  · exact q_blk N (fun call b => by rw [heq, decide_eq_false hp]; rfl) (kf hp)
theorem q_be (N : Nat) {x : Bool} {pcT pcF : Nat} {loc' : q_L} {stk' : List q_V} {h' : q_H} (heq : ∀ call b, q_ex call c (b + N) pc loc stk h = bif decide (q_bi x = 0) then q_ex call c b pcT loc' stk' h' else q_ex call c b pcF loc' stk' h') (kt : x = false → q_E d c pcT loc' stk' h' res) (kf : x = true → q_E d c pcF loc' stk' h' res) : q_E d c pc loc stk h res := by
  cases x with
  | false => exact q_blk N (fun call b => by rw [heq]; rfl) (kt rfl)
  | true => exact q_blk N (fun call b => by rw [heq]; rfl) (kf rfl)
theorem q_bn (N : Nat) {x : Bool} {pcT pcF : Nat} {loc' : q_L} {stk' : List q_V} {h' : q_H} (heq : ∀ call b, q_ex call c (b + N) pc loc stk h = bif decide (¬ q_bi x = 0) then q_ex call c b pcT loc' stk' h' else q_ex call c b pcF loc' stk' h') (kt : x = true → q_E d c pcT loc' stk' h' res) (kf : x = false → q_E d c pcF loc' stk' h' res) : q_E d c pc loc stk h res := by
  cases x with
  | false => exact q_blk N (fun call b => by rw [heq]; rfl) (kf rfl)
  | true => exact q_blk N (fun call b => by rw [heq]; rfl) (kt rfl)
theorem q_cll (N : Nat) {m' : Nat} {av st' : List q_V} {pc' : Nat} {loc' : q_L} {h' : q_H} {rr : q_O} (heq : ∀ call b, q_ex call c (b + N) pc loc stk h = match call m' av h' with | some (r, h2) => q_ex call c b pc' loc' (r.toList ++ st') h2 | none => none) (hT : q_T d m' av h' rr) (k : q_E d c pc' loc' (rr.1.toList ++ st') rr.2 res) : q_E d c pc loc stk h res := by
  obtain ⟨n0, k⟩ := k
  obtain ⟨n1, hT⟩ := hT
  refine ⟨n0 + n1 + N, fun a ha b hb => ?_⟩
  obtain ⟨b', rfl⟩ : ∃ b', b = b' + N := ⟨b - N, by omega⟩
  rw [heq, hT a (by omega)]
  exact k a (by omega) b' (by omega)
theorem q_rtn (N : Nat) (heq : ∀ call b, q_ex call c (b + N) pc loc stk h = some res) : q_E d c pc loc stk h res := by
  refine ⟨N, fun a ha b hb => ?_⟩
  obtain ⟨b', rfl⟩ : ∃ b', b = b' + N := ⟨b - N, by omega⟩
  exact heq _ b'
theorem q_rtz (N : Nat) {g : Bool} (heq : ∀ call b, q_ex call c (b + N) pc loc stk h = bif g then some res else none) (hg : g = true) : q_E d c pc loc stk h res :=
  q_rtn N (fun call b => by rw [heq, hg]; rfl)
theorem q_tsI {dd lo hi : Int} {offs : Array Int} {a v : Int32} {o : Option Int} (e : a = v) (h : q_ts dd lo hi offs v = o) : q_ts dd lo hi offs a = o := by rw [e]; exact h
theorem q_tsD {dd lo hi : Int} {offs : Array Int} {a : Int32} (h : a.toInt < lo ∨ hi < a.toInt) : q_ts dd lo hi offs a = some dd := by unfold q_ts; rw [if_pos h]
theorem q_neI {x k : Int32} {a : Int} (h : ¬ x = k) (hk : k.toInt = a) : ¬ x.toInt = a := fun q => h (Int32.toInt_inj.mp (by rw [hk]; exact q))
theorem q_sw (N : Nat) {o : Option Int} {o1 : Int} {pcx pc' : Nat} {loc' : q_L} {stk' : List q_V} {h' : q_H} (heq : ∀ call b, q_ex call c (b + N) pc loc stk h = match o with | some off => q_ex call c b (q_tg pcx off) loc' stk' h' | none => none) (ho : o = some o1) (hp : q_tg pcx o1 = pc') (k : q_E d c pc' loc' stk' h' res) : q_E d c pc loc stk h res :=
  q_blk N (fun call b => by rw [heq, ho, ← hp]) k
end q_EX
