/-! runs, without fuel -/
def q_E (d : Nat) (c : q_C) (pc : Nat) (loc : q_L) (stk : List q_V) (h : q_H) (res : q_O) : Prop := ∃ n0 : Nat, ∀ a, n0 ≤ a → ∀ b, n0 ≤ b → q_ex (q_call a d) c b pc loc stk h = some res
def q_T (d m : Nat) (av : List q_V) (h : q_H) (res : q_O) : Prop := ∃ n0 : Nat, ∀ a, n0 ≤ a → q_call a d m av h = some res
def q_bi (b : Bool) : Int32 := bif b then 1 else 0
theorem q_bi01 (b : Bool) : q_01 (q_bi b) = true := by cases b <;> rfl
def q_fu : Nat := 5000
def q_lp {σ ρ : Type} (body : σ → Option (σ ⊕ ρ)) (n : Nat) (s : σ) : Option ρ :=
  match n with
  | 0 => none
  | n + 1 => match body s with
    | none => none
    | some (.inl s') => q_lp body n s'
    | some (.inr r) => some r
theorem q_bind {α β : Type} {x : Option α} {f : α → Option β} {r : β} (h : x.bind f = some r) : ∃ a, x = some a ∧ f a = some r := Option.bind_eq_some_iff.mp h
theorem q_lpE {σ ρ : Type} {body : σ → Option (σ ⊕ ρ)} {E : σ → Prop} (r : ρ) (hstep : ∀ s z, body s = some z → (∀ s', z = .inl s' → E s') → (∀ r', z = .inr r' → r' = r) → E s) : ∀ (n : Nat) (s : σ), q_lp body n s = some r → E s := by
  intro n
  induction n with
  | zero => intro s h; cases h
  | succ n ih =>
    intro s h
    unfold q_lp at h
    cases hb : body s with
    | none => rw [hb] at h; cases h
    | some z =>
      rw [hb] at h
      cases z with
      | inl s' => exact hstep s _ hb (fun s'' e => by cases e; exact ih s' h) (fun r' e => by cases e)
      | inr r' => exact hstep s _ hb (fun s'' e => by cases e) (fun r'' e => by cases e; exact Option.some.inj h)
/-- so many steps, then k -/
def q_exk (call : Nat → List q_V → q_H → Option q_O) (c : q_C) (n : Nat) (k : q_K) (pc : Nat) (loc : q_L) (stk : List q_V) (h : q_H) : Option q_O :=
  match n with
  | 0 => k pc loc stk h
  | n + 1 => match q_lk c pc with
    | none => none
    | some (i, _, x) => q_do call i x pc loc stk h (q_exk call c n k)
theorem q_exk_eq (call : Nat → List q_V → q_H → Option q_O) (c : q_C) (b : Nat) : ∀ N : Nat, q_ex call c (b + N) = q_exk call c N (q_ex call c b) := by
  intro N
  induction N with
  | zero => funext pc loc stk h; rfl
  | succ N ih =>
    funext pc loc stk h
    show (match q_lk c pc with | none => none | some (i, _, x) => q_do call i x pc loc stk h (q_ex call c (b + N))) = (match q_lk c pc with | none => none | some (i, _, x) => q_do call i x pc loc stk h (q_exk call c N (q_ex call c b)))
    rw [ih]
section q_EX
variable {d : Nat} {c : q_C} {pc : Nat} {loc : q_L} {stk : List q_V} {h : q_H} {res : q_O}
theorem q_ent {m : Nat} {av : List q_V} (c : q_C) (hm : Nat.ble m 3 = false) (hct : Nat.ble (q_ct av) (q_ml m) = true) (hc : q_M m = c) (k : q_E d c 0 (q_l0 (q_ml m) av) [] h res) : q_T (d + 1) m av h res := by
  obtain ⟨n0, k⟩ := k
  refine ⟨n0, fun a ha => ?_⟩
  show (bif Nat.ble m 3 then (bif Nat.ble 4 d then q_xt m av h else none) else (bif Nat.ble (q_ct av) (q_ml m) then q_ex (q_call a d) (q_M m) a 0 (q_l0 (q_ml m) av) [] h else none)) = some res
  rw [hm, hct, hc]
  exact k a ha a ha
theorem q_blk (N : Nat) {pc' : Nat} {loc' : q_L} {stk' : List q_V} {h' : q_H} (heq : ∀ call k, q_exk call c N k pc loc stk h = k pc' loc' stk' h') (kk : q_E d c pc' loc' stk' h' res) : q_E d c pc loc stk h res := by
  obtain ⟨n0, kk⟩ := kk
  refine ⟨n0 + N, fun a ha b hb => ?_⟩
  obtain ⟨b', rfl⟩ : ∃ b', b = b' + N := ⟨b - N, by omega⟩
  rw [q_exk_eq, heq]
  exact kk a (by omega) b' (by omega)
theorem q_gd (N : Nat) {g : Bool} {pc' : Nat} {loc' : q_L} {stk' : List q_V} {h' : q_H} (heq : ∀ call k, q_exk call c N k pc loc stk h = bif g then k pc' loc' stk' h' else none) (hg : g = true) (kk : q_E d c pc' loc' stk' h' res) : q_E d c pc loc stk h res :=
  q_blk N (fun call k => by rw [heq, hg]; rfl) kk
theorem q_br (N : Nat) {P : Prop} [Decidable P] {pcT pcF : Nat} {loc' : q_L} {stk' : List q_V} {h' : q_H} (heq : ∀ call k, q_exk call c N k pc loc stk h = bif decide P then k pcT loc' stk' h' else k pcF loc' stk' h') (kt : P → q_E d c pcT loc' stk' h' res) (kf : ¬ P → q_E d c pcF loc' stk' h' res) : q_E d c pc loc stk h res := by
  by_cases hp : P
  · exact q_blk N (fun call k => by rw [heq, decide_eq_true hp]; rfl) (kt hp)
  · exact q_blk N (fun call k => by rw [heq, decide_eq_false hp]; rfl) (kf hp)
theorem q_be (N : Nat) {x : Bool} {pcT pcF : Nat} {loc' : q_L} {stk' : List q_V} {h' : q_H} (heq : ∀ call k, q_exk call c N k pc loc stk h = bif decide (q_bi x = 0) then k pcT loc' stk' h' else k pcF loc' stk' h') (kt : x = false → q_E d c pcT loc' stk' h' res) (kf : x = true → q_E d c pcF loc' stk' h' res) : q_E d c pc loc stk h res := by
  cases x with
  | false => exact q_blk N (fun call k => by rw [heq]; rfl) (kt rfl)
  | true => exact q_blk N (fun call k => by rw [heq]; rfl) (kf rfl)
theorem q_bn (N : Nat) {x : Bool} {pcT pcF : Nat} {loc' : q_L} {stk' : List q_V} {h' : q_H} (heq : ∀ call k, q_exk call c N k pc loc stk h = bif decide (¬ q_bi x = 0) then k pcT loc' stk' h' else k pcF loc' stk' h') (kt : x = true → q_E d c pcT loc' stk' h' res) (kf : x = false → q_E d c pcF loc' stk' h' res) : q_E d c pc loc stk h res := by
  cases x with
  | false => exact q_blk N (fun call k => by rw [heq]; rfl) (kf rfl)
  | true => exact q_blk N (fun call k => by rw [heq]; rfl) (kt rfl)
theorem q_cll (N : Nat) {m' : Nat} {av st' : List q_V} {pc' : Nat} {loc' : q_L} {h' : q_H} {rr : q_O} (heq : ∀ call k, q_exk call c N k pc loc stk h = match call m' av h' with | some (r, h2) => k pc' loc' (r.toList ++ st') h2 | none => none) (hT : q_T d m' av h' rr) (kk : q_E d c pc' loc' (rr.1.toList ++ st') rr.2 res) : q_E d c pc loc stk h res := by
  obtain ⟨n0, kk⟩ := kk
  obtain ⟨n1, hT⟩ := hT
  refine ⟨n0 + n1 + N, fun a ha b hb => ?_⟩
  obtain ⟨b', rfl⟩ : ∃ b', b = b' + N := ⟨b - N, by omega⟩
  rw [q_exk_eq, heq, hT a (by omega)]
  exact kk a (by omega) b' (by omega)
theorem q_rtn (N : Nat) (heq : ∀ call k, q_exk call c N k pc loc stk h = some res) : q_E d c pc loc stk h res := by
  refine ⟨N, fun a ha b hb => ?_⟩
  obtain ⟨b', rfl⟩ : ∃ b', b = b' + N := ⟨b - N, by omega⟩
  rw [q_exk_eq]
  exact heq _ _
theorem q_rtz (N : Nat) {g : Bool} (heq : ∀ call k, q_exk call c N k pc loc stk h = bif g then some res else none) (hg : g = true) : q_E d c pc loc stk h res :=
  q_rtn N (fun call k => by rw [heq, hg]; rfl)
theorem q_tsI {dd lo hi : Int} {offs : Array Int} {a v : Int32} {o : Option Int} (e : a = v) (h : q_ts dd lo hi offs v = o) : q_ts dd lo hi offs a = o := by rw [e]; exact h
theorem q_tsD {dd lo hi : Int} {offs : Array Int} {a : Int32} (h : a.toInt < lo ∨ hi < a.toInt) : q_ts dd lo hi offs a = some dd := by unfold q_ts; rw [if_pos h]
theorem q_neI {x k : Int32} {a : Int} (h : ¬ x = k) (hk : k.toInt = a) : ¬ x.toInt = a := fun q => h (Int32.toInt_inj.mp (by rw [hk]; exact q))
theorem q_sw (N : Nat) {o : Option Int} {o1 : Int} {pcx pc' : Nat} {loc' : q_L} {stk' : List q_V} {h' : q_H} (heq : ∀ call k, q_exk call c N k pc loc stk h = match o with | some off => k (q_tg pcx off) loc' stk' h' | none => none) (ho : o = some o1) (hp : q_tg pcx o1 = pc') (kk : q_E d c pc' loc' stk' h' res) : q_E d c pc loc stk h res :=
  q_blk N (fun call k => by rw [heq, ho, ← hp]) kk
theorem q_lsw (N : Nat) {psl : List (Int × Int)} {dd : Int} {a : Int32} {o1 : Int} {pcx pc' : Nat} {loc' : q_L} {stk' : List q_V} {h' : q_H} (heq : ∀ call k, q_exk call c N k pc loc stk h = k (q_tg pcx (Op.lookupswitch.offset psl dd a.toInt)) loc' stk' h') (ho : Op.lookupswitch.offset psl dd a.toInt = o1) (hp : q_tg pcx o1 = pc') (kk : q_E d c pc' loc' stk' h' res) : q_E d c pc loc stk h res :=
  q_blk N (fun call k => by rw [heq, ho, hp]) kk
theorem q_gd2 (N : Nat) {g1 g2 : Bool} {Z : (Nat → List q_V → q_H → Option q_O) → q_K → Option q_O} {pc' : Nat} {loc' : q_L} {stk' : List q_V} {h' : q_H} (heq : ∀ call k, q_exk call c N k pc loc stk h = bif g1 then (bif g2 then k pc' loc' stk' h' else Z call k) else none) (h1 : g1 = true) (h2 : g2 = true) (kk : q_E d c pc' loc' stk' h' res) : q_E d c pc loc stk h res :=
  q_blk N (fun call k => by rw [heq, h1, h2]; rfl) kk
theorem q_gdn (N : Nat) {g : Bool} {pc' : Nat} {loc' : q_L} {stk' : List q_V} {h' : q_H} (heq : ∀ call k, q_exk call c N k pc loc stk h = bif g then none else k pc' loc' stk' h') (hg : (!g) = true) (kk : q_E d c pc' loc' stk' h' res) : q_E d c pc loc stk h res :=
  q_blk N (fun call k => by rw [heq, Bool.not_eq_true' g |>.mp hg]; rfl) kk
theorem q_gF {α : Type} {g : Bool} {X : Option α} {r : α} (h : (bif g then X else none) = some r) : g = true ∧ X = some r := by
  cases g with
  | true => exact ⟨rfl, h⟩
  | false => cases h
theorem q_gdp (N : Nat) {g : Bool} {pc' : Nat} {loc' : q_L} {stk' : List q_V} {h' : q_H} (heq : ∀ call k, q_exk call c N k pc loc stk h = match (bif g then some h' else none) with | some h2 => k pc' loc' stk' h2 | none => none) (hg : g = true) (kk : q_E d c pc' loc' stk' h' res) : q_E d c pc loc stk h res :=
  q_blk N (fun call k => by rw [heq, hg]; rfl) kk
def q_slen (i : Nat) : Option Int32 := match q_strs[i]? with | some s => some (Int32.ofNat s.length) | none => none
def q_sch (i : Nat) (j : Int32) : Option Int32 := match q_strs[i]? with | some s => (bif q_in j s.length then some (Int32.ofNat (s.getD j.toNatClampNeg 0)) else none) | none => none
theorem eStr1 {d i : Nat} {h : q_H} {r : Int32} (hd : 5 ≤ d) (HF : q_slen i = some r) : q_T d 1 [.inr (.inr (60, 0, i))] h (some (.inl r), h) := by
  obtain ⟨d, rfl⟩ : ∃ d', d = d' + 1 := ⟨d - 1, by omega⟩
  refine ⟨0, fun a _ => ?_⟩
  show (bif Nat.ble 4 d then q_xt 1 [.inr (.inr (60, 0, i))] h else none) = _
  rw [Nat.ble_eq_true_of_le (by omega : 4 ≤ d)]
  unfold q_slen at HF
  show (match q_strs[i]? with | some s => some (some (.inl (Int32.ofNat s.length)), h) | none => none : Option q_O) = _
  cases hs : q_strs[i]? with
  | none => rw [hs] at HF; cases HF
  | some s => rw [hs] at HF; cases HF; rfl
theorem eStr2 {d i : Nat} {j : Int32} {h : q_H} {r : Int32} (hd : 5 ≤ d) (HF : q_sch i j = some r) : q_T d 2 [.inr (.inr (60, 0, i)), .inl j] h (some (.inl r), h) := by
  obtain ⟨d, rfl⟩ : ∃ d', d = d' + 1 := ⟨d - 1, by omega⟩
  refine ⟨0, fun a _ => ?_⟩
  show (bif Nat.ble 4 d then q_xt 2 [.inr (.inr (60, 0, i)), .inl j] h else none) = _
  rw [Nat.ble_eq_true_of_le (by omega : 4 ≤ d)]
  unfold q_sch at HF
  show (match q_strs[i]? with | some s => (bif q_in j s.length then some (some (.inl (Int32.ofNat (s.getD j.toNatClampNeg 0))), h) else none) | none => none : Option q_O) = _
  cases hs : q_strs[i]? with
  | none => rw [hs] at HF; cases HF
  | some s =>
    rw [hs] at HF
    simp only at HF ⊢
    cases hb : q_in j s.length with
    | false => rw [hb] at HF; cases HF
    | true => rw [hb] at HF; cases HF; rfl
end q_EX
