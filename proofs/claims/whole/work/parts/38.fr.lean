/-! frames: a run writes only where its references lead -/
def q_pv (P : Nat → Nat → Prop) (v : q_V) : Prop := match v with | .inr (.inr r) => P r.1 r.2.1 | _ => True
def q_pl (P : Nat → Nat → Prop) (loc : q_L) : Prop := ∀ (j : Nat) (v : q_V), loc[j]? = some (some v) → q_pv P v
def q_ps (P : Nat → Nat → Prop) (st : List q_V) : Prop := ∀ v ∈ st, q_pv P v
/-- closed: links lead inside -/
def q_PC (P : Nat → Nat → Prop) : Prop := (∀ t k f c : Nat, P t k → (q_fl t)[f]? = some c → 3 ≤ c → P (q_rf c k).1 (q_rf c k).2.1) ∧ (∀ t k j : Nat, P t k → q_at t = 3 ∨ q_at t = 4 → P (q_ra t k j).1 (q_ra t k j).2.1) ∧ P 60 0
def q_fr (P : Nat → Nat → Prop) (h h' : q_H) : Prop := ∀ t f k i : Nat, ¬ P t k → h'.1 t f k i = h.1 t f k i ∧ h'.2 t f k i = h.2 t f k i
theorem q_fr_rf {P : Nat → Nat → Prop} {h : q_H} : q_fr P h h := fun _ _ _ _ _ => ⟨rfl, rfl⟩
theorem q_fr_tr {P : Nat → Nat → Prop} {h h1 h2 : q_H} (a : q_fr P h h1) (b : q_fr P h1 h2) : q_fr P h h2 := fun t f k i n => ⟨((b t f k i n).1).trans (a t f k i n).1, ((b t f k i n).2).trans (a t f k i n).2⟩
theorem q_fr_si {P : Nat → Nat → Prop} {h : q_H} {t f k i : Nat} {v : Int32} (hp : P t k) : q_fr P h (q_si h t f k i v) := fun a b c d n => ⟨by unfold q_si; simp only; rw [if_neg (fun z => n (by rw [z.1, z.2.2.1]; exact hp))], rfl⟩
theorem q_fr_sl {P : Nat → Nat → Prop} {h : q_H} {t f k i : Nat} {v : Int64} (hp : P t k) : q_fr P h (q_sl h t f k i v) := fun a b c d n => ⟨rfl, by unfold q_sl; simp only; rw [if_neg (fun z => n (by rw [z.1, z.2.2.1]; exact hp))]⟩
theorem q_fr_acp {P : Nat → Nat → Prop} {h : q_H} {t1 k1 t k n : Nat} (hp : P t k) : q_fr P h (q_acp t1 k1 t k n h) := fun a b c d z => ⟨by unfold q_acp; simp only; rw [if_neg (fun y => z (by rw [y.1, y.2.2.1]; exact hp))], rfl⟩
theorem q_fr_acl {P : Nat → Nat → Prop} {h : q_H} {t1 k1 t k n : Nat} (hp : P t k) : q_fr P h (q_acl t1 k1 t k n h) := fun a b c d z => ⟨rfl, by unfold q_acl; simp only; rw [if_neg (fun y => z (by rw [y.1, y.2.2.1]; exact hp))]⟩
theorem q_fr_put {P : Nat → Nat → Prop} {h h1 : q_H} {t f k i : Nat} {v : q_V} (hp : P t k) (hg : q_put t f k i v h = some h1) : q_fr P h h1 := by
  unfold q_put at hg
  split at hg
  · cases hg
  · split at hg
    · cases hb : Nat.beq _ 0 with
      | true => rw [hb] at hg; cases hg; exact q_fr_si hp
      | false =>
        rw [hb] at hg
        simp only [cond_false] at hg
        cases hb1 : Nat.beq _ 1 with
        | true =>
          rw [hb1] at hg
          simp only [cond_true] at hg
          obtain ⟨_, hg⟩ := q_gF hg
          cases hg
          exact q_fr_si hp
        | false => rw [hb1] at hg; cases hg
    · cases hb : Nat.beq _ 2 with
      | true => rw [hb] at hg; cases hg; exact q_fr_sl hp
      | false => rw [hb] at hg; cases hg
    · cases hg
theorem q_pv_get {P : Nat → Nat → Prop} (hC : q_PC P) {h : q_H} {t f k i : Nat} {v : q_V} (hp : P t k) (hg : q_get t f k i h = some v) : q_pv P v := by
  unfold q_get at hg
  split at hg
  · cases hg
  · next c hc =>
    cases h1 : Nat.ble c 1 with
    | true => rw [h1] at hg; cases hg; trivial
    | false =>
      rw [h1] at hg
      simp only [cond_false] at hg
      cases h2 : Nat.beq c 2 with
      | true => rw [h2] at hg; cases hg; trivial
      | false =>
        rw [h2] at hg
        cases hg
        refine hC.1 t k f c hp hc ?_
        have e1 : ¬ c ≤ 1 := fun z => by rw [Nat.ble_eq_true_of_le z] at h1; cases h1
        have e2 : ¬ c = 2 := fun z => by rw [z] at h2; cases h2
        omega
theorem q_ps_t {P : Nat → Nat → Prop} {a : q_V} {st : List q_V} (h : q_ps P (a :: st)) : q_ps P st := fun v hv => h v (List.mem_cons_of_mem _ hv)
theorem q_ps_h {P : Nat → Nat → Prop} {a : q_V} {st : List q_V} (h : q_ps P (a :: st)) : q_pv P a := h a List.mem_cons_self
theorem q_ps_c {P : Nat → Nat → Prop} {a : q_V} {st : List q_V} (ha : q_pv P a) (h : q_ps P st) : q_ps P (a :: st) := fun v hv => by
  rcases List.mem_cons.mp hv with rfl | hv
  · exact ha
  · exact h v hv
theorem q_pl_set {P : Nat → Nat → Prop} {loc : q_L} {j : Nat} {a : Option q_V} (h : q_pl P loc) (hv : ∀ v, a = some v → q_pv P v) : q_pl P (loc.set j a) := by
  intro i w hw
  by_cases hij : j = i
  · subst hij
    rw [List.getElem?_set_self'] at hw
    cases hc : loc[j]? with
    | none => rw [hc] at hw; simp at hw
    | some z => rw [hc] at hw; simp at hw; exact hv w hw
  · rw [List.getElem?_set_ne hij] at hw
    exact h i w hw
theorem q_bT {α : Type} {g : Bool} {X : Option α} {r : α} (h : (bif g then X else none) = some r) : X = some r := (q_gF h).2
theorem q_bN {α : Type} {g : Bool} {X : Option α} {r : α} (h : (bif g then none else X) = some r) : X = some r := by
  cases g with
  | true => cases h
  | false => exact h
def q_FK (P : Nat → Nat → Prop) (h : q_H) (res : q_O) : Prop := q_fr P h res.2 ∧ ∀ v, res.1 = some v → q_pv P v
theorem q_FK_tr {P : Nat → Nat → Prop} {h h1 : q_H} {res : q_O} (a : q_fr P h h1) (b : q_FK P h1 res) : q_FK P h res := ⟨q_fr_tr a b.1, b.2⟩
theorem q_fi {l : q_L} {j : Nat} {k : Int32 → Option q_O} {r : q_O} (h : q_ldi l j k = some r) : ∃ v, l[j]? = some (some (.inl v)) ∧ k v = some r := by
  unfold q_ldi at h
  split at h
  · next v hv => exact ⟨v, hv, h⟩
  · cases h
theorem q_fl_ {l : q_L} {j : Nat} {k : Int64 → Option q_O} {r : q_O} (h : q_ldl l j k = some r) : ∃ v, l[j]? = some (some (.inr (.inl v))) ∧ k v = some r := by
  unfold q_ldl at h
  split at h
  · next v hv => exact ⟨v, hv, h⟩
  · cases h
theorem q_frr {l : q_L} {j : Nat} {k : q_R → Option q_O} {r : q_O} (h : q_ldr l j k = some r) : ∃ v, l[j]? = some (some (.inr (.inr v))) ∧ k v = some r := by
  unfold q_ldr at h
  split at h
  · next v hv => exact ⟨v, hv, h⟩
  · cases h
theorem q_fs1 {l : q_L} {j : Nat} {v : q_V} {k : q_L → Option q_O} {r : q_O} (h : q_st1 l j v k = some r) : k (l.set j (some v)) = some r := by
  unfold q_st1 at h
  exact q_bN (q_bT h)
theorem q_fs2 {l : q_L} {j : Nat} {v : Int64} {k : q_L → Option q_O} {r : q_O} (h : q_st2 l j v k = some r) : k ((l.set j (some (.inr (.inl v)))).set (j + 1) none) = some r := by
  unfold q_st2 at h
  exact q_bN (q_bT h)
set_option maxHeartbeats 4000000 in
set_option maxRecDepth 100000 in
theorem q_do_fr {P : Nat → Nat → Prop} (hC : q_PC P) {call : Nat → List q_V → q_H → Option q_O} (hcall : ∀ m av h res, call m av h = some res → q_ps P av → q_FK P h res) {k : q_K} {res : q_O} (hk : ∀ pc loc stk h, k pc loc stk h = some res → q_pl P loc → q_ps P stk → q_FK P h res) {i : Instr} {x pc : Nat} {loc : q_L} {stk : List q_V} {h : q_H} (hL : q_pl P loc) (hT : q_ps P stk) (hd : q_do call i x pc loc stk h k = some res) : q_FK P h res := by
  cases i <;> first | exact absurd (show (none : Option q_O) = some res from hd) (by intro z; cases z) | skip
  case iconst n =>
    exact hk _ _ _ _ hd hL (q_ps_c trivial hT)
  case lconst n =>
    exact hk _ _ _ _ hd hL (q_ps_c trivial hT)
  case bipush n =>
    exact hk _ _ _ _ hd hL (q_ps_c trivial hT)
  case sipush n =>
    exact hk _ _ _ _ hd hL (q_ps_c trivial hT)
  case ldc2_w n =>
    exact hk _ _ _ _ hd hL (q_ps_c trivial hT)
  case ldc n =>
    exact hk _ _ _ _ hd hL (q_ps_c hC.2.2 hT)
  case goto n =>
    exact hk _ _ _ _ hd hL hT
  case iload_n j =>
    obtain ⟨v, hv, hd⟩ := q_fi hd
    exact hk _ _ _ _ hd hL (q_ps_c trivial hT)
  case iload j =>
    obtain ⟨v, hv, hd⟩ := q_fi hd
    exact hk _ _ _ _ hd hL (q_ps_c trivial hT)
  case aload_n j =>
    obtain ⟨v, hv, hd⟩ := q_frr hd
    exact hk _ _ _ _ hd hL (q_ps_c (hL _ _ hv) hT)
  case aload j =>
    obtain ⟨v, hv, hd⟩ := q_frr hd
    exact hk _ _ _ _ hd hL (q_ps_c (hL _ _ hv) hT)
  case lload_n j =>
    obtain ⟨v, hv, hd⟩ := q_fl_ hd
    exact hk _ _ _ _ hd hL (q_ps_c trivial hT)
  case istore_n j =>
    unfold q_do at hd
    simp only at hd
    split at hd
    · exact hk _ _ _ _ (q_fs1 hd) (q_pl_set hL (fun v hv => by cases hv; trivial)) (q_ps_t hT)
    · cases hd
  case istore j =>
    unfold q_do at hd
    simp only at hd
    split at hd
    · exact hk _ _ _ _ (q_fs1 hd) (q_pl_set hL (fun v hv => by cases hv; trivial)) (q_ps_t hT)
    · cases hd
  case astore_n j =>
    unfold q_do at hd
    simp only at hd
    split at hd
    · exact hk _ _ _ _ (q_fs1 hd) (q_pl_set hL (fun v hv => by cases hv; exact q_ps_h hT)) (q_ps_t hT)
    · cases hd
  case astore j =>
    unfold q_do at hd
    simp only at hd
    split at hd
    · exact hk _ _ _ _ (q_fs1 hd) (q_pl_set hL (fun v hv => by cases hv; exact q_ps_h hT)) (q_ps_t hT)
    · cases hd
  case lstore_n j =>
    unfold q_do at hd
    simp only at hd
    split at hd
    · exact hk _ _ _ _ (q_fs2 hd) (q_pl_set (q_pl_set hL (fun v hv => by cases hv; trivial)) (fun v hv => by cases hv)) (q_ps_t hT)
    · cases hd
  case iinc j n =>
    obtain ⟨v, hv, hd⟩ := q_fi hd
    exact hk _ _ _ _ (q_fs1 hd) (q_pl_set hL (fun v hv => by cases hv; trivial)) hT
  case iadd =>
    unfold q_do at hd
    simp only at hd
    split at hd
    · exact hk _ _ _ _ hd hL (q_ps_c trivial (q_ps_t (q_ps_t hT)))
    · cases hd
  case isub =>
    unfold q_do at hd
    simp only at hd
    split at hd
    · exact hk _ _ _ _ hd hL (q_ps_c trivial (q_ps_t (q_ps_t hT)))
    · cases hd
  case imul =>
    unfold q_do at hd
    simp only at hd
    split at hd
    · exact hk _ _ _ _ hd hL (q_ps_c trivial (q_ps_t (q_ps_t hT)))
    · cases hd
  case iand =>
    unfold q_do at hd
    simp only at hd
    split at hd
    · exact hk _ _ _ _ hd hL (q_ps_c trivial (q_ps_t (q_ps_t hT)))
    · cases hd
  case ior =>
    unfold q_do at hd
    simp only at hd
    split at hd
    · exact hk _ _ _ _ hd hL (q_ps_c trivial (q_ps_t (q_ps_t hT)))
    · cases hd
  case ishl =>
    unfold q_do at hd
    simp only at hd
    split at hd
    · exact hk _ _ _ _ hd hL (q_ps_c trivial (q_ps_t (q_ps_t hT)))
    · cases hd
  case ishr =>
    unfold q_do at hd
    simp only at hd
    split at hd
    · exact hk _ _ _ _ hd hL (q_ps_c trivial (q_ps_t (q_ps_t hT)))
    · cases hd
  case ladd =>
    unfold q_do at hd
    simp only at hd
    split at hd
    · exact hk _ _ _ _ hd hL (q_ps_c trivial (q_ps_t (q_ps_t hT)))
    · cases hd
  case lsub =>
    unfold q_do at hd
    simp only at hd
    split at hd
    · exact hk _ _ _ _ hd hL (q_ps_c trivial (q_ps_t (q_ps_t hT)))
    · cases hd
  case lmul =>
    unfold q_do at hd
    simp only at hd
    split at hd
    · exact hk _ _ _ _ hd hL (q_ps_c trivial (q_ps_t (q_ps_t hT)))
    · cases hd
  case land =>
    unfold q_do at hd
    simp only at hd
    split at hd
    · exact hk _ _ _ _ hd hL (q_ps_c trivial (q_ps_t (q_ps_t hT)))
    · cases hd
  case lor =>
    unfold q_do at hd
    simp only at hd
    split at hd
    · exact hk _ _ _ _ hd hL (q_ps_c trivial (q_ps_t (q_ps_t hT)))
    · cases hd
  case lshl =>
    unfold q_do at hd
    simp only at hd
    split at hd
    · exact hk _ _ _ _ hd hL (q_ps_c trivial (q_ps_t (q_ps_t hT)))
    · cases hd
  case lshr =>
    unfold q_do at hd
    simp only at hd
    split at hd
    · exact hk _ _ _ _ hd hL (q_ps_c trivial (q_ps_t (q_ps_t hT)))
    · cases hd
  case lushr =>
    unfold q_do at hd
    simp only at hd
    split at hd
    · exact hk _ _ _ _ hd hL (q_ps_c trivial (q_ps_t (q_ps_t hT)))
    · cases hd
  case lcmp =>
    unfold q_do at hd
    simp only at hd
    split at hd
    · exact hk _ _ _ _ hd hL (q_ps_c trivial (q_ps_t (q_ps_t hT)))
    · cases hd
  case l2i =>
    unfold q_do at hd
    simp only at hd
    split at hd
    · exact hk _ _ _ _ hd hL (q_ps_c trivial (q_ps_t hT))
    · cases hd
  case i2l =>
    unfold q_do at hd
    simp only at hd
    split at hd
    · exact hk _ _ _ _ hd hL (q_ps_c trivial (q_ps_t hT))
    · cases hd
  case i2b =>
    unfold q_do at hd
    simp only at hd
    split at hd
    · exact hk _ _ _ _ hd hL (q_ps_c trivial (q_ps_t hT))
    · cases hd
  case dup =>
    unfold q_do at hd
    simp only at hd
    split at hd
    · exact hk _ _ _ _ hd hL (q_ps_c (q_ps_h hT) hT)
    · exact hk _ _ _ _ hd hL (q_ps_c (q_ps_h hT) hT)
    · cases hd
  case dup2 =>
    unfold q_do at hd
    simp only at hd
    split at hd
    · exact hk _ _ _ _ hd hL (q_ps_c (q_ps_h hT) (q_ps_c (q_ps_h (q_ps_t hT)) hT))
    · cases hd
  case pop =>
    unfold q_do at hd
    simp only at hd
    split at hd
    · exact hk _ _ _ _ hd hL (q_ps_t hT)
    · cases hd
  case idiv =>
    unfold q_do at hd
    simp only at hd
    split at hd
    · exact hk _ _ _ _ (q_bN hd) hL (q_ps_c trivial (q_ps_t (q_ps_t hT)))
    · cases hd
  case irem =>
    unfold q_do at hd
    simp only at hd
    split at hd
    · exact hk _ _ _ _ (q_bN hd) hL (q_ps_c trivial (q_ps_t (q_ps_t hT)))
    · cases hd
  case getfield n =>
    unfold q_do at hd
    simp only at hd
    split at hd
    · have hd := q_bT hd
      cases hg : q_get _ _ _ _ _ with
      | none => rw [hg] at hd; cases hd
      | some v => rw [hg] at hd; exact hk _ _ _ _ hd hL (q_ps_c (q_pv_get hC (q_ps_h hT) hg) (q_ps_t hT))
    · cases hd
  case putfield n =>
    unfold q_do at hd
    simp only at hd
    split at hd
    · have hd := q_bT hd
      cases hg : q_put _ _ _ _ _ _ with
      | none => rw [hg] at hd; cases hd
      | some v => rw [hg] at hd; exact q_FK_tr (q_fr_put (q_ps_h (q_ps_t hT)) hg) (hk _ _ _ _ hd hL (q_ps_t (q_ps_t hT)))
    · cases hd
  case iaload =>
    unfold q_do at hd
    simp only at hd
    split at hd
    · exact hk _ _ _ _ (q_bT (q_bT hd)) hL (q_ps_c trivial (q_ps_t (q_ps_t hT)))
    · cases hd
  case baload =>
    unfold q_do at hd
    simp only at hd
    split at hd
    · exact hk _ _ _ _ (q_bT (q_bT hd)) hL (q_ps_c trivial (q_ps_t (q_ps_t hT)))
    · cases hd
  case laload =>
    unfold q_do at hd
    simp only at hd
    split at hd
    · exact hk _ _ _ _ (q_bT (q_bT hd)) hL (q_ps_c trivial (q_ps_t (q_ps_t hT)))
    · cases hd
  case aaload =>
    unfold q_do at hd
    simp only at hd
    split at hd
    · have hg := (q_gF hd).1
      exact hk _ _ _ _ (q_bT (q_bT hd)) hL (q_ps_c (hC.2.1 _ _ _ (q_ps_h (q_ps_t hT)) (q_or34 hg)) (q_ps_t (q_ps_t hT)))
    · cases hd
  case iastore =>
    unfold q_do at hd
    simp only at hd
    split at hd
    · exact q_FK_tr (q_fr_si (q_ps_h (q_ps_t (q_ps_t hT)))) (hk _ _ _ _ (q_bT (q_bT hd)) hL (q_ps_t (q_ps_t (q_ps_t hT))))
    · cases hd
  case bastore =>
    unfold q_do at hd
    simp only at hd
    split at hd
    · exact q_FK_tr (q_fr_si (q_ps_h (q_ps_t (q_ps_t hT)))) (hk _ _ _ _ (q_bT (q_bT hd)) hL (q_ps_t (q_ps_t (q_ps_t hT))))
    · cases hd
  case lastore =>
    unfold q_do at hd
    simp only at hd
    split at hd
    · exact q_FK_tr (q_fr_sl (q_ps_h (q_ps_t (q_ps_t hT)))) (hk _ _ _ _ (q_bT (q_bT hd)) hL (q_ps_t (q_ps_t (q_ps_t hT))))
    · cases hd
  case arraylength =>
    unfold q_do at hd
    simp only at hd
    split at hd
    · exact hk _ _ _ _ (q_bN hd) hL (q_ps_c trivial (q_ps_t hT))
    · cases hd
  case ifCond c n =>
    unfold q_do at hd
    simp only at hd
    split at hd
    · cases hg : q_cc _ _ _ with
      | true => rw [hg] at hd; exact hk _ _ _ _ hd hL (q_ps_t hT)
      | false => rw [hg] at hd; exact hk _ _ _ _ hd hL (q_ps_t hT)
    · cases hd
  case if_icmp c n =>
    unfold q_do at hd
    simp only at hd
    split at hd
    · cases hg : q_cc _ _ _ with
      | true => rw [hg] at hd; exact hk _ _ _ _ hd hL (q_ps_t (q_ps_t hT))
      | false => rw [hg] at hd; exact hk _ _ _ _ hd hL (q_ps_t (q_ps_t hT))
    · cases hd
  case ifnonnull n =>
    unfold q_do at hd
    simp only at hd
    split at hd
    · exact hk _ _ _ _ hd hL (q_ps_t hT)
    · cases hd
  case tableswitch dd lo hi offs =>
    unfold q_do at hd
    simp only at hd
    split at hd
    · next a st =>
      cases ht : q_ts dd lo hi offs a with
      | none => rw [ht] at hd; cases hd
      | some o => rw [ht] at hd; exact hk _ _ _ _ hd hL (q_ps_t hT)
    · cases hd
  case lookupswitch dd ps =>
    unfold q_do at hd
    simp only at hd
    split at hd
    · exact hk _ _ _ _ (q_bT hd) hL (q_ps_t hT)
    · cases hd
  case invokevirtual n =>
    unfold q_do at hd
    simp only at hd
    split at hd
    · next t s j st hst =>
      have hd := q_bT hd
      have hdr : ∀ v ∈ (.inr (.inr (t, s, j)) :: st : List q_V), v ∈ stk := fun v hv => List.mem_of_mem_drop (by rw [hst]; exact hv)
      cases hc : call (x / 512) (.inr (.inr (t, s, j)) :: (stk.take (x % 8)).reverse) _ with
      | none => rw [hc] at hd; cases hd
      | some v =>
        rw [hc] at hd
        obtain ⟨r, h2⟩ := v
        have hf := hcall _ _ _ _ hc (q_ps_c (hT _ (hdr _ List.mem_cons_self)) (fun v hv => hT v (List.mem_of_mem_take (List.mem_reverse.mp hv))))
        refine q_FK_tr hf.1 (hk _ _ _ _ hd hL (fun v hv => ?_))
        rcases List.mem_append.mp hv with hv | hv
        · cases r with
          | none => cases hv
          | some w => simp at hv; subst hv; exact hf.2 _ rfl
        · exact hT v (hdr v (List.mem_cons_of_mem _ hv))
    · cases hd
  case invokestatic n =>
    unfold q_do at hd
    simp only at hd
    cases h7 : Nat.beq x 7 with
    | true =>
      rw [h7] at hd
      simp only [cond_true] at hd
      split at hd
      · have hd := q_bT hd
        have hT' := q_ps_t (q_ps_t (q_ps_t (q_ps_t (q_ps_t hT))))
        have hp := q_ps_h (q_ps_t (q_ps_t hT))
        cases hg : (Nat.beq (q_at _) 0 && Nat.beq (q_at _) 0) with
        | true => rw [hg] at hd; exact q_FK_tr (q_fr_acp hp) (hk _ _ _ _ hd hL hT')
        | false =>
          rw [hg] at hd
          simp only [cond_false] at hd
          exact q_FK_tr (q_fr_acl hp) (hk _ _ _ _ (q_bT hd) hL hT')
      · cases hd
    | false =>
      rw [h7] at hd
      simp only [cond_false] at hd
      cases h8 : Nat.beq x 1538 with
      | true =>
        rw [h8] at hd
        simp only [cond_true] at hd
        split at hd
        · exact hk _ _ _ _ (q_bT hd) hL (q_ps_c trivial (q_ps_t (q_ps_t hT)))
        · cases hd
      | false =>
        rw [h8] at hd
        simp only [cond_false] at hd
        have hd := q_bT hd
        cases hc : call (x / 512) (stk.take (x % 8)).reverse _ with
        | none => rw [hc] at hd; cases hd
        | some v =>
          rw [hc] at hd
          obtain ⟨r, h2⟩ := v
          have hf := hcall _ _ _ _ hc (fun v hv => hT v (List.mem_of_mem_take (List.mem_reverse.mp hv)))
          refine q_FK_tr hf.1 (hk _ _ _ _ hd hL (fun v hv => ?_))
          rcases List.mem_append.mp hv with hv | hv
          · cases r with
            | none => cases hv
            | some w => simp at hv; subst hv; exact hf.2 _ rfl
          · exact hT v (List.mem_of_mem_drop hv)
  case ireturn =>
    unfold q_do at hd
    simp only at hd
    split at hd
    · cases hg : (Nat.beq x 0 || q_01 _) with
      | true => rw [hg] at hd; cases hd; exact ⟨q_fr_rf, fun v hv => by cases hv; trivial⟩
      | false => rw [hg] at hd; cases hd
    · cases hd
  case areturn =>
    unfold q_do at hd
    simp only at hd
    split at hd
    · cases hd; exact ⟨q_fr_rf, fun v hv => by cases hv; exact q_ps_h hT⟩
    · cases hd
  case return_ =>
    unfold q_do at hd
    simp only at hd
    split at hd
    · cases hd; exact ⟨q_fr_rf, fun v hv => by cases hv⟩
    · cases hd
theorem q_ex_fr {P : Nat → Nat → Prop} (hC : q_PC P) {call : Nat → List q_V → q_H → Option q_O} (hcall : ∀ m av h res, call m av h = some res → q_ps P av → q_FK P h res) {c : q_C} {res : q_O} : ∀ (n pc : Nat) (loc : q_L) (stk : List q_V) (h : q_H), q_ex call c n pc loc stk h = some res → q_pl P loc → q_ps P stk → q_FK P h res := by
  intro n
  induction n with
  | zero => intro pc loc stk h hd; cases hd
  | succ n ih =>
    intro pc loc stk h hd hL hT
    unfold q_ex at hd
    cases ho : q_lk c pc with
    | none => rw [ho] at hd; cases hd
    | some op => rw [ho] at hd; exact q_do_fr hC hcall (fun pc loc stk h => ih pc loc stk h) hL hT hd
theorem q_l0_pl {P : Nat → Nat → Prop} : ∀ (av : List q_V) (m : Nat), q_ps P av → q_pl P (q_l0 m av) := by
  intro av
  induction av with
  | nil =>
    intro m _ j v h
    unfold q_l0 at h
    rw [List.getElem?_replicate] at h
    split at h <;> cases h
  | cons a av ih =>
    intro m hv j v h
    rcases a with x | x | x
    · cases j with
      | zero => cases h; trivial
      | succ j => exact ih (m - 1) (q_ps_t hv) j v h
    · cases j with
      | zero => cases h; trivial
      | succ j =>
        cases j with
        | zero => cases h
        | succ j => exact ih (m - 2) (q_ps_t hv) j v h
    · cases j with
      | zero => cases h; exact q_ps_h hv
      | succ j => exact ih (m - 1) (q_ps_t hv) j v h
theorem q_xt_fr {P : Nat → Nat → Prop} {m : Nat} {av : List q_V} {h : q_H} {res : q_O} (hd : q_xt m av h = some res) : q_FK P h res := by
  unfold q_xt at hd
  cases h1 : Nat.beq m 1 with
  | true =>
    rw [h1] at hd
    simp only [cond_true] at hd
    split at hd
    · split at hd
      · cases hd; exact ⟨q_fr_rf, fun v hv => by cases hv; trivial⟩
      · cases hd
    · cases hd
  | false =>
    rw [h1] at hd
    simp only [cond_false] at hd
    have hd := q_bT hd
    split at hd
    · split at hd
      · have hd := q_bT hd
        cases hd; exact ⟨q_fr_rf, fun v hv => by cases hv; trivial⟩
      · cases hd
    · cases hd
theorem q_call_fr {P : Nat → Nat → Prop} (hC : q_PC P) (n : Nat) : ∀ (d m : Nat) (av : List q_V) (h : q_H) (res : q_O), q_call n d m av h = some res → q_ps P av → q_FK P h res := by
  intro d
  induction d with
  | zero => intro m av h res hd; cases hd
  | succ d ih =>
    intro m av h res hd hav
    have hd : (bif Nat.ble m 3 then (bif Nat.ble 4 d then q_xt m av h else none) else (bif Nat.ble (q_ct av) (q_ml m) then q_ex (q_call n d) (q_M m) n 0 (q_l0 (q_ml m) av) [] h else none)) = some res := hd
    cases hb : Nat.ble m 3 with
    | true => rw [hb] at hd; exact q_xt_fr (q_bT hd)
    | false => rw [hb] at hd; exact q_ex_fr hC ih n 0 _ [] h (q_bT hd) (q_l0_pl av _ hav) (fun v hv => by cases hv)
theorem q_T_fr {P : Nat → Nat → Prop} (hC : q_PC P) {d m : Nat} {av : List q_V} {h : q_H} {res : q_O} (hT : q_T d m av h res) (hav : q_ps P av) : q_fr P h res.2 := by
  obtain ⟨n0, hT⟩ := hT
  exact (q_call_fr hC n0 d m av h res (hT n0 (Nat.le_refl _)) hav).1
