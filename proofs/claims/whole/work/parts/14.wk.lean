/-! locals that are forgotten -/
def q_rl (l l' : q_L) : Prop :=
  match l, l' with
  | [], [] => True
  | a :: l, b :: l' => (a = b ∨ (a = none ∧ ∀ x : Int64, b ≠ some (.inr (.inl x)))) ∧ q_rl l l'
  | _, _ => False
theorem q_rl_len : ∀ {l l' : q_L}, q_rl l l' → l.length = l'.length := by
  intro l
  induction l with
  | nil => intro l' h; cases l' with | nil => rfl | cons => exact h.elim
  | cons a l ih => intro l' h; cases l' with | nil => exact h.elim | cons b l' => rw [List.length_cons, List.length_cons, ih h.2]
theorem q_rl_get : ∀ {l l' : q_L}, q_rl l l' → ∀ {j : Nat} {v : q_V}, l[j]? = some (some v) → l'[j]? = some (some v) := by
  intro l
  induction l with
  | nil => intro l' _ j v h; simp at h
  | cons a l ih =>
    intro l' h j v hj
    cases l' with
    | nil => exact h.elim
    | cons b l' =>
      cases j with
      | zero =>
        simp only [List.getElem?_cons_zero] at hj ⊢
        rcases h.1 with e | ⟨e, _⟩
        · rw [← e]; exact hj
        · rw [e] at hj; cases hj
      | succ j => simp only [List.getElem?_cons_succ] at hj ⊢; exact ih h.2 hj
theorem q_rl_long : ∀ {l l' : q_L}, q_rl l l' → ∀ {j : Nat} {x : Int64}, l'[j]? = some (some (.inr (.inl x))) → l[j]? = some (some (.inr (.inl x))) := by
  intro l
  induction l with
  | nil => intro l' h j x hj; cases l' with | nil => exact hj | cons => exact h.elim
  | cons a l ih =>
    intro l' h j x hj
    cases l' with
    | nil => exact h.elim
    | cons b l' =>
      cases j with
      | zero =>
        simp only [List.getElem?_cons_zero] at hj ⊢
        rcases h.1 with e | ⟨_, e⟩
        · rw [e]; exact hj
        · exact absurd (Option.some.inj hj) (e x)
      | succ j => simp only [List.getElem?_cons_succ] at hj ⊢; exact ih h.2 hj
theorem q_rl_set : ∀ {l l' : q_L}, q_rl l l' → ∀ (j : Nat) (a : Option q_V), q_rl (l.set j a) (l'.set j a) := by
  intro l
  induction l with
  | nil => intro l' h j a; cases l' with | nil => exact h | cons => exact h.elim
  | cons b l ih =>
    intro l' h j a
    cases l' with
    | nil => exact h.elim
    | cons b' l' =>
      cases j with
      | zero => exact ⟨Or.inl rfl, h.2⟩
      | succ j => exact ⟨h.1, ih h.2 j a⟩
theorem q_rl_isl {l l' : q_L} (h : q_rl l l') (j : Nat) (hj : q_isl l j = false) : q_isl l' j = false := by
  unfold q_isl at hj ⊢
  cases h0 : Nat.beq j 0 with
  | true => rfl
  | false =>
    rw [h0] at hj
    simp only [cond_false] at hj ⊢
    split
    · next x hx => rw [q_rl_long h hx] at hj; cases hj
    · rfl
theorem q_mb {α : Type} {g : Bool} {X Y X' Y' : Option α} {r : α} (h1 : X = some r → X' = some r) (h2 : Y = some r → Y' = some r) (h : (bif g then X else Y) = some r) : (bif g then X' else Y') = some r := by
  cases g with
  | true => exact h1 h
  | false => exact h2 h
theorem q_mi {l l' : q_L} (hR : q_rl l l') {j : Nat} {k k' : Int32 → Option q_O} {r : q_O} (hk : ∀ v, k v = some r → k' v = some r) (h : q_ldi l j k = some r) : q_ldi l' j k' = some r := by
  unfold q_ldi at h ⊢
  split at h
  · next v hv => rw [q_rl_get hR hv]; exact hk v h
  · cases h
theorem q_ml_ {l l' : q_L} (hR : q_rl l l') {j : Nat} {k k' : Int64 → Option q_O} {r : q_O} (hk : ∀ v, k v = some r → k' v = some r) (h : q_ldl l j k = some r) : q_ldl l' j k' = some r := by
  unfold q_ldl at h ⊢
  split at h
  · next v hv => rw [q_rl_get hR hv]; exact hk v h
  · cases h
theorem q_mr {l l' : q_L} (hR : q_rl l l') {j : Nat} {k k' : q_R → Option q_O} {r : q_O} (hk : ∀ v, k v = some r → k' v = some r) (h : q_ldr l j k = some r) : q_ldr l' j k' = some r := by
  unfold q_ldr at h ⊢
  split at h
  · next v hv => rw [q_rl_get hR hv]; exact hk v h
  · cases h
theorem q_ms1 {l l' : q_L} (hR : q_rl l l') {j : Nat} {v : q_V} {k k' : q_L → Option q_O} {r : q_O} (hk : ∀ l l', q_rl l l' → k l = some r → k' l' = some r) (h : q_st1 l j v k = some r) : q_st1 l' j v k' = some r := by
  unfold q_st1 at h ⊢
  rw [← q_rl_len hR]
  refine q_mb (fun h => ?_) (fun h => h) h
  cases hi : q_isl l j with
  | true => rw [hi] at h; cases h
  | false => rw [hi] at h; rw [q_rl_isl hR j hi]; exact hk _ _ (q_rl_set hR j _) h
theorem q_ms2 {l l' : q_L} (hR : q_rl l l') {j : Nat} {v : Int64} {k k' : q_L → Option q_O} {r : q_O} (hk : ∀ l l', q_rl l l' → k l = some r → k' l' = some r) (h : q_st2 l j v k = some r) : q_st2 l' j v k' = some r := by
  unfold q_st2 at h ⊢
  rw [← q_rl_len hR]
  refine q_mb (fun h => ?_) (fun h => h) h
  cases hi : q_isl l j with
  | true => rw [hi] at h; cases h
  | false => rw [hi] at h; rw [q_rl_isl hR j hi]; exact hk _ _ (q_rl_set (q_rl_set hR j _) _ _) h
set_option maxHeartbeats 4000000 in
set_option maxRecDepth 100000 in
theorem q_do_wk {call : Nat → List q_V → q_H → Option q_O} {k : q_K} {res : q_O} (hk : ∀ pc loc loc' stk h, q_rl loc loc' → k pc loc stk h = some res → k pc loc' stk h = some res) {i : Instr} {x pc : Nat} {loc loc' : q_L} {stk : List q_V} {h : q_H} (hR : q_rl loc loc') (hd : q_do call i x pc loc stk h k = some res) : q_do call i x pc loc' stk h k = some res := by
  cases i <;> first | exact absurd (show (none : Option q_O) = some res from hd) (by intro z; cases z) | skip
  case iconst n =>
    exact hk _ _ _ _ _ hR hd
  case lconst n =>
    exact hk _ _ _ _ _ hR hd
  case bipush n =>
    exact hk _ _ _ _ _ hR hd
  case sipush n =>
    exact hk _ _ _ _ _ hR hd
  case ldc n =>
    exact hk _ _ _ _ _ hR hd
  case ldc2_w n =>
    exact hk _ _ _ _ _ hR hd
  case goto n =>
    exact hk _ _ _ _ _ hR hd
  case iload_n j =>
    exact q_mi hR (fun v => hk _ _ _ _ _ hR) hd
  case iload j =>
    exact q_mi hR (fun v => hk _ _ _ _ _ hR) hd
  case aload_n j =>
    exact q_mr hR (fun v => hk _ _ _ _ _ hR) hd
  case aload j =>
    exact q_mr hR (fun v => hk _ _ _ _ _ hR) hd
  case lload_n j =>
    exact q_ml_ hR (fun v => hk _ _ _ _ _ hR) hd
  case istore_n j =>
    unfold q_do at hd ⊢
    simp only at hd ⊢
    split at hd
    · exact q_ms1 hR (fun l l' hR => hk _ _ _ _ _ hR) hd
    · cases hd
  case istore j =>
    unfold q_do at hd ⊢
    simp only at hd ⊢
    split at hd
    · exact q_ms1 hR (fun l l' hR => hk _ _ _ _ _ hR) hd
    · cases hd
  case astore_n j =>
    unfold q_do at hd ⊢
    simp only at hd ⊢
    split at hd
    · exact q_ms1 hR (fun l l' hR => hk _ _ _ _ _ hR) hd
    · cases hd
  case astore j =>
    unfold q_do at hd ⊢
    simp only at hd ⊢
    split at hd
    · exact q_ms1 hR (fun l l' hR => hk _ _ _ _ _ hR) hd
    · cases hd
  case lstore_n j =>
    unfold q_do at hd ⊢
    simp only at hd ⊢
    split at hd
    · exact q_ms2 hR (fun l l' hR => hk _ _ _ _ _ hR) hd
    · cases hd
  case iinc j n =>
    exact q_mi hR (fun v => q_ms1 hR (fun l l' hR => hk _ _ _ _ _ hR)) hd
  case iadd =>
    unfold q_do at hd ⊢
    simp only at hd ⊢
    split at hd
    · exact hk _ _ _ _ _ hR hd
    · cases hd
  case isub =>
    unfold q_do at hd ⊢
    simp only at hd ⊢
    split at hd
    · exact hk _ _ _ _ _ hR hd
    · cases hd
  case imul =>
    unfold q_do at hd ⊢
    simp only at hd ⊢
    split at hd
    · exact hk _ _ _ _ _ hR hd
    · cases hd
  case iand =>
    unfold q_do at hd ⊢
    simp only at hd ⊢
    split at hd
    · exact hk _ _ _ _ _ hR hd
    · cases hd
  case ior =>
    unfold q_do at hd ⊢
    simp only at hd ⊢
    split at hd
    · exact hk _ _ _ _ _ hR hd
    · cases hd
  case ishl =>
    unfold q_do at hd ⊢
    simp only at hd ⊢
    split at hd
    · exact hk _ _ _ _ _ hR hd
    · cases hd
  case ishr =>
    unfold q_do at hd ⊢
    simp only at hd ⊢
    split at hd
    · exact hk _ _ _ _ _ hR hd
    · cases hd
  case ladd =>
    unfold q_do at hd ⊢
    simp only at hd ⊢
    split at hd
    · exact hk _ _ _ _ _ hR hd
    · cases hd
  case lsub =>
    unfold q_do at hd ⊢
    simp only at hd ⊢
    split at hd
    · exact hk _ _ _ _ _ hR hd
    · cases hd
  case lmul =>
    unfold q_do at hd ⊢
    simp only at hd ⊢
    split at hd
    · exact hk _ _ _ _ _ hR hd
    · cases hd
  case land =>
    unfold q_do at hd ⊢
    simp only at hd ⊢
    split at hd
    · exact hk _ _ _ _ _ hR hd
    · cases hd
  case lor =>
    unfold q_do at hd ⊢
    simp only at hd ⊢
    split at hd
    · exact hk _ _ _ _ _ hR hd
    · cases hd
  case lshl =>
    unfold q_do at hd ⊢
    simp only at hd ⊢
    split at hd
    · exact hk _ _ _ _ _ hR hd
    · cases hd
  case lshr =>
    unfold q_do at hd ⊢
    simp only at hd ⊢
    split at hd
    · exact hk _ _ _ _ _ hR hd
    · cases hd
  case lushr =>
    unfold q_do at hd ⊢
    simp only at hd ⊢
    split at hd
    · exact hk _ _ _ _ _ hR hd
    · cases hd
  case l2i =>
    unfold q_do at hd ⊢
    simp only at hd ⊢
    split at hd
    · exact hk _ _ _ _ _ hR hd
    · cases hd
  case lcmp =>
    unfold q_do at hd ⊢
    simp only at hd ⊢
    split at hd
    · exact hk _ _ _ _ _ hR hd
    · cases hd
  case i2l =>
    unfold q_do at hd ⊢
    simp only at hd ⊢
    split at hd
    · exact hk _ _ _ _ _ hR hd
    · cases hd
  case i2b =>
    unfold q_do at hd ⊢
    simp only at hd ⊢
    split at hd
    · exact hk _ _ _ _ _ hR hd
    · cases hd
  case dup2 =>
    unfold q_do at hd ⊢
    simp only at hd ⊢
    split at hd
    · exact hk _ _ _ _ _ hR hd
    · cases hd
  case pop =>
    unfold q_do at hd ⊢
    simp only at hd ⊢
    split at hd
    · exact hk _ _ _ _ _ hR hd
    · cases hd
  case dup =>
    unfold q_do at hd ⊢
    simp only at hd ⊢
    split at hd
    · exact hk _ _ _ _ _ hR hd
    · exact hk _ _ _ _ _ hR hd
    · cases hd
  case idiv =>
    unfold q_do at hd ⊢
    simp only at hd ⊢
    split at hd
    · exact q_mb (fun z => z) (hk _ _ _ _ _ hR) hd
    · cases hd
  case irem =>
    unfold q_do at hd ⊢
    simp only at hd ⊢
    split at hd
    · exact q_mb (fun z => z) (hk _ _ _ _ _ hR) hd
    · cases hd
  case getfield n =>
    unfold q_do at hd ⊢
    simp only at hd ⊢
    split at hd
    · refine q_mb (fun h => ?_) (fun z => z) hd
      cases hg : q_get _ _ _ _ _ with
      | none => rw [hg] at h; cases h
      | some v => rw [hg] at h; exact hk _ _ _ _ _ hR h
    · cases hd
  case putfield n =>
    unfold q_do at hd ⊢
    simp only at hd ⊢
    split at hd
    · refine q_mb (fun h => ?_) (fun z => z) hd
      cases hg : q_put _ _ _ _ _ _ with
      | none => rw [hg] at h; cases h
      | some v => rw [hg] at h; exact hk _ _ _ _ _ hR h
    · cases hd
  case iaload =>
    unfold q_do at hd ⊢
    simp only at hd ⊢
    split at hd
    · exact q_mb (q_mb (hk _ _ _ _ _ hR) (fun z => z)) (fun z => z) hd
    · cases hd
  case baload =>
    unfold q_do at hd ⊢
    simp only at hd ⊢
    split at hd
    · exact q_mb (q_mb (hk _ _ _ _ _ hR) (fun z => z)) (fun z => z) hd
    · cases hd
  case laload =>
    unfold q_do at hd ⊢
    simp only at hd ⊢
    split at hd
    · exact q_mb (q_mb (hk _ _ _ _ _ hR) (fun z => z)) (fun z => z) hd
    · cases hd
  case aaload =>
    unfold q_do at hd ⊢
    simp only at hd ⊢
    split at hd
    · exact q_mb (q_mb (hk _ _ _ _ _ hR) (fun z => z)) (fun z => z) hd
    · cases hd
  case iastore =>
    unfold q_do at hd ⊢
    simp only at hd ⊢
    split at hd
    · exact q_mb (q_mb (hk _ _ _ _ _ hR) (fun z => z)) (fun z => z) hd
    · cases hd
  case bastore =>
    unfold q_do at hd ⊢
    simp only at hd ⊢
    split at hd
    · exact q_mb (q_mb (hk _ _ _ _ _ hR) (fun z => z)) (fun z => z) hd
    · cases hd
  case lastore =>
    unfold q_do at hd ⊢
    simp only at hd ⊢
    split at hd
    · exact q_mb (q_mb (hk _ _ _ _ _ hR) (fun z => z)) (fun z => z) hd
    · cases hd
  case arraylength =>
    unfold q_do at hd ⊢
    simp only at hd ⊢
    split at hd
    · exact q_mb (fun z => z) (hk _ _ _ _ _ hR) hd
    · cases hd
  case ifCond c n =>
    unfold q_do at hd ⊢
    simp only at hd ⊢
    split at hd
    · exact q_mb (hk _ _ _ _ _ hR) (hk _ _ _ _ _ hR) hd
    · cases hd
  case if_icmp c n =>
    unfold q_do at hd ⊢
    simp only at hd ⊢
    split at hd
    · exact q_mb (hk _ _ _ _ _ hR) (hk _ _ _ _ _ hR) hd
    · cases hd
  case ifnonnull n =>
    unfold q_do at hd ⊢
    simp only at hd ⊢
    split at hd
    · exact hk _ _ _ _ _ hR hd
    · cases hd
  case tableswitch dd lo hi offs =>
    unfold q_do at hd ⊢
    simp only at hd ⊢
    split at hd
    · next a st =>
      cases ht : q_ts dd lo hi offs a with
      | none => rw [ht] at hd; cases hd
      | some o => rw [ht] at hd; exact hk _ _ _ _ _ hR hd
    · cases hd
  case lookupswitch dd ps =>
    unfold q_do at hd ⊢
    simp only at hd ⊢
    split at hd
    · exact q_mb (hk _ _ _ _ _ hR) (fun z => z) hd
    · cases hd
  case invokevirtual n =>
    unfold q_do at hd ⊢
    simp only at hd ⊢
    split at hd
    · next t s j st hst =>
      refine q_mb (fun h => ?_) (fun z => z) hd
      cases hc : call (x / 512) (.inr (.inr (t, s, j)) :: (stk.take (x % 8)).reverse) _ with
      | none => rw [hc] at h; cases h
      | some v => rw [hc] at h; exact hk _ _ _ _ _ hR h
    · cases hd
  case invokestatic n =>
    unfold q_do at hd ⊢
    refine q_mb (fun h => ?_) (fun h => ?_) hd
    · split at h
      · exact q_mb (q_mb (hk _ _ _ _ _ hR) (q_mb (hk _ _ _ _ _ hR) (fun z => z))) (fun z => z) h
      · cases h
    · refine q_mb (fun h => ?_) (fun h => ?_) h
      · split at h
        · exact q_mb (hk _ _ _ _ _ hR) (fun z => z) h
        · cases h
      · refine q_mb (fun h => ?_) (fun z => z) h
        cases hc : call (x / 512) (stk.take (x % 8)).reverse _ with
        | none => rw [hc] at h; cases h
        | some v => rw [hc] at h; exact hk _ _ _ _ _ hR h
  case ireturn =>
    exact hd
  case areturn =>
    exact hd
  case return_ =>
    exact hd
theorem q_ex_wk {call : Nat → List q_V → q_H → Option q_O} {c : q_C} {res : q_O} : ∀ (n pc : Nat) (loc loc' : q_L) (stk : List q_V) (h : q_H), q_rl loc loc' → q_ex call c n pc loc stk h = some res → q_ex call c n pc loc' stk h = some res := by
  intro n
  induction n with
  | zero => intro pc loc loc' stk h _ hd; cases hd
  | succ n ih =>
    intro pc loc loc' stk h hR hd
    unfold q_ex at hd ⊢
    cases ho : q_lk c pc with
    | none => rw [ho] at hd; cases hd
    | some op => rw [ho] at hd; exact q_do_wk (fun pc loc loc' stk h => ih pc loc loc' stk h) hR hd
theorem q_wk {d : Nat} {c : q_C} {pc : Nat} {loc loc' : q_L} {stk : List q_V} {h : q_H} {res : q_O} (hR : q_rl loc loc') (k : q_E d c pc loc stk h res) : q_E d c pc loc' stk h res := by
  obtain ⟨n0, k⟩ := k
  exact ⟨n0, fun a ha b hb => q_ex_wk b pc loc loc' stk h hR (k a ha b hb)⟩
