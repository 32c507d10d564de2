section q_SO
variable {p : Program} {l : Launch} {e : Env} {R : Room} {s : State} {m : MethodId} {args : Array Value} {below : List Frame} {meth : Method} {c : Code}
variable {cc : ByteArray} {own nL d : Nat} {rt : Option FieldType} {D : va_G} {dom : List q_R} {ad : q_R → Nat} {cA : Nat → ClassId} {tys : List (ClassId × FieldType)} {A : Nat → Prop} {X : State → Prop}
set_option maxHeartbeats 4000000 in
set_option maxRecDepth 100000 in
theorem q_do_ok (hF : q_FX p s m args c cc own nL) (hr : meth.sig.returnType = rt) (hlocks : meth.locks = false) (hR : R = q_rm (d + 1)) (hC : q_Cx dom ad cA tys A) (hK : va_K D vwCl tys s) (hX : q_XX ad A X) (hXs : X s)
    {call : Nat → List q_V → q_H → Option q_O} (hcall : q_CALL l D dom ad cA tys A X d call) {res : q_O} {k : q_K} {i : Instr} {len x pc : Nat} {loc : q_L} {stk : List q_V} {h : q_H} {H : Heap} {locs : List Loc} {ls : Array Slot}
    (hk : q_KK p l e R s m args below meth c (MQ below (q_Qc D dom ad cA A res) args s 0 0 A) D dom ad cA A nL res k) (hdg : decode cc pc = .ok (i, len)) (hok : q_ob own rt i len x = true)
    (hP : va_P D vwCl (q_ws dom ad cA h) H) (hS : va_S A s.heap H locs) (hL : q_LR ad nL loc ls) (hV : q_okl dom loc) (hT : q_oks dom stk) (hjmp : ∀ off : Int, (i = .goto off ∨ (∃ z, i = .ifCond z off) ∨ (∃ z, i = .if_icmp z off) ∨ i = .ifnonnull off) → (0 : Int) ≤ (pc : Int) + off)
    (hsw : ∀ d lo hi offs, i = .tableswitch d lo hi offs → (0 : Int) ≤ (pc : Int) + d ∧ ∀ o ∈ offs.toList, (0 : Int) ≤ (pc : Int) + o) (hlsw : ∀ d ps, i = .lookupswitch d ps → ∀ y, (0 : Int) ≤ (pc : Int) + Op.lookupswitch.offset ps.toList d y)
    (hd : q_do call i x pc loc stk h k = some res) : W p l e R s m args below meth c H locs 0 0 (MQ below (q_Qc D dom ad cA A res) args s 0 0 A) (F0 m pc ls (stk.map (q_v ad))) := by
  have hx := hF.1
  have hb := hF.2.1
  cases i <;> first | exact absurd (show (none : Option q_O) = some res from hd) (by intro z; cases z) | skip

  case iconst n =>
    have hl : len = 1 := Nat.eq_of_beq_eq_true hok
    subst hl
    exact lv_iconst hx hb hdg rfl (hk _ _ _ _ H locs ls hd hP hS hL hV (q_oks_c trivial hT))
  case lconst n =>
    have hl : len = 1 := Nat.eq_of_beq_eq_true hok
    subst hl
    exact lv_lconst hx hb hdg rfl (hk _ _ _ _ H locs ls hd hP hS hL hV (q_oks_c trivial hT))
  case bipush n =>
    have hl : len = 2 := Nat.eq_of_beq_eq_true hok
    subst hl
    exact lv_bipush hx hb hdg rfl (hk _ _ _ _ H locs ls hd hP hS hL hV (q_oks_c trivial hT))
  case sipush n =>
    have hl : len = 3 := Nat.eq_of_beq_eq_true hok
    subst hl
    exact lv_sipush hx hb hdg rfl (hk _ _ _ _ H locs ls hd hP hS hL hV (q_oks_c trivial hT))
  case ldc idx =>
    simp only [q_ob, Bool.and_eq_true] at hok
    obtain ⟨h1, h2, h3, h4⟩ := hok
    have hl : len = 2 := Nat.eq_of_beq_eq_true h1
    have ho : own = 6 := Nat.eq_of_beq_eq_true h2
    have hx14 : x < 14 := Nat.lt_of_lt_of_le (Nat.lt_succ_self _) (Nat.le_of_ble_eq_true h3)
    have hi : q_sds.getD x 0 = idx := Nat.eq_of_beq_eq_true h4
    subst hl; subst ho; subst hi
    exact hX.2.2.2.2 p l e R s m args below meth c H locs _ cc pc x ls _ hx hb hF.2.2.2.1 hXs hS hx14 hdg (hk _ _ _ _ H locs ls hd hP hS hL hV (q_oks_c (Or.inr ⟨rfl, rfl, hx14⟩) hT))
  case ldc2_w idx =>
    simp only [q_ob, Bool.and_eq_true] at hok
    obtain ⟨h1, h2⟩ := hok
    have hl : len = 3 := Nat.eq_of_beq_eq_true h1
    subst hl
    obtain ⟨z, hz, rfl, rfl, rfl⟩ := q_any4 h2
    exact lv_ldc2 hx hb hF.2.2.2.1 (hF.2.2.2.2 _ (q_cls_ok z hz)) hdg (hk _ _ _ _ H locs ls hd hP hS hL hV (q_oks_c trivial hT))
  case iload_n j =>
    have hl : len = 1 := Nat.eq_of_beq_eq_true hok
    subst hl
    unfold q_do q_ldi at hd
    simp only at hd
    split at hd
    · next v hv => exact lv_iload_n hx hb hdg rfl (q_LR_get hL hv) (hk _ _ _ _ H locs ls hd hP hS hL hV (q_oks_c trivial hT))
    · cases hd
  case iload j =>
    have hl : len = 2 := Nat.eq_of_beq_eq_true hok
    subst hl
    unfold q_do q_ldi at hd
    simp only at hd
    split at hd
    · next v hv => exact lv_iload hx hb hdg (q_LR_get hL hv) (hk _ _ _ _ H locs ls hd hP hS hL hV (q_oks_c trivial hT))
    · cases hd
  case aload_n j =>
    have hl : len = 1 := Nat.eq_of_beq_eq_true hok
    subst hl
    unfold q_do q_ldr at hd
    simp only at hd
    split at hd
    · next v hv => exact lv_aload_n hx hb hdg rfl (q_LR_get hL hv) (hk _ _ _ _ H locs ls hd hP hS hL hV (q_oks_c (hV _ _ hv) hT))
    · cases hd
  case aload j =>
    have hl : len = 2 := Nat.eq_of_beq_eq_true hok
    subst hl
    unfold q_do q_ldr at hd
    simp only at hd
    split at hd
    · next v hv => exact lv_aload hx hb hdg (q_LR_get hL hv) (hk _ _ _ _ H locs ls hd hP hS hL hV (q_oks_c (hV _ _ hv) hT))
    · cases hd
  case lload_n j =>
    have hl : len = 1 := Nat.eq_of_beq_eq_true hok
    subst hl
    unfold q_do q_ldl at hd
    simp only at hd
    split at hd
    · next v hv => exact lv_lload_n hx hb hdg rfl (q_LR_get hL hv) (hk _ _ _ _ H locs ls hd hP hS hL hV (q_oks_c trivial hT))
    · cases hd
  case istore_n j =>
    have hl : len = 1 := Nat.eq_of_beq_eq_true hok
    subst hl
    unfold q_do at hd
    simp only at hd
    split at hd
    · next v st =>
      unfold q_st1 at hd
      cases hj : Nat.blt (j : Nat) loc.length with
      | false => rw [hj] at hd; cases hd
      | true =>
        rw [hj] at hd
        simp only [cond_true] at hd
        cases hi : q_isl loc (j : Nat) with
        | true => rw [hi] at hd; cases hd
        | false =>
          rw [hi] at hd
          simp only [cond_false] at hd
          obtain ⟨hn, lv, h1, h2⟩ := hL
          have hj2 : (j : Nat) < nL := by
            rw [← hn]
            exact Nat.lt_of_lt_of_le (Nat.lt_succ_self _) (Nat.le_of_ble_eq_true hj)
          refine lv_istore_n hx hb hdg rfl h1 hj2 rfl (fun ls' h' => ?_)
          exact hk _ _ _ _ H locs ls' hd hP hS ⟨by simp [hn], _, h', q_LR_set (nL := 0) h2 hi⟩ (q_okl_set hV trivial) (q_oks_t hT)
    · cases hd
  case istore j =>
    have hl : len = 2 := Nat.eq_of_beq_eq_true hok
    subst hl
    unfold q_do at hd
    simp only at hd
    split at hd
    · next v st =>
      unfold q_st1 at hd
      cases hj : Nat.blt j loc.length with
      | false => rw [hj] at hd; cases hd
      | true =>
        rw [hj] at hd
        simp only [cond_true] at hd
        cases hi : q_isl loc j with
        | true => rw [hi] at hd; cases hd
        | false =>
          rw [hi] at hd
          simp only [cond_false] at hd
          obtain ⟨hn, lv, h1, h2⟩ := hL
          have hj2 : j < nL := by
            rw [← hn]
            exact Nat.lt_of_lt_of_le (Nat.lt_succ_self _) (Nat.le_of_ble_eq_true hj)
          refine lv_istore hx hb hdg h1 hj2 rfl (fun ls' h' => ?_)
          exact hk _ _ _ _ H locs ls' hd hP hS ⟨by simp [hn], _, h', q_LR_set (nL := 0) h2 hi⟩ (q_okl_set hV trivial) (q_oks_t hT)
    · cases hd
  case astore_n j =>
    have hl : len = 1 := Nat.eq_of_beq_eq_true hok
    subst hl
    unfold q_do at hd
    simp only at hd
    split at hd
    · next v st =>
      unfold q_st1 at hd
      cases hj : Nat.blt (j : Nat) loc.length with
      | false => rw [hj] at hd; cases hd
      | true =>
        rw [hj] at hd
        simp only [cond_true] at hd
        cases hi : q_isl loc (j : Nat) with
        | true => rw [hi] at hd; cases hd
        | false =>
          rw [hi] at hd
          simp only [cond_false] at hd
          obtain ⟨hn, lv, h1, h2⟩ := hL
          have hj2 : (j : Nat) < nL := by
            rw [← hn]
            exact Nat.lt_of_lt_of_le (Nat.lt_succ_self _) (Nat.le_of_ble_eq_true hj)
          refine lv_astore_n hx hb hdg rfl h1 hj2 rfl (fun ls' h' => ?_)
          exact hk _ _ _ _ H locs ls' hd hP hS ⟨by simp [hn], _, h', q_LR_set (nL := 0) h2 hi⟩ (q_okl_set hV (q_oks_h hT)) (q_oks_t hT)
    · cases hd
  case astore j =>
    have hl : len = 2 := Nat.eq_of_beq_eq_true hok
    subst hl
    unfold q_do at hd
    simp only at hd
    split at hd
    · next v st =>
      unfold q_st1 at hd
      cases hj : Nat.blt j loc.length with
      | false => rw [hj] at hd; cases hd
      | true =>
        rw [hj] at hd
        simp only [cond_true] at hd
        cases hi : q_isl loc j with
        | true => rw [hi] at hd; cases hd
        | false =>
          rw [hi] at hd
          simp only [cond_false] at hd
          obtain ⟨hn, lv, h1, h2⟩ := hL
          have hj2 : j < nL := by
            rw [← hn]
            exact Nat.lt_of_lt_of_le (Nat.lt_succ_self _) (Nat.le_of_ble_eq_true hj)
          refine lv_astore hx hb hdg h1 hj2 rfl (fun ls' h' => ?_)
          exact hk _ _ _ _ H locs ls' hd hP hS ⟨by simp [hn], _, h', q_LR_set (nL := 0) h2 hi⟩ (q_okl_set hV (q_oks_h hT)) (q_oks_t hT)
    · cases hd
  case lstore_n j =>
    have hl : len = 1 := Nat.eq_of_beq_eq_true hok
    subst hl
    unfold q_do at hd
    simp only at hd
    split at hd
    · next v st =>
      unfold q_st2 at hd
      cases hj : Nat.blt ((j : Nat) + 1) loc.length with
      | false => rw [hj] at hd; cases hd
      | true =>
        rw [hj] at hd
        simp only [cond_true] at hd
        cases hi : q_isl loc (j : Nat) with
        | true => rw [hi] at hd; cases hd
        | false =>
          rw [hi] at hd
          simp only [cond_false] at hd
          obtain ⟨hn, lv, h1, h2⟩ := hL
          have hj2 : (j : Nat) + 1 < nL := by
            rw [← hn]
            exact Nat.lt_of_lt_of_le (Nat.lt_succ_self _) (Nat.le_of_ble_eq_true hj)
          refine lv_lstore_n hx hb hdg rfl h1 hj2 rfl (fun ls' h' => ?_)
          exact hk _ _ _ _ H locs ls' hd hP hS ⟨by simp [hn], _, h', q_LR_set2 h2 hi⟩ (q_okl_set2 hV) (q_oks_t hT)
    · cases hd
  case iinc j n =>
    have hl : len = 3 := Nat.eq_of_beq_eq_true hok
    subst hl
    unfold q_do q_ldi at hd
    simp only at hd
    split at hd
    · next v hv =>
      unfold q_st1 at hd
      cases hj : Nat.blt j loc.length with
      | false => rw [hj] at hd; cases hd
      | true =>
        rw [hj] at hd
        simp only [cond_true] at hd
        cases hi : q_isl loc j with
        | true => rw [hi] at hd; cases hd
        | false =>
          rw [hi] at hd
          simp only [cond_false] at hd
          obtain ⟨hn, lv, h1, h2⟩ := hL
          have hj2 : j < nL := by
            rw [← hn]
            exact Nat.lt_of_lt_of_le (Nat.lt_succ_self _) (Nat.le_of_ble_eq_true hj)
          obtain ⟨k0, hk0⟩ := List.getElem?_of_mem (h2 j _ hv)
          refine lv_iinc hx hb hdg h1 hk0 rfl hj2 rfl (fun ls' h' => ?_)
          exact hk _ _ _ _ H locs ls' hd hP hS ⟨by simp [hn], _, h', q_LR_set (nL := 0) (v := .inl (v + Int32.ofInt n)) h2 hi⟩ (q_okl_set hV trivial) hT
    · cases hd
  case iadd =>
    have hl : len = 1 := Nat.eq_of_beq_eq_true hok
    subst hl
    unfold q_do at hd
    simp only at hd
    split at hd
    · next b a st => exact lv_iadd hx hb hdg (hk _ _ _ _ H locs ls hd hP hS hL hV (q_oks_c trivial (q_oks_t (q_oks_t hT))))
    · cases hd
  case isub =>
    have hl : len = 1 := Nat.eq_of_beq_eq_true hok
    subst hl
    unfold q_do at hd
    simp only at hd
    split at hd
    · next b a st => exact lv_isub hx hb hdg (hk _ _ _ _ H locs ls hd hP hS hL hV (q_oks_c trivial (q_oks_t (q_oks_t hT))))
    · cases hd
  case imul =>
    have hl : len = 1 := Nat.eq_of_beq_eq_true hok
    subst hl
    unfold q_do at hd
    simp only at hd
    split at hd
    · next b a st => exact lv_imul hx hb hdg (hk _ _ _ _ H locs ls hd hP hS hL hV (q_oks_c trivial (q_oks_t (q_oks_t hT))))
    · cases hd
  case iand =>
    have hl : len = 1 := Nat.eq_of_beq_eq_true hok
    subst hl
    unfold q_do at hd
    simp only at hd
    split at hd
    · next b a st => exact lv_iand hx hb hdg (hk _ _ _ _ H locs ls hd hP hS hL hV (q_oks_c trivial (q_oks_t (q_oks_t hT))))
    · cases hd
  case ior =>
    have hl : len = 1 := Nat.eq_of_beq_eq_true hok
    subst hl
    unfold q_do at hd
    simp only at hd
    split at hd
    · next b a st => exact lv_ior hx hb hdg (hk _ _ _ _ H locs ls hd hP hS hL hV (q_oks_c trivial (q_oks_t (q_oks_t hT))))
    · cases hd
  case ishl =>
    have hl : len = 1 := Nat.eq_of_beq_eq_true hok
    subst hl
    unfold q_do at hd
    simp only at hd
    split at hd
    · next b a st => exact lv_ishl hx hb hdg (hk _ _ _ _ H locs ls hd hP hS hL hV (q_oks_c trivial (q_oks_t (q_oks_t hT))))
    · cases hd
  case ishr =>
    have hl : len = 1 := Nat.eq_of_beq_eq_true hok
    subst hl
    unfold q_do at hd
    simp only at hd
    split at hd
    · next b a st => exact lv_ishr hx hb hdg (hk _ _ _ _ H locs ls hd hP hS hL hV (q_oks_c trivial (q_oks_t (q_oks_t hT))))
    · cases hd
  case ladd =>
    have hl : len = 1 := Nat.eq_of_beq_eq_true hok
    subst hl
    unfold q_do at hd
    simp only at hd
    split at hd
    · next b a st => exact lv_ladd hx hb hdg (hk _ _ _ _ H locs ls hd hP hS hL hV (q_oks_c trivial (q_oks_t (q_oks_t hT))))
    · cases hd
  case lsub =>
    have hl : len = 1 := Nat.eq_of_beq_eq_true hok
    subst hl
    unfold q_do at hd
    simp only at hd
    split at hd
    · next b a st => exact lv_lsub hx hb hdg (hk _ _ _ _ H locs ls hd hP hS hL hV (q_oks_c trivial (q_oks_t (q_oks_t hT))))
    · cases hd
  case lmul =>
    have hl : len = 1 := Nat.eq_of_beq_eq_true hok
    subst hl
    unfold q_do at hd
    simp only at hd
    split at hd
    · next b a st => exact lv_lmul hx hb hdg (hk _ _ _ _ H locs ls hd hP hS hL hV (q_oks_c trivial (q_oks_t (q_oks_t hT))))
    · cases hd
  case land =>
    have hl : len = 1 := Nat.eq_of_beq_eq_true hok
    subst hl
    unfold q_do at hd
    simp only at hd
    split at hd
    · next b a st => exact lv_land hx hb hdg (hk _ _ _ _ H locs ls hd hP hS hL hV (q_oks_c trivial (q_oks_t (q_oks_t hT))))
    · cases hd
  case lor =>
    have hl : len = 1 := Nat.eq_of_beq_eq_true hok
    subst hl
    unfold q_do at hd
    simp only at hd
    split at hd
    · next b a st => exact lv_lor hx hb hdg (hk _ _ _ _ H locs ls hd hP hS hL hV (q_oks_c trivial (q_oks_t (q_oks_t hT))))
    · cases hd
  case lshl =>
    have hl : len = 1 := Nat.eq_of_beq_eq_true hok
    subst hl
    unfold q_do at hd
    simp only at hd
    split at hd
    · next b a st => exact lv_lshl hx hb hdg rfl (hk _ _ _ _ H locs ls hd hP hS hL hV (q_oks_c trivial (q_oks_t (q_oks_t hT))))
    · cases hd
  case lshr =>
    have hl : len = 1 := Nat.eq_of_beq_eq_true hok
    subst hl
    unfold q_do at hd
    simp only at hd
    split at hd
    · next b a st => exact lv_lshr hx hb hdg rfl (hk _ _ _ _ H locs ls hd hP hS hL hV (q_oks_c trivial (q_oks_t (q_oks_t hT))))
    · cases hd
  case lushr =>
    have hl : len = 1 := Nat.eq_of_beq_eq_true hok
    subst hl
    unfold q_do at hd
    simp only at hd
    split at hd
    · next b a st => exact lv_lushr hx hb hdg rfl (hk _ _ _ _ H locs ls hd hP hS hL hV (q_oks_c trivial (q_oks_t (q_oks_t hT))))
    · cases hd
  case lcmp =>
    have hl : len = 1 := Nat.eq_of_beq_eq_true hok
    subst hl
    unfold q_do at hd
    simp only at hd
    split at hd
    · next b a st => exact W.lcmp hx hb hdg (hk _ _ _ _ H locs ls hd hP hS hL hV (q_oks_c trivial (q_oks_t (q_oks_t hT))))
    · cases hd
  case idiv =>
    have hl : len = 1 := Nat.eq_of_beq_eq_true hok
    subst hl
    unfold q_do at hd
    simp only at hd
    split at hd
    · next b a st =>
      cases h0 : (b == 0) with
      | true => rw [h0] at hd; cases hd
      | false =>
        rw [h0] at hd
        exact lv_idiv hx hb hdg (by intro z; rw [z] at h0; cases h0) (hk _ _ _ _ H locs ls hd hP hS hL hV (q_oks_c trivial (q_oks_t (q_oks_t hT))))
    · cases hd
  case irem =>
    have hl : len = 1 := Nat.eq_of_beq_eq_true hok
    subst hl
    unfold q_do at hd
    simp only at hd
    split at hd
    · next b a st =>
      cases h0 : (b == 0) with
      | true => rw [h0] at hd; cases hd
      | false =>
        rw [h0] at hd
        exact lv_irem hx hb hdg (by intro z; rw [z] at h0; cases h0) (hk _ _ _ _ H locs ls hd hP hS hL hV (q_oks_c trivial (q_oks_t (q_oks_t hT))))
    · cases hd
  case i2l =>
    have hl : len = 1 := Nat.eq_of_beq_eq_true hok
    subst hl
    unfold q_do at hd
    simp only at hd
    split at hd
    · next a st => exact lv_i2l hx hb hdg rfl (hk _ _ _ _ H locs ls hd hP hS hL hV (q_oks_c trivial (q_oks_t hT)))
    · cases hd
  case l2i =>
    have hl : len = 1 := Nat.eq_of_beq_eq_true hok
    subst hl
    unfold q_do at hd
    simp only at hd
    split at hd
    · next a st => exact lv_l2i hx hb hdg rfl (hk _ _ _ _ H locs ls hd hP hS hL hV (q_oks_c trivial (q_oks_t hT)))
    · cases hd
  case i2b =>
    have hl : len = 1 := Nat.eq_of_beq_eq_true hok
    subst hl
    unfold q_do at hd
    simp only at hd
    split at hd
    · next a st => exact lv_i2b hx hb hdg rfl (hk _ _ _ _ H locs ls hd hP hS hL hV (q_oks_c trivial (q_oks_t hT)))
    · cases hd
  case dup =>
    have hl : len = 1 := Nat.eq_of_beq_eq_true hok
    subst hl
    unfold q_do at hd
    simp only at hd
    split at hd
    · next a st => exact lv_dup hx hb hdg rfl (hk _ _ _ _ H locs ls hd hP hS hL hV (q_oks_c (q_oks_h hT) hT))
    · next a st => exact lv_dup hx hb hdg rfl (hk _ _ _ _ H locs ls hd hP hS hL hV (q_oks_c (q_oks_h hT) hT))
    · cases hd
  case dup2 =>
    have hl : len = 1 := Nat.eq_of_beq_eq_true hok
    subst hl
    unfold q_do at hd
    simp only at hd
    split at hd
    · next b a st => exact lv_dup2_11 hx hb hdg rfl rfl (hk _ _ _ _ H locs ls hd hP hS hL hV (q_oks_c (q_oks_h hT) (q_oks_c (q_oks_h (q_oks_t hT)) hT)))
    · cases hd
  case pop =>
    have hl : len = 1 := Nat.eq_of_beq_eq_true hok
    subst hl
    unfold q_do at hd
    simp only at hd
    split at hd
    · next b st => exact lv_pop hx hb hdg rfl (hk _ _ _ _ H locs ls hd hP hS hL hV (q_oks_t hT))
    · cases hd
  case getfield idx =>
    simp only [q_ob, Bool.and_eq_true] at hok
    obtain ⟨h1, h2⟩ := hok
    have hl : len = 3 := Nat.eq_of_beq_eq_true h1
    subst hl
    obtain ⟨z, hz, z1, z2, z3⟩ := q_any4 h2
    have hfw := q_fls_ok z hz
    rw [z1, z2, z3] at hfw
    unfold q_do at hd
    simp only at hd
    split at hd
    · next t s' j st =>
      cases hb1 : Nat.beq t (x / 32) with
      | false => rw [hb1] at hd; cases hd
      | true =>
        rw [hb1] at hd
        simp only [cond_true] at hd
        cases hg : q_get t (x % 32) s' j h with
        | none => rw [hg] at hd; cases hd
        | some v =>
          rw [hg] at hd
          have hr1 : (t, s', j) ∈ dom := q_okd (q_oks_h hT) (fun z60 => by
            subst z60
            unfold q_get at hg
            rw [show q_fl 60 = [] from rfl] at hg
            simp at hg)
          exact q_s_get hF hK hP hr1 (Nat.eq_of_beq_eq_true hb1) hg hfw hdg (hk _ _ _ _ H locs ls hd hP hS hL hV (q_oks_c (q_get_ok hC hr1 hg) (q_oks_t hT)))
    · cases hd
  case putfield idx =>
    simp only [q_ob, Bool.and_eq_true] at hok
    obtain ⟨h1, h2⟩ := hok
    have hl : len = 3 := Nat.eq_of_beq_eq_true h1
    subst hl
    obtain ⟨z, hz, z1, z2, z3⟩ := q_any4 h2
    have hfw := q_fls_ok z hz
    rw [z1, z2, z3] at hfw
    unfold q_do at hd
    simp only at hd
    split at hd
    · next v t s' j st =>
      cases hb1 : Nat.beq t (x / 32) with
      | false => rw [hb1] at hd; cases hd
      | true =>
        rw [hb1] at hd
        simp only [cond_true] at hd
        cases hg : q_put t (x % 32) s' j v h with
        | none => rw [hg] at hd; cases hd
        | some h1 =>
          rw [hg] at hd
          have hr1 : (t, s', j) ∈ dom := q_okd (q_oks_h (q_oks_t hT)) (fun z60 => by
            subst z60
            unfold q_put at hg
            rw [show q_fl 60 = [] from rfl] at hg
            simp at hg)
          exact q_s_put hF hC hK hP hS hr1 (Nat.eq_of_beq_eq_true hb1) hg hfw hdg (fun H1 locs1 hP1 hS1 => hk _ _ _ _ H1 locs1 ls hd hP1 hS1 hL hV (q_oks_t (q_oks_t hT)))
    · cases hd
  case iaload =>
    have hl : len = 1 := Nat.eq_of_beq_eq_true hok
    subst hl
    unfold q_do at hd
    simp only at hd
    split at hd
    · next j t s' i' st =>
      cases hb1 : Nat.beq (q_at t) 0 with
      | false => rw [hb1] at hd; cases hd
      | true =>
        rw [hb1] at hd
        simp only [cond_true] at hd
        cases hb2 : q_in j (q_al t) with
        | false => rw [hb2] at hd; cases hd
        | true =>
          rw [hb2] at hd
          simp only [cond_true] at hd
          have ha := Nat.eq_of_beq_eq_true hb1
          have hr1 : (t, s', i') ∈ dom := q_okd (q_oks_h (q_oks_t hT)) (fun z60 => by subst z60; revert ha; decide)
          exact q_s_iald hF hC hK hP hr1 ha hb2 hdg (hk _ _ _ _ H locs ls hd hP hS hL hV (q_oks_c trivial (q_oks_t (q_oks_t hT))))
    · cases hd
  case baload =>
    have hl : len = 1 := Nat.eq_of_beq_eq_true hok
    subst hl
    unfold q_do at hd
    simp only at hd
    split at hd
    · next j t s' i' st =>
      cases hb1 : Nat.beq (q_at t) 1 with
      | false => rw [hb1] at hd; cases hd
      | true =>
        rw [hb1] at hd
        simp only [cond_true] at hd
        cases hb2 : q_in j (q_al t) with
        | false => rw [hb2] at hd; cases hd
        | true =>
          rw [hb2] at hd
          simp only [cond_true] at hd
          have ha := Nat.eq_of_beq_eq_true hb1
          have hr1 : (t, s', i') ∈ dom := q_okd (q_oks_h (q_oks_t hT)) (fun z60 => by subst z60; revert ha; decide)
          exact q_s_bald hF hC hK hP hr1 ha hb2 hdg (hk _ _ _ _ H locs ls hd hP hS hL hV (q_oks_c trivial (q_oks_t (q_oks_t hT))))
    · cases hd
  case laload =>
    have hl : len = 1 := Nat.eq_of_beq_eq_true hok
    subst hl
    unfold q_do at hd
    simp only at hd
    split at hd
    · next j t s' i' st =>
      cases hb1 : Nat.beq (q_at t) 2 with
      | false => rw [hb1] at hd; cases hd
      | true =>
        rw [hb1] at hd
        simp only [cond_true] at hd
        cases hb2 : q_in j (q_al t) with
        | false => rw [hb2] at hd; cases hd
        | true =>
          rw [hb2] at hd
          simp only [cond_true] at hd
          have ha := Nat.eq_of_beq_eq_true hb1
          have hr1 : (t, s', i') ∈ dom := q_okd (q_oks_h (q_oks_t hT)) (fun z60 => by subst z60; revert ha; decide)
          exact q_s_lald hF hC hK hP hr1 ha hb2 hdg (hk _ _ _ _ H locs ls hd hP hS hL hV (q_oks_c trivial (q_oks_t (q_oks_t hT))))
    · cases hd
  case aaload =>
    have hl : len = 1 := Nat.eq_of_beq_eq_true hok
    subst hl
    unfold q_do at hd
    simp only at hd
    split at hd
    · next j t s' i' st =>
      cases hb1 : (Nat.beq (q_at t) 3 || Nat.beq (q_at t) 4) with
      | false => rw [hb1] at hd; cases hd
      | true =>
        rw [hb1] at hd
        simp only [cond_true] at hd
        cases hb2 : q_in j (q_al t) with
        | false => rw [hb2] at hd; cases hd
        | true =>
          rw [hb2] at hd
          simp only [cond_true] at hd
          have ha := q_or34 hb1
          have hr1 : (t, s', i') ∈ dom := q_okd (q_oks_h (q_oks_t hT)) (fun z60 => by subst z60; revert ha; decide)
          exact q_s_aald hF hC hK hP hr1 ha hb2 hdg (hk _ _ _ _ H locs ls hd hP hS hL hV (q_oks_c (Or.inl (hC.2.2.2.2.2 _ hr1 ha _ (q_in_lt hb2))) (q_oks_t (q_oks_t hT))))
    · cases hd
  case iastore =>
    have hl : len = 1 := Nat.eq_of_beq_eq_true hok
    subst hl
    unfold q_do at hd
    simp only at hd
    split at hd
    · next v j t s' i' st =>
      cases hb1 : Nat.beq (q_at t) 0 with
      | false => rw [hb1] at hd; cases hd
      | true =>
        rw [hb1] at hd
        simp only [cond_true] at hd
        cases hb2 : q_in j (q_al t) with
        | false => rw [hb2] at hd; cases hd
        | true =>
          rw [hb2] at hd
          simp only [cond_true] at hd
          have ha := Nat.eq_of_beq_eq_true hb1
          have hr1 : (t, s', i') ∈ dom := q_okd (q_oks_h (q_oks_t (q_oks_t hT))) (fun z60 => by subst z60; revert ha; decide)
          exact q_s_iast hF hC hK hP hS hr1 ha hb2 hdg (fun H1 locs1 hP1 hS1 => hk _ _ _ _ H1 locs1 ls hd hP1 hS1 hL hV (q_oks_t (q_oks_t (q_oks_t hT))))
    · cases hd
  case bastore =>
    have hl : len = 1 := Nat.eq_of_beq_eq_true hok
    subst hl
    unfold q_do at hd
    simp only at hd
    split at hd
    · next v j t s' i' st =>
      cases hb1 : Nat.beq (q_at t) 1 with
      | false => rw [hb1] at hd; cases hd
      | true =>
        rw [hb1] at hd
        simp only [cond_true] at hd
        cases hb2 : q_in j (q_al t) with
        | false => rw [hb2] at hd; cases hd
        | true =>
          rw [hb2] at hd
          simp only [cond_true] at hd
          have ha := Nat.eq_of_beq_eq_true hb1
          have hr1 : (t, s', i') ∈ dom := q_okd (q_oks_h (q_oks_t (q_oks_t hT))) (fun z60 => by subst z60; revert ha; decide)
          exact q_s_bast hF hC hK hP hS hr1 ha hb2 hdg (fun H1 locs1 hP1 hS1 => hk _ _ _ _ H1 locs1 ls hd hP1 hS1 hL hV (q_oks_t (q_oks_t (q_oks_t hT))))
    · cases hd
  case lastore =>
    have hl : len = 1 := Nat.eq_of_beq_eq_true hok
    subst hl
    unfold q_do at hd
    simp only at hd
    split at hd
    · next v j t s' i' st =>
      cases hb1 : Nat.beq (q_at t) 2 with
      | false => rw [hb1] at hd; cases hd
      | true =>
        rw [hb1] at hd
        simp only [cond_true] at hd
        cases hb2 : q_in j (q_al t) with
        | false => rw [hb2] at hd; cases hd
        | true =>
          rw [hb2] at hd
          simp only [cond_true] at hd
          have ha := Nat.eq_of_beq_eq_true hb1
          have hr1 : (t, s', i') ∈ dom := q_okd (q_oks_h (q_oks_t (q_oks_t hT))) (fun z60 => by subst z60; revert ha; decide)
          exact q_s_last hF hC hK hP hS hr1 ha hb2 hdg (fun H1 locs1 hP1 hS1 => hk _ _ _ _ H1 locs1 ls hd hP1 hS1 hL hV (q_oks_t (q_oks_t (q_oks_t hT))))
    · cases hd
  case arraylength =>
    have hl : len = 1 := Nat.eq_of_beq_eq_true hok
    subst hl
    unfold q_do at hd
    simp only at hd
    split at hd
    · next t s' i' st =>
      cases hb1 : Nat.beq (q_at t) 9 with
      | true => rw [hb1] at hd; cases hd
      | false =>
        rw [hb1] at hd
        simp only [cond_false] at hd
        have ha : ¬ q_at t = 9 := fun z => by rw [z] at hb1; cases hb1
        have hr1 : (t, s', i') ∈ dom := q_okd (q_oks_h hT) (fun z60 => by subst z60; revert ha; decide)
        exact q_s_alen hF hC hK hP hr1 ha hdg (hk _ _ _ _ H locs ls hd hP hS hL hV (q_oks_c trivial (q_oks_t hT)))
    · cases hd
  case goto off =>
    have hl : len = 3 := Nat.eq_of_beq_eq_true hok
    subst hl
    exact lv_goto hx hb hdg (q_tgt (hjmp off (Or.inl rfl))) (hk _ _ _ _ H locs ls hd hP hS hL hV hT)
  case ifCond cd off =>
    have hl : len = 3 := Nat.eq_of_beq_eq_true hok
    subst hl
    have hz := hjmp off (Or.inr (Or.inl ⟨cd, rfl⟩))
    unfold q_do at hd
    simp only at hd
    split at hd
    · next a st =>
      have hT' := q_oks_t hT
      cases cd
      case eq =>
        refine lv_if_eq hx hb hdg (q_tgt hz) (fun hc => ?_) (fun hc => ?_)
        · rw [show q_cc .eq a 0 = true from decide_eq_true hc] at hd
          exact hk _ _ _ _ H locs ls hd hP hS hL hV hT'
        · rw [show q_cc .eq a 0 = false from decide_eq_false hc] at hd
          exact hk _ _ _ _ H locs ls hd hP hS hL hV hT'
      case ne =>
        refine lv_if_ne hx hb hdg (q_tgt hz) (fun hc => ?_) (fun hc => ?_)
        · rw [show q_cc .ne a 0 = true from decide_eq_true hc] at hd
          exact hk _ _ _ _ H locs ls hd hP hS hL hV hT'
        · rw [show q_cc .ne a 0 = false from decide_eq_false (fun z => z hc)] at hd
          exact hk _ _ _ _ H locs ls hd hP hS hL hV hT'
      case lt =>
        refine lv_if_lt hx hb hdg (q_tgt hz) (fun hc => ?_) (fun hc => ?_)
        · rw [show q_cc .lt a 0 = true from decide_eq_true hc] at hd
          exact hk _ _ _ _ H locs ls hd hP hS hL hV hT'
        · rw [show q_cc .lt a 0 = false from decide_eq_false hc] at hd
          exact hk _ _ _ _ H locs ls hd hP hS hL hV hT'
      case ge =>
        refine lv_if_ge hx hb hdg (q_tgt hz) (fun hc => ?_) (fun hc => ?_)
        · rw [show q_cc .ge a 0 = true from decide_eq_true hc] at hd
          exact hk _ _ _ _ H locs ls hd hP hS hL hV hT'
        · rw [show q_cc .ge a 0 = false from decide_eq_false hc] at hd
          exact hk _ _ _ _ H locs ls hd hP hS hL hV hT'
      case gt =>
        refine lv_if_gt hx hb hdg (q_tgt hz) (fun hc => ?_) (fun hc => ?_)
        · rw [show q_cc .gt a 0 = true from decide_eq_true hc] at hd
          exact hk _ _ _ _ H locs ls hd hP hS hL hV hT'
        · rw [show q_cc .gt a 0 = false from decide_eq_false hc] at hd
          exact hk _ _ _ _ H locs ls hd hP hS hL hV hT'
      case le =>
        refine lv_if_le hx hb hdg (q_tgt hz) (fun hc => ?_) (fun hc => ?_)
        · rw [show q_cc .le a 0 = true from decide_eq_true hc] at hd
          exact hk _ _ _ _ H locs ls hd hP hS hL hV hT'
        · rw [show q_cc .le a 0 = false from decide_eq_false hc] at hd
          exact hk _ _ _ _ H locs ls hd hP hS hL hV hT'
    · cases hd
  case if_icmp cd off =>
    have hl : len = 3 := Nat.eq_of_beq_eq_true hok
    subst hl
    have hz := hjmp off (Or.inr (Or.inr (Or.inl ⟨cd, rfl⟩)))
    unfold q_do at hd
    simp only at hd
    split at hd
    · next b a st =>
      have hT' := q_oks_t (q_oks_t hT)
      cases cd
      case eq =>
        refine lv_icmp_eq hx hb hdg (q_tgt hz) (fun hc => ?_) (fun hc => ?_)
        · rw [show q_cc .eq a b = true from decide_eq_true hc] at hd
          exact hk _ _ _ _ H locs ls hd hP hS hL hV hT'
        · rw [show q_cc .eq a b = false from decide_eq_false hc] at hd
          exact hk _ _ _ _ H locs ls hd hP hS hL hV hT'
      case ne =>
        refine lv_icmp_ne hx hb hdg (q_tgt hz) (fun hc => ?_) (fun hc => ?_)
        · rw [show q_cc .ne a b = true from decide_eq_true hc] at hd
          exact hk _ _ _ _ H locs ls hd hP hS hL hV hT'
        · rw [show q_cc .ne a b = false from decide_eq_false (fun z => z hc)] at hd
          exact hk _ _ _ _ H locs ls hd hP hS hL hV hT'
      case lt =>
        refine lv_icmp_lt hx hb hdg (q_tgt hz) (fun hc => ?_) (fun hc => ?_)
        · rw [show q_cc .lt a b = true from decide_eq_true hc] at hd
          exact hk _ _ _ _ H locs ls hd hP hS hL hV hT'
        · rw [show q_cc .lt a b = false from decide_eq_false hc] at hd
          exact hk _ _ _ _ H locs ls hd hP hS hL hV hT'
      case ge =>
        refine lv_icmp_ge hx hb hdg (q_tgt hz) (fun hc => ?_) (fun hc => ?_)
        · rw [show q_cc .ge a b = true from decide_eq_true hc] at hd
          exact hk _ _ _ _ H locs ls hd hP hS hL hV hT'
        · rw [show q_cc .ge a b = false from decide_eq_false hc] at hd
          exact hk _ _ _ _ H locs ls hd hP hS hL hV hT'
      case gt =>
        refine lv_icmp_gt hx hb hdg (q_tgt hz) (fun hc => ?_) (fun hc => ?_)
        · rw [show q_cc .gt a b = true from decide_eq_true hc] at hd
          exact hk _ _ _ _ H locs ls hd hP hS hL hV hT'
        · rw [show q_cc .gt a b = false from decide_eq_false hc] at hd
          exact hk _ _ _ _ H locs ls hd hP hS hL hV hT'
      case le =>
        refine lv_icmp_le hx hb hdg (q_tgt hz) (fun hc => ?_) (fun hc => ?_)
        · rw [show q_cc .le a b = true from decide_eq_true hc] at hd
          exact hk _ _ _ _ H locs ls hd hP hS hL hV hT'
        · rw [show q_cc .le a b = false from decide_eq_false hc] at hd
          exact hk _ _ _ _ H locs ls hd hP hS hL hV hT'
    · cases hd
  case ifnonnull off =>
    have hl : len = 3 := Nat.eq_of_beq_eq_true hok
    subst hl
    have hz := hjmp off (Or.inr (Or.inr (Or.inr rfl)))
    unfold q_do at hd
    simp only at hd
    split at hd
    · next a st => exact lv_ifnonnull hx hb hdg (q_tgt hz) (hk _ _ _ _ H locs ls hd hP hS hL hV (q_oks_t hT))
    · cases hd
  case tableswitch dd lo hi offs =>
    have hz := hsw dd lo hi offs rfl
    unfold q_do at hd
    simp only at hd
    split at hd
    · next a st =>
      cases ht : q_ts dd lo hi offs a with
      | none => rw [ht] at hd; cases hd
      | some off =>
        rw [ht] at hd
        simp only at hd
        unfold q_ts at ht
        by_cases hc : a.toInt < lo ∨ hi < a.toInt
        · rw [if_pos hc] at ht
          cases ht
          exact lv_tableOut hx hb hdg hc (q_tgt hz.1) (hk _ _ _ _ H locs ls hd hP hS hL hV (q_oks_t hT))
        · rw [if_neg hc] at ht
          refine lv_tableIn hx hb hdg (fun q => hc (Or.inl q)) (fun q => hc (Or.inr q)) ht (q_tgt (hz.2 off ?_)) (hk _ _ _ _ H locs ls hd hP hS hL hV (q_oks_t hT))
          rw [← Array.getElem?_toList] at ht
          exact List.mem_of_getElem? ht
    · cases hd
  case lookupswitch dd ps =>
    have hz := hlsw dd ps rfl
    unfold q_do at hd
    simp only at hd
    split at hd
    · next a st =>
      cases ht : (ps.toList.zip (ps.toList.drop 1)).all (fun (a, next) => a.1 < next.1) with
      | false => rw [ht] at hd; cases hd
      | true =>
        rw [ht] at hd
        exact lv_lookup hx hb hdg ht rfl (q_tgt (hz _)) (hk _ _ _ _ H locs ls hd hP hS hL hV (q_oks_t hT))
    · cases hd
  case invokevirtual idx =>
    simp only [q_ob, Bool.and_eq_true] at hok
    obtain ⟨h1, h2, h3, h4, h5, h6, h7⟩ := hok
    have hl : len = 3 := Nat.eq_of_beq_eq_true h1
    subst hl
    obtain ⟨z, hz, z1, z2, z3⟩ := q_any4 h2
    have hmw := q_mls_ok z hz
    rw [z1, z2, z3] at hmw
    have hlt : x / 512 < 310 := Nat.lt_of_lt_of_le (Nat.lt_succ_self _) (Nat.le_of_ble_eq_true h6)
    have hgt : 1 ≤ x / 512 := Nat.lt_of_lt_of_le (Nat.lt_succ_self _) (Nat.le_of_ble_eq_true h7)
    unfold q_do at hd
    simp only at hd
    split at hd
    · next t s' j st hst =>
      cases hb1 : (Nat.beq t (x / 8 % 64) && Nat.ble (q_ct st) 8) with
      | false => rw [hb1] at hd; cases hd
      | true =>
        rw [hb1] at hd
        simp only [cond_true] at hd
        rw [Bool.and_eq_true] at hb1
        have ht := Nat.eq_of_beq_eq_true hb1.1
        have hct := Nat.le_of_ble_eq_true hb1.2
        cases hcl : call (x / 512) (.inr (.inr (t, s', j)) :: (stk.take (x % 8)).reverse) h with
        | none => rw [hcl] at hd; cases hd
        | some rr =>
          rw [hcl] at hd
          exact q_s_invV hF hR hC hK hX hXs hcall hk hP hS hL hV hT (Nat.eq_of_beq_eq_true h3) (Nat.eq_of_beq_eq_true h4) (by rw [ht]; exact Nat.eq_of_beq_eq_true h5) hlt hgt hmw hdg hst hct hcl hd
    · cases hd
  case invokestatic idx =>
    simp only [q_ob, Bool.and_eq_true] at hok
    obtain ⟨h1, h2⟩ := hok
    have hl : len = 3 := Nat.eq_of_beq_eq_true h1
    subst hl
    unfold q_do at hd
    simp only at hd
    cases h7 : Nat.beq x 7 with
    | true =>
      rw [h7] at hd h2
      simp only [cond_true] at hd h2
      split at hd
      · next n b t2 k2 i2 a t1 k1 i1 st =>
        exact q_s_copy hF hR hC hK hk hP hS hL hV hT h2 hdg hd
      · cases hd
    | false =>
      rw [h7] at hd h2
      simp only [cond_false, Bool.and_eq_true] at hd h2
      obtain ⟨h2, h3, h4, h5, h6⟩ := h2
      have hlt : x / 512 < 310 := Nat.lt_of_lt_of_le (Nat.lt_succ_self _) (Nat.le_of_ble_eq_true h5)
      have hgt : 1 ≤ x / 512 := Nat.lt_of_lt_of_le (Nat.lt_succ_self _) (Nat.le_of_ble_eq_true h6)
      cases h8 : Nat.beq x 1538 with
      | true =>
        rw [h8] at hd
        simp only [cond_true] at hd
        have hx2 : x = 1538 := Nat.eq_of_beq_eq_true h8
        subst hx2
        split at hd
        · next b a st => exact q_s_min hF hR hk hP hS hL hV hT h2 hdg hd
        · cases hd
      | false =>
        rw [h8] at hd
        simp only [cond_false] at hd
        cases hb1 : (Nat.ble (q_ct (stk.drop (x % 8))) 8 && Nat.ble (x % 8) stk.length) with
        | false => rw [hb1] at hd; cases hd
        | true =>
          rw [hb1] at hd
          simp only [cond_true] at hd
          rw [Bool.and_eq_true] at hb1
          cases hcl : call (x / 512) (stk.take (x % 8)).reverse h with
          | none => rw [hcl] at hd; cases hd
          | some rr =>
            rw [hcl] at hd
            exact q_s_invS hF hR hC hK hX hXs hcall hk hP hS hL hV hT (Nat.eq_of_beq_eq_true h3) (Nat.eq_of_beq_eq_true h4) hlt hgt h8 h2 hdg (Nat.le_of_ble_eq_true hb1.1) (Nat.le_of_ble_eq_true hb1.2) hcl hd
  case ireturn =>
    simp only [q_ob, Bool.and_eq_true] at hok
    obtain ⟨h1, h2⟩ := hok
    have hl : len = 1 := Nat.eq_of_beq_eq_true h1
    subst hl
    unfold q_do at hd
    simp only at hd
    split at hd
    · next v =>
      cases h0 : Nat.beq x 0 with
      | true =>
        rw [h0] at hd h2
        cases hd
        cases rt with
        | none => cases h2
        | some ty =>
          cases ty <;> first | exact W.iret hx hb hr (fun t ht _ => ⟨⟨rfl, by rw [ht]; exact hP, fun w hw => by cases hw; trivial⟩, hS.F ht⟩) hS.2.2 hdg hlocks | (cases h2; done)
      | false =>
        rw [h0] at hd h2
        cases h01 : q_01 v with
        | false => rw [h01] at hd; cases hd
        | true =>
          rw [h01] at hd
          cases hd
          cases rt with
          | none => cases h2
          | some ty =>
            cases ty <;> first | exact W.zret hx hb hr (q_n01 h01).1 (fun t ht _ => ⟨⟨rfl, by rw [ht]; exact hP, fun w hw => by cases hw; trivial⟩, hS.F ht⟩) hS.2.2 hdg hlocks | (cases h2; done)
    · cases hd
  case areturn =>
    simp only [q_ob, Bool.and_eq_true] at hok
    obtain ⟨h1, h2⟩ := hok
    have hl : len = 1 := Nat.eq_of_beq_eq_true h1
    subst hl
    unfold q_do at hd
    simp only at hd
    split at hd
    · next v =>
      cases hd
      cases rt with
      | none => cases h2
      | some ty =>
        cases ty <;> first | exact W.aret hx hb hr (Or.inl ⟨_, rfl⟩) (Or.inr ⟨_, rfl⟩) (fun t ht _ => ⟨⟨rfl, by rw [ht]; exact hP, fun w hw => by cases hw; exact q_oks_h hT⟩, hS.F ht⟩) hS.2.2 hdg hlocks | (cases h2; done)
    · cases hd
  case return_ =>
    simp only [q_ob, Bool.and_eq_true] at hok
    obtain ⟨h1, h2⟩ := hok
    have hl : len = 1 := Nat.eq_of_beq_eq_true h1
    subst hl
    unfold q_do at hd
    simp only at hd
    split at hd
    · cases hd
      cases rt with
      | none => exact W.vret hx hb hr (fun t ht _ => ⟨⟨rfl, by rw [ht]; exact hP, fun w hw => by cases hw⟩, hS.F ht⟩) hS.2.2 hdg hlocks
      | some ty => cases h2
    · cases hd
end q_SO
