def Tx_isGood (a1 : Int32) (h : q_H) : Option (Int32 × q_H) :=
  if ¬ (h.1 25 4 6 0) = a1 then (if ¬ (h.1 25 4 6 0) = (4 : Int32) then ((Tx_blame (2 : Int32) (h.1 25 5 6 0) h).bind fun x1 => some (((0 : Int32), x1))) else ((Tx_blame (1 : Int32) (h.1 25 5 6 0) h).bind fun x3 => some (((0 : Int32), x3)))) else (some (((1 : Int32), h)))
set_option maxRecDepth 100000 in
set_option maxHeartbeats 4000000 in
theorem eTx_isGood {d : Nat} (hd : 2 ≤ d) {a1 : Int32} {h : q_H} {r : (Int32 × q_H)} (HF : Tx_isGood a1 h = some r) : q_T d 133 [.inr (.inr (25, 6, 0)), .inl a1] h (some (.inl r.1), r.2) := by
  obtain ⟨d, rfl⟩ : ∃ d', d = d' + 1 := ⟨d - 1, by omega⟩
  refine q_ent q_K133 rfl rfl rfl ?_
  unfold Tx_isGood at HF
  refine q_br (P := ¬ (h.1 25 4 6 0) = a1) (pcT := 10) (pcF := 8) (loc' := [some (.inr (.inr (25, 6, 0))), some (.inl a1)]) (stk' := []) (h' := h) 4 (fun _ _ => rfl) (fun c6 => ?_) (fun c6 => ?_)
  · rw [if_pos c6] at HF
    refine q_br (P := ¬ (h.1 25 4 6 0) = (4 : Int32)) (pcT := 23) (pcF := 19) (loc' := [some (.inr (.inr (25, 6, 0))), some (.inl a1)]) (stk' := [.inr (.inr (25, 6, 0))]) (h' := h) 5 (fun _ _ => rfl) (fun c5 => ?_) (fun c5 => ?_)
    · rw [if_pos c5] at HF
      obtain ⟨x1, hx2, HF⟩ := q_bind HF
      refine q_cll (m' := 125) (av := [.inr (.inr (25, 6, 0)), .inl (2 : Int32), .inl (h.1 25 5 6 0)]) (st' := []) (pc' := 31) (loc' := [some (.inr (.inr (25, 6, 0))), some (.inl a1)]) (h' := h) 4 (fun _ _ => rfl) (eTx_blame (by omega) hx2) ?_
      have hz := Option.some.inj HF
      subst hz
      exact q_rtn 2 (fun _ _ => rfl)
    · rw [if_neg c5] at HF
      obtain ⟨x3, hx4, HF⟩ := q_bind HF
      refine q_cll (m' := 125) (av := [.inr (.inr (25, 6, 0)), .inl (1 : Int32), .inl (h.1 25 5 6 0)]) (st' := []) (pc' := 31) (loc' := [some (.inr (.inr (25, 6, 0))), some (.inl a1)]) (h' := h) 5 (fun _ _ => rfl) (eTx_blame (by omega) hx4) ?_
      have hz := Option.some.inj HF
      subst hz
      exact q_rtn 2 (fun _ _ => rfl)
  · rw [if_neg c6] at HF
    have hz := Option.some.inj HF
    subst hz
    exact q_rtn 2 (fun _ _ => rfl)
def Tx_byteAt (a1 : Int32) (h : q_H) : Option Int32 :=
  if (h.1 25 2 6 0) ≤ a1 then (some ((-1 : Int32))) else ((Rp_pick 26 6 a1 h).bind fun x1 => some (x1))
set_option maxRecDepth 100000 in
set_option maxHeartbeats 4000000 in
theorem eTx_byteAt {d : Nat} (hd : 2 ≤ d) {a1 : Int32} {h : q_H} {r : Int32} (HF : Tx_byteAt a1 h = some r) : q_T d 134 [.inr (.inr (25, 6, 0)), .inl a1] h (some (.inl r), h) := by
  obtain ⟨d, rfl⟩ : ∃ d', d = d' + 1 := ⟨d - 1, by omega⟩
  refine q_ent q_K134 rfl rfl rfl ?_
  unfold Tx_byteAt at HF
  refine q_br (P := (h.1 25 2 6 0) ≤ a1) (pcT := 19) (pcF := 8) (loc' := [some (.inr (.inr (25, 6, 0))), some (.inl a1)]) (stk' := []) (h' := h) 4 (fun _ _ => rfl) (fun c3 => ?_) (fun c3 => ?_)
  · rw [if_pos c3] at HF
    have hz := Option.some.inj HF
    subst hz
    exact q_rtn 2 (fun _ _ => rfl)
  · rw [if_neg c3] at HF
    obtain ⟨x1, hx2, HF⟩ := q_bind HF
    refine q_cll (m' := 60) (av := [.inr (.inr (26, 6, 0)), .inl a1]) (st' := []) (pc' := 16) (loc' := [some (.inr (.inr (25, 6, 0))), some (.inl a1)]) (h' := h) 4 (fun _ _ => rfl) (eRp_pick (by omega) hx2) ?_
    have hz := Option.some.inj HF
    subst hz
    exact q_rtn 2 (fun _ _ => rfl)
def St_isDead (k : Nat) (k1 : Nat) (i1 : Nat) (h : q_H) : Option Int32 :=
  if (h.1 3 0 k1 i1) = (1 : Int32) then (Option.bind (α := (Unit) ⊕ Int32) (if ¬ (h.1 3 11 k1 i1) = 0 then (some (.inl ())) else ((Tn_stateOf k (h.1 3 6 k1 i1) h).bind fun x5 => if ¬ x5 = (2 : Int32) then (some (.inl ())) else (some (.inr ((1 : Int32)))))) (fun z1 => match z1 with | .inl p9 => if (h.1 6 5 k 0) ≤ (h.1 3 7 k1 i1) then (some ((0 : Int32))) else ((Tn_stateOf k (h.1 3 7 k1 i1) h).bind fun x10 => if ¬ x10 = (1 : Int32) then (some ((0 : Int32))) else (some ((1 : Int32)))) | .inr z1 => some z1)) else (some ((0 : Int32)))
set_option maxRecDepth 100000 in
set_option maxHeartbeats 4000000 in
theorem eSt_isDead {d : Nat} (hd : 2 ≤ d) {k : Nat} {k1 : Nat} {i1 : Nat} {h : q_H} {r : Int32} (HF : St_isDead k k1 i1 h = some r) : q_T d 145 [.inr (.inr (0, k, 0)), .inr (.inr (3, k1, i1))] h (some (.inl r), h) := by
  obtain ⟨d, rfl⟩ : ∃ d', d = d' + 1 := ⟨d - 1, by omega⟩
  refine q_ent q_K145 rfl rfl rfl ?_
  unfold St_isDead at HF
  refine q_br (P := (h.1 3 0 k1 i1) = (1 : Int32)) (pcT := 10) (pcF := 8) (loc' := [some (.inr (.inr (0, k, 0))), some (.inr (.inr (3, k1, i1)))]) (stk' := []) (h' := h) 4 (fun _ _ => rfl) (fun c15 => ?_) (fun c15 => ?_)
  · rw [if_pos c15] at HF
    obtain ⟨z1, HA2, HK3⟩ := q_bind HF
    have hP4 : ∀ p9 : Unit, (if (h.1 6 5 k 0) ≤ (h.1 3 7 k1 i1) then (some ((0 : Int32))) else ((Tn_stateOf k (h.1 3 7 k1 i1) h).bind fun x10 => if ¬ x10 = (1 : Int32) then (some ((0 : Int32))) else (some ((1 : Int32)))) : Option Int32) = some r → q_E d q_K145 34 [some (.inr (.inr (0, k, 0))), some (.inr (.inr (3, k1, i1)))] [] h (some (.inl r), h) := by
      intro p9 HF
      refine q_br (P := (h.1 6 5 k 0) ≤ (h.1 3 7 k1 i1)) (pcT := 67) (pcF := 48) (loc' := [some (.inr (.inr (0, k, 0))), some (.inr (.inr (3, k1, i1)))]) (stk' := []) (h' := h) 6 (fun _ _ => rfl) (fun c13 => ?_) (fun c13 => ?_)
      · rw [if_pos c13] at HF
        have hz := Option.some.inj HF
        subst hz
        exact q_rtn 2 (fun _ _ => rfl)
      · rw [if_neg c13] at HF
        obtain ⟨x10, hx11, HF⟩ := q_bind HF
        refine q_cll (m' := 106) (av := [.inr (.inr (6, k, 0)), .inl (h.1 3 7 k1 i1)]) (st' := []) (pc' := 59) (loc' := [some (.inr (.inr (0, k, 0))), some (.inr (.inr (3, k1, i1)))]) (h' := h) 5 (fun _ _ => rfl) (eTn_stateOf (by omega) hx11) ?_
        refine q_br (P := ¬ x10 = (1 : Int32)) (pcT := 67) (pcF := 63) (loc' := [some (.inr (.inr (0, k, 0))), some (.inr (.inr (3, k1, i1)))]) (stk' := []) (h' := h) 2 (fun _ _ => rfl) (fun c12 => ?_) (fun c12 => ?_)
        · rw [if_pos c12] at HF
          have hz := Option.some.inj HF
          subst hz
          exact q_rtn 2 (fun _ _ => rfl)
        · rw [if_neg c12] at HF
          have hz := Option.some.inj HF
          subst hz
          exact q_rtn 3 (fun _ _ => rfl)
    replace HF := HA2
    refine q_br (P := ¬ (h.1 3 11 k1 i1) = 0) (pcT := 34) (pcF := 17) (loc' := [some (.inr (.inr (0, k, 0))), some (.inr (.inr (3, k1, i1)))]) (stk' := []) (h' := h) 3 (fun _ _ => rfl) (fun c8 => ?_) (fun c8 => ?_)
    · rw [if_pos c8] at HF
      have hz := Option.some.inj HF
      subst hz
      exact hP4 () HK3
    · rw [if_neg c8] at HF
      obtain ⟨x5, hx6, HF⟩ := q_bind HF
      refine q_cll (m' := 106) (av := [.inr (.inr (6, k, 0)), .inl (h.1 3 6 k1 i1)]) (st' := []) (pc' := 28) (loc' := [some (.inr (.inr (0, k, 0))), some (.inr (.inr (3, k1, i1)))]) (h' := h) 5 (fun _ _ => rfl) (eTn_stateOf (by omega) hx6) ?_
      refine q_br (P := ¬ x5 = (2 : Int32)) (pcT := 34) (pcF := 32) (loc' := [some (.inr (.inr (0, k, 0))), some (.inr (.inr (3, k1, i1)))]) (stk' := []) (h' := h) 2 (fun _ _ => rfl) (fun c7 => ?_) (fun c7 => ?_)
      · rw [if_pos c7] at HF
        have hz := Option.some.inj HF
        subst hz
        exact hP4 () HK3
      · rw [if_neg c7] at HF
        have hz := Option.some.inj HF
        subst hz
        replace HF := HK3
        have hz := Option.some.inj HF
        subst hz
        exact q_rtn 2 (fun _ _ => rfl)
  · rw [if_neg c15] at HF
    have hz := Option.some.inj HF
    subst hz
    exact q_rtn 2 (fun _ _ => rfl)
def St_versionsOf (k : Nat) (a1 : Int32) (h : q_H) : Option Int32 :=
  (q_lp (fun s1 : Int32 × Int32 => (if (60 : Int32) ≤ s1.2 then (some (.inr (s1.1))) else ((Pg_at k s1.2 h).bind fun x9 => (Sl_isOf k x9 a1 h).bind fun x11 => Option.bind (α := Int32) (if x11 = 0 then (some (s1.1)) else (some ((s1.1 + (1 : Int32))))) (fun p18 => some (.inl (p18, (s1.2 + (1 : Int32)))))) : Option ((Int32 × Int32) ⊕ Int32))) q_fu (((0 : Int32), (0 : Int32)) : Int32 × Int32)).bind fun z8 => some z8
set_option maxRecDepth 100000 in
set_option maxHeartbeats 4000000 in
theorem eSt_versionsOf {d : Nat} (hd : 2 ≤ d) {k : Nat} {a1 : Int32} {h : q_H} {r : Int32} (HF : St_versionsOf k a1 h = some r) : q_T d 150 [.inr (.inr (0, k, 0)), .inl a1] h (some (.inl r), h) := by
  obtain ⟨d, rfl⟩ : ∃ d', d = d' + 1 := ⟨d - 1, by omega⟩
  refine q_ent q_K150 rfl rfl rfl ?_
  unfold St_versionsOf at HF
  refine q_blk (pc' := 4) (loc' := [some (.inr (.inr (0, k, 0))), some (.inl a1), some (.inl (0 : Int32)), some (.inl (0 : Int32))]) (stk' := []) (h' := h) 4 (fun _ _ => rfl) ?_
  obtain ⟨r6, hl7, HK4⟩ := q_bind HF
  refine q_lpE (E := fun s1 => q_E d q_K150 4 [some (.inr (.inr (0, k, 0))), some (.inl a1), some (.inl s1.1), some (.inl s1.2)] [] h (some (.inl r), h)) r6 (fun s1 z8 HF H12 H23 => ?_) _ _ hl7
  refine q_br (P := (60 : Int32) ≤ s1.2) (pcT := 34) (pcF := 10) (loc' := [some (.inr (.inr (0, k, 0))), some (.inl a1), some (.inl s1.1), some (.inl s1.2)]) (stk' := []) (h' := h) 3 (fun _ _ => rfl) (fun c20 => ?_) (fun c20 => ?_)
  · rw [if_pos c20] at HF
    have hz := Option.some.inj HF
    subst hz
    replace HF := HK4
    rw [← H23 _ rfl] at HF
    have hz := Option.some.inj HF
    subst hz
    exact q_rtn 2 (fun _ _ => rfl)
  · rw [if_neg c20] at HF
    obtain ⟨x9, hx10, HF⟩ := q_bind HF
    refine q_cll (m' := 89) (av := [.inr (.inr (1, k, 0)), .inl s1.2]) (st' := []) (pc' := 18) (loc' := [some (.inr (.inr (0, k, 0))), some (.inl a1), some (.inl s1.1), some (.inl s1.2)]) (h' := h) 4 (fun _ _ => rfl) (ePg_at (by omega) hx10) ?_
    obtain ⟨x11, hx12, HF⟩ := q_bind HF
    refine q_cll (m' := 65) (av := [.inr (.inr (3, k, x9)), .inl a1]) (st' := []) (pc' := 22) (loc' := [some (.inr (.inr (0, k, 0))), some (.inl a1), some (.inl s1.1), some (.inl s1.2)]) (h' := h) 2 (fun _ _ => rfl) (eSl_isOf (by omega) hx12) ?_
    obtain ⟨z13, HA14, HK15⟩ := q_bind HF
    have hP16 : ∀ p18 : Int32, (some (.inl (p18, (s1.2 + (1 : Int32)))) : Option ((Int32 × Int32) ⊕ Int32)) = some z8 → q_E d q_K150 28 [some (.inr (.inr (0, k, 0))), some (.inl a1), some (.inl p18), some (.inl s1.2)] [] h (some (.inl r), h) := by
      intro p18 HF
      refine q_blk (pc' := 4) (loc' := [some (.inr (.inr (0, k, 0))), some (.inl a1), some (.inl p18), some (.inl (s1.2 + (1 : Int32)))]) (stk' := []) (h' := h) 2 (fun _ _ => rfl) ?_
      have hz := Option.some.inj HF
      subst hz
      exact H12 (p18, (s1.2 + (1 : Int32))) rfl
    replace HF := HA14
    refine q_br (P := x11 = 0) (pcT := 28) (pcF := 25) (loc' := [some (.inr (.inr (0, k, 0))), some (.inl a1), some (.inl s1.1), some (.inl s1.2)]) (stk' := []) (h' := h) 1 (fun _ _ => rfl) (fun c17 => ?_) (fun c17 => ?_)
    · rw [if_pos c17] at HF
      have hz := Option.some.inj HF
      subst hz
      exact hP16 (s1.1) HK15
    · rw [if_neg c17] at HF
      refine q_blk (pc' := 28) (loc' := [some (.inr (.inr (0, k, 0))), some (.inl a1), some (.inl (s1.1 + (1 : Int32))), some (.inl s1.2)]) (stk' := []) (h' := h) 1 (fun _ _ => rfl) ?_
      have hz := Option.some.inj HF
      subst hz
      exact hP16 (s1.1 + (1 : Int32)) HK15
def St_madeAhead (k : Nat) (a1 : Int32) (a2 : Int32) (h : q_H) : Option Int32 :=
  (q_lp (fun s1 : Int32 × Int32 => (if (60 : Int32) ≤ s1.2 then (some (.inr (s1.1))) else ((Pg_at k s1.2 h).bind fun x9 => (Sl_isOf k x9 a1 h).bind fun x11 => Option.bind (α := Int32) (if x11 = 0 then (some (s1.1)) else ((Pg_at k s1.2 h).bind fun x17 => if a2 ≤ (h.1 3 9 k x17) then (some (s1.1)) else (some ((s1.1 + (1 : Int32)))))) (fun p21 => some (.inl (p21, (s1.2 + (1 : Int32)))))) : Option ((Int32 × Int32) ⊕ Int32))) q_fu (((0 : Int32), (0 : Int32)) : Int32 × Int32)).bind fun z8 => some z8
set_option maxRecDepth 100000 in
set_option maxHeartbeats 4000000 in
theorem eSt_madeAhead {d : Nat} (hd : 2 ≤ d) {k : Nat} {a1 : Int32} {a2 : Int32} {h : q_H} {r : Int32} (HF : St_madeAhead k a1 a2 h = some r) : q_T d 152 [.inr (.inr (0, k, 0)), .inl a1, .inl a2] h (some (.inl r), h) := by
  obtain ⟨d, rfl⟩ : ∃ d', d = d' + 1 := ⟨d - 1, by omega⟩
  refine q_ent q_K152 rfl rfl rfl ?_
  unfold St_madeAhead at HF
  refine q_blk (pc' := 5) (loc' := [some (.inr (.inr (0, k, 0))), some (.inl a1), some (.inl a2), some (.inl (0 : Int32)), some (.inl (0 : Int32))]) (stk' := []) (h' := h) 4 (fun _ _ => rfl) ?_
  obtain ⟨r6, hl7, HK4⟩ := q_bind HF
  refine q_lpE (E := fun s1 => q_E d q_K152 5 [some (.inr (.inr (0, k, 0))), some (.inl a1), some (.inl a2), some (.inl s1.1), some (.inl s1.2)] [] h (some (.inl r), h)) r6 (fun s1 z8 HF H12 H23 => ?_) _ _ hl7
  refine q_br (P := (60 : Int32) ≤ s1.2) (pcT := 53) (pcF := 12) (loc' := [some (.inr (.inr (0, k, 0))), some (.inl a1), some (.inl a2), some (.inl s1.1), some (.inl s1.2)]) (stk' := []) (h' := h) 3 (fun _ _ => rfl) (fun c23 => ?_) (fun c23 => ?_)
  · rw [if_pos c23] at HF
    have hz := Option.some.inj HF
    subst hz
    replace HF := HK4
    rw [← H23 _ rfl] at HF
    have hz := Option.some.inj HF
    subst hz
    exact q_rtn 2 (fun _ _ => rfl)
  · rw [if_neg c23] at HF
    obtain ⟨x9, hx10, HF⟩ := q_bind HF
    refine q_cll (m' := 89) (av := [.inr (.inr (1, k, 0)), .inl s1.2]) (st' := []) (pc' := 21) (loc' := [some (.inr (.inr (0, k, 0))), some (.inl a1), some (.inl a2), some (.inl s1.1), some (.inl s1.2)]) (h' := h) 4 (fun _ _ => rfl) (ePg_at (by omega) hx10) ?_
    obtain ⟨x11, hx12, HF⟩ := q_bind HF
    refine q_cll (m' := 65) (av := [.inr (.inr (3, k, x9)), .inl a1]) (st' := []) (pc' := 25) (loc' := [some (.inr (.inr (0, k, 0))), some (.inl a1), some (.inl a2), some (.inl s1.1), some (.inl s1.2)]) (h' := h) 2 (fun _ _ => rfl) (eSl_isOf (by omega) hx12) ?_
    obtain ⟨z13, HA14, HK15⟩ := q_bind HF
    have hP16 : ∀ p21 : Int32, (some (.inl (p21, (s1.2 + (1 : Int32)))) : Option ((Int32 × Int32) ⊕ Int32)) = some z8 → q_E d q_K152 47 [some (.inr (.inr (0, k, 0))), some (.inl a1), some (.inl a2), some (.inl p21), some (.inl s1.2)] [] h (some (.inl r), h) := by
      intro p21 HF
      refine q_blk (pc' := 5) (loc' := [some (.inr (.inr (0, k, 0))), some (.inl a1), some (.inl a2), some (.inl p21), some (.inl (s1.2 + (1 : Int32)))]) (stk' := []) (h' := h) 2 (fun _ _ => rfl) ?_
      have hz := Option.some.inj HF
      subst hz
      exact H12 (p21, (s1.2 + (1 : Int32))) rfl
    replace HF := HA14
    refine q_br (P := x11 = 0) (pcT := 47) (pcF := 28) (loc' := [some (.inr (.inr (0, k, 0))), some (.inl a1), some (.inl a2), some (.inl s1.1), some (.inl s1.2)]) (stk' := []) (h' := h) 1 (fun _ _ => rfl) (fun c20 => ?_) (fun c20 => ?_)
    · rw [if_pos c20] at HF
      have hz := Option.some.inj HF
      subst hz
      exact hP16 (s1.1) HK15
    · rw [if_neg c20] at HF
      obtain ⟨x17, hx18, HF⟩ := q_bind HF
      refine q_cll (m' := 89) (av := [.inr (.inr (1, k, 0)), .inl s1.2]) (st' := []) (pc' := 37) (loc' := [some (.inr (.inr (0, k, 0))), some (.inl a1), some (.inl a2), some (.inl s1.1), some (.inl s1.2)]) (h' := h) 4 (fun _ _ => rfl) (ePg_at (by omega) hx18) ?_
      refine q_br (P := a2 ≤ (h.1 3 9 k x17)) (pcT := 47) (pcF := 44) (loc' := [some (.inr (.inr (0, k, 0))), some (.inl a1), some (.inl a2), some (.inl s1.1), some (.inl s1.2)]) (stk' := []) (h' := h) 3 (fun _ _ => rfl) (fun c19 => ?_) (fun c19 => ?_)
      · rw [if_pos c19] at HF
        have hz := Option.some.inj HF
        subst hz
        exact hP16 (s1.1) HK15
      · rw [if_neg c19] at HF
        refine q_blk (pc' := 47) (loc' := [some (.inr (.inr (0, k, 0))), some (.inl a1), some (.inl a2), some (.inl (s1.1 + (1 : Int32))), some (.inl s1.2)]) (stk' := []) (h' := h) 1 (fun _ _ => rfl) ?_
        have hz := Option.some.inj HF
        subst hz
        exact hP16 (s1.1 + (1 : Int32)) HK15
def St_isSeen (k : Nat) (a1 : Int32) (k2 : Nat) (i2 : Nat) (h : q_H) : Option Int32 :=
  Option.bind (α := (Unit) ⊕ Int32) (if ¬ (h.1 3 11 k2 i2) = 0 then (some (.inl ())) else ((Tn_isKnown k a1 (h.1 3 6 k2 i2) h).bind fun x5 => if ¬ x5 = 0 then (some (.inl ())) else (some (.inr ((0 : Int32)))))) (fun z1 => match z1 with | .inl p9 => (Tn_isKnown k a1 (h.1 3 7 k2 i2) h).bind fun x10 => if ¬ x10 = 0 then (some ((0 : Int32))) else (some ((1 : Int32))) | .inr z1 => some z1)
set_option maxRecDepth 100000 in
set_option maxHeartbeats 4000000 in
theorem eSt_isSeen {d : Nat} (hd : 2 ≤ d) {k : Nat} {a1 : Int32} {k2 : Nat} {i2 : Nat} {h : q_H} {r : Int32} (HF : St_isSeen k a1 k2 i2 h = some r) : q_T d 155 [.inr (.inr (0, k, 0)), .inl a1, .inr (.inr (3, k2, i2))] h (some (.inl r), h) := by
  obtain ⟨d, rfl⟩ : ∃ d', d = d' + 1 := ⟨d - 1, by omega⟩
  refine q_ent q_K155 rfl rfl rfl ?_
  unfold St_isSeen at HF
  obtain ⟨z1, HA2, HK3⟩ := q_bind HF
  have hP4 : ∀ p9 : Unit, ((Tn_isKnown k a1 (h.1 3 7 k2 i2) h).bind fun x10 => if ¬ x10 = 0 then (some ((0 : Int32))) else (some ((1 : Int32))) : Option Int32) = some r → q_E d q_K155 24 [some (.inr (.inr (0, k, 0))), some (.inl a1), some (.inr (.inr (3, k2, i2)))] [] h (some (.inl r), h) := by
    intro p9 HF
    obtain ⟨x10, hx11, HF⟩ := q_bind HF
    refine q_cll (m' := 111) (av := [.inr (.inr (6, k, 0)), .inl a1, .inl (h.1 3 7 k2 i2)]) (st' := []) (pc' := 36) (loc' := [some (.inr (.inr (0, k, 0))), some (.inl a1), some (.inr (.inr (3, k2, i2)))]) (h' := h) 6 (fun _ _ => rfl) (eTn_isKnown (by omega) hx11) ?_
    refine q_br (P := ¬ x10 = 0) (pcT := 43) (pcF := 39) (loc' := [some (.inr (.inr (0, k, 0))), some (.inl a1), some (.inr (.inr (3, k2, i2)))]) (stk' := []) (h' := h) 1 (fun _ _ => rfl) (fun c12 => ?_) (fun c12 => ?_)
    · rw [if_pos c12] at HF
      have hz := Option.some.inj HF
      subst hz
      exact q_rtn 2 (fun _ _ => rfl)
    · rw [if_neg c12] at HF
      have hz := Option.some.inj HF
      subst hz
      exact q_rtn 3 (fun _ _ => rfl)
  replace HF := HA2
  refine q_br (P := ¬ (h.1 3 11 k2 i2) = 0) (pcT := 24) (pcF := 7) (loc' := [some (.inr (.inr (0, k, 0))), some (.inl a1), some (.inr (.inr (3, k2, i2)))]) (stk' := []) (h' := h) 3 (fun _ _ => rfl) (fun c8 => ?_) (fun c8 => ?_)
  · rw [if_pos c8] at HF
    have hz := Option.some.inj HF
    subst hz
    exact hP4 () HK3
  · rw [if_neg c8] at HF
    obtain ⟨x5, hx6, HF⟩ := q_bind HF
    refine q_cll (m' := 111) (av := [.inr (.inr (6, k, 0)), .inl a1, .inl (h.1 3 6 k2 i2)]) (st' := []) (pc' := 19) (loc' := [some (.inr (.inr (0, k, 0))), some (.inl a1), some (.inr (.inr (3, k2, i2)))]) (h' := h) 6 (fun _ _ => rfl) (eTn_isKnown (by omega) hx6) ?_
    refine q_br (P := ¬ x5 = 0) (pcT := 24) (pcF := 22) (loc' := [some (.inr (.inr (0, k, 0))), some (.inl a1), some (.inr (.inr (3, k2, i2)))]) (stk' := []) (h' := h) 1 (fun _ _ => rfl) (fun c7 => ?_) (fun c7 => ?_)
    · rw [if_pos c7] at HF
      have hz := Option.some.inj HF
      subst hz
      exact hP4 () HK3
    · rw [if_neg c7] at HF
      have hz := Option.some.inj HF
      subst hz
      replace HF := HK3
      have hz := Option.some.inj HF
      subst hz
      exact q_rtn 2 (fun _ _ => rfl)
def St_chainFirst (k : Nat) (a1 : Int32) (h : q_H) : Option Int32 :=
  (Pg_at k a1 h).bind fun x1 => if ¬ (h.1 3 0 k x1) = (1 : Int32) then (if ¬ (h.1 3 0 k x1) = (2 : Int32) then (some ((-1 : Int32))) else (some ((h.1 3 1 k x1)))) else (some (a1))
set_option maxRecDepth 100000 in
set_option maxHeartbeats 4000000 in
theorem eSt_chainFirst {d : Nat} (hd : 2 ≤ d) {k : Nat} {a1 : Int32} {h : q_H} {r : Int32} (HF : St_chainFirst k a1 h = some r) : q_T d 157 [.inr (.inr (0, k, 0)), .inl a1] h (some (.inl r), h) := by
  obtain ⟨d, rfl⟩ : ∃ d', d = d' + 1 := ⟨d - 1, by omega⟩
  refine q_ent q_K157 rfl rfl rfl ?_
  unfold St_chainFirst at HF
  obtain ⟨x1, hx2, HF⟩ := q_bind HF
  refine q_cll (m' := 89) (av := [.inr (.inr (1, k, 0)), .inl a1]) (st' := []) (pc' := 8) (loc' := [some (.inr (.inr (0, k, 0))), some (.inl a1), none]) (h' := h) 4 (fun _ _ => rfl) (ePg_at (by omega) hx2) ?_
  refine q_br (P := ¬ (h.1 3 0 k x1) = (1 : Int32)) (pcT := 21) (pcF := 17) (loc' := [some (.inr (.inr (0, k, 0))), some (.inl a1), some (.inr (.inr (3, k, x1)))]) (stk' := []) (h' := h) 5 (fun _ _ => rfl) (fun c4 => ?_) (fun c4 => ?_)
  · rw [if_pos c4] at HF
    refine q_br (P := ¬ (h.1 3 0 k x1) = (2 : Int32)) (pcT := 36) (pcF := 29) (loc' := [some (.inr (.inr (0, k, 0))), some (.inl a1), some (.inr (.inr (3, k, x1)))]) (stk' := []) (h' := h) 4 (fun _ _ => rfl) (fun c3 => ?_) (fun c3 => ?_)
    · rw [if_pos c3] at HF
      have hz := Option.some.inj HF
      subst hz
      exact q_rtn 2 (fun _ _ => rfl)
    · rw [if_neg c3] at HF
      have hz := Option.some.inj HF
      subst hz
      exact q_rtn 4 (fun _ _ => rfl)
  · rw [if_neg c4] at HF
    have hz := Option.some.inj HF
    subst hz
    exact q_rtn 3 (fun _ _ => rfl)
def St_chainNext (k : Nat) (a1 : Int32) (h : q_H) : Option Int32 :=
  (Pg_at k a1 h).bind fun x1 => (Tn_stateOf k (h.1 3 7 k x1) h).bind fun x3 => if x3 = (-1 : Int32) then (some ((-1 : Int32))) else (if x3 = (2 : Int32) then (some ((-1 : Int32))) else ((Rp_pageOf (h.1 3 8 k x1) h).bind fun x5 => (Rp_pageOf a1 h).bind fun x7 => if x5 = x7 then ((Pg_at k (h.1 3 8 k x1) h).bind fun x9 => Option.bind (α := Int32) (if ¬ (h.1 3 0 k x9) = (1 : Int32) then (some ((0 : Int32))) else (if (h.1 3 10 k x9) = 0 then (some ((0 : Int32))) else (if ¬ (h.1 3 6 k x9) = (h.1 3 7 k x1) then (some ((0 : Int32))) else (some ((1 : Int32)))))) (fun p18 => if p18 = 0 then (some ((-1 : Int32))) else (some ((h.1 3 8 k x1))))) else (some ((-1 : Int32)))))
set_option maxRecDepth 100000 in
set_option maxHeartbeats 4000000 in
theorem eSt_chainNext {d : Nat} (hd : 2 ≤ d) {k : Nat} {a1 : Int32} {h : q_H} {r : Int32} (HF : St_chainNext k a1 h = some r) : q_T d 158 [.inr (.inr (0, k, 0)), .inl a1] h (some (.inl r), h) := by
  obtain ⟨d, rfl⟩ : ∃ d', d = d' + 1 := ⟨d - 1, by omega⟩
  refine q_ent q_K158 rfl rfl rfl ?_
  unfold St_chainNext at HF
  obtain ⟨x1, hx2, HF⟩ := q_bind HF
  refine q_cll (m' := 89) (av := [.inr (.inr (1, k, 0)), .inl a1]) (st' := []) (pc' := 8) (loc' := [some (.inr (.inr (0, k, 0))), some (.inl a1), none, none, none, none, none]) (h' := h) 4 (fun _ _ => rfl) (ePg_at (by omega) hx2) ?_
  obtain ⟨x3, hx4, HF⟩ := q_bind HF
  refine q_cll (m' := 106) (av := [.inr (.inr (6, k, 0)), .inl (h.1 3 7 k x1)]) (st' := []) (pc' := 25) (loc' := [some (.inr (.inr (0, k, 0))), some (.inl a1), some (.inr (.inr (3, k, x1))), some (.inl (h.1 3 8 k x1)), none, none, none]) (h' := h) 9 (fun _ _ => rfl) (eTn_stateOf (by omega) hx4) ?_
  refine q_br (P := x3 = (-1 : Int32)) (pcT := 50) (pcF := 33) (loc' := [some (.inr (.inr (0, k, 0))), some (.inl a1), some (.inr (.inr (3, k, x1))), some (.inl (h.1 3 8 k x1)), some (.inl x3), none, none]) (stk' := []) (h' := h) 4 (fun _ _ => rfl) (fun c23 => ?_) (fun c23 => ?_)
  · rw [if_pos c23] at HF
    have hz := Option.some.inj HF
    subst hz
    exact q_rtn 2 (fun _ _ => rfl)
  · rw [if_neg c23] at HF
    refine q_br (P := x3 = (2 : Int32)) (pcT := 50) (pcF := 39) (loc' := [some (.inr (.inr (0, k, 0))), some (.inl a1), some (.inr (.inr (3, k, x1))), some (.inl (h.1 3 8 k x1)), some (.inl x3), none, none]) (stk' := []) (h' := h) 3 (fun _ _ => rfl) (fun c22 => ?_) (fun c22 => ?_)
    · rw [if_pos c22] at HF
      have hz := Option.some.inj HF
      subst hz
      exact q_rtn 2 (fun _ _ => rfl)
    · rw [if_neg c22] at HF
      obtain ⟨x5, hx6, HF⟩ := q_bind HF
      refine q_cll (m' := 58) (av := [.inl (h.1 3 8 k x1)]) (st' := []) (pc' := 43) (loc' := [some (.inr (.inr (0, k, 0))), some (.inl a1), some (.inr (.inr (3, k, x1))), some (.inl (h.1 3 8 k x1)), some (.inl x3), none, none]) (h' := h) 2 (fun _ _ => rfl) (eRp_pageOf (by omega) hx6) ?_
      obtain ⟨x7, hx8, HF⟩ := q_bind HF
      refine q_cll (m' := 58) (av := [.inl a1]) (st' := [.inl x5]) (pc' := 47) (loc' := [some (.inr (.inr (0, k, 0))), some (.inl a1), some (.inr (.inr (3, k, x1))), some (.inl (h.1 3 8 k x1)), some (.inl x3), none, none]) (h' := h) 2 (fun _ _ => rfl) (eRp_pageOf (by omega) hx8) ?_
      refine q_br (P := x5 = x7) (pcT := 52) (pcF := 50) (loc' := [some (.inr (.inr (0, k, 0))), some (.inl a1), some (.inr (.inr (3, k, x1))), some (.inl (h.1 3 8 k x1)), some (.inl x3), none, none]) (stk' := []) (h' := h) 1 (fun _ _ => rfl) (fun c21 => ?_) (fun c21 => ?_)
      · rw [if_pos c21] at HF
        obtain ⟨x9, hx10, HF⟩ := q_bind HF
        refine q_cll (m' := 89) (av := [.inr (.inr (1, k, 0)), .inl (h.1 3 8 k x1)]) (st' := []) (pc' := 60) (loc' := [some (.inr (.inr (0, k, 0))), some (.inl a1), some (.inr (.inr (3, k, x1))), some (.inl (h.1 3 8 k x1)), some (.inl x3), none, none]) (h' := h) 4 (fun _ _ => rfl) (ePg_at (by omega) hx10) ?_
        obtain ⟨z11, HA12, HK13⟩ := q_bind HF
        have hP14 : ∀ p18 : Int32, (if p18 = 0 then (some ((-1 : Int32))) else (some ((h.1 3 8 k x1))) : Option Int32) = some r → q_E d q_K158 96 [some (.inr (.inr (0, k, 0))), some (.inl a1), some (.inr (.inr (3, k, x1))), some (.inl (h.1 3 8 k x1)), some (.inl x3), some (.inr (.inr (3, k, x9))), none] [.inl p18] h (some (.inl r), h) := by
          intro p18 HF
          refine q_br (P := p18 = 0) (pcT := 107) (pcF := 103) (loc' := [some (.inr (.inr (0, k, 0))), some (.inl a1), some (.inr (.inr (3, k, x1))), some (.inl (h.1 3 8 k x1)), some (.inl x3), some (.inr (.inr (3, k, x9))), some (.inl p18)]) (stk' := []) (h' := h) 3 (fun _ _ => rfl) (fun c19 => ?_) (fun c19 => ?_)
          · rw [if_pos c19] at HF
            have hz := Option.some.inj HF
            subst hz
            exact q_rtn 2 (fun _ _ => rfl)
          · rw [if_neg c19] at HF
            have hz := Option.some.inj HF
            subst hz
            exact q_rtn 3 (fun _ _ => rfl)
        replace HF := HA12
        refine q_br (P := ¬ (h.1 3 0 k x9) = (1 : Int32)) (pcT := 95) (pcF := 71) (loc' := [some (.inr (.inr (0, k, 0))), some (.inl a1), some (.inr (.inr (3, k, x1))), some (.inl (h.1 3 8 k x1)), some (.inl x3), some (.inr (.inr (3, k, x9))), none]) (stk' := []) (h' := h) 5 (fun _ _ => rfl) (fun c17 => ?_) (fun c17 => ?_)
        · rw [if_pos c17] at HF
          refine q_blk (pc' := 96) (loc' := [some (.inr (.inr (0, k, 0))), some (.inl a1), some (.inr (.inr (3, k, x1))), some (.inl (h.1 3 8 k x1)), some (.inl x3), some (.inr (.inr (3, k, x9))), none]) (stk' := [.inl (0 : Int32)]) (h' := h) 1 (fun _ _ => rfl) ?_
          have hz := Option.some.inj HF
          subst hz
          exact hP14 (0 : Int32) HK13
        · rw [if_neg c17] at HF
          refine q_br (P := (h.1 3 10 k x9) = 0) (pcT := 95) (pcF := 79) (loc' := [some (.inr (.inr (0, k, 0))), some (.inl a1), some (.inr (.inr (3, k, x1))), some (.inl (h.1 3 8 k x1)), some (.inl x3), some (.inr (.inr (3, k, x9))), none]) (stk' := []) (h' := h) 3 (fun _ _ => rfl) (fun c16 => ?_) (fun c16 => ?_)
          · rw [if_pos c16] at HF
            refine q_blk (pc' := 96) (loc' := [some (.inr (.inr (0, k, 0))), some (.inl a1), some (.inr (.inr (3, k, x1))), some (.inl (h.1 3 8 k x1)), some (.inl x3), some (.inr (.inr (3, k, x9))), none]) (stk' := [.inl (0 : Int32)]) (h' := h) 1 (fun _ _ => rfl) ?_
            have hz := Option.some.inj HF
            subst hz
            exact hP14 (0 : Int32) HK13
          · rw [if_neg c16] at HF
            refine q_br (P := ¬ (h.1 3 6 k x9) = (h.1 3 7 k x1)) (pcT := 95) (pcF := 91) (loc' := [some (.inr (.inr (0, k, 0))), some (.inl a1), some (.inr (.inr (3, k, x1))), some (.inl (h.1 3 8 k x1)), some (.inl x3), some (.inr (.inr (3, k, x9))), none]) (stk' := []) (h' := h) 5 (fun _ _ => rfl) (fun c15 => ?_) (fun c15 => ?_)
            · rw [if_pos c15] at HF
              refine q_blk (pc' := 96) (loc' := [some (.inr (.inr (0, k, 0))), some (.inl a1), some (.inr (.inr (3, k, x1))), some (.inl (h.1 3 8 k x1)), some (.inl x3), some (.inr (.inr (3, k, x9))), none]) (stk' := [.inl (0 : Int32)]) (h' := h) 1 (fun _ _ => rfl) ?_
              have hz := Option.some.inj HF
              subst hz
              exact hP14 (0 : Int32) HK13
            · rw [if_neg c15] at HF
              refine q_blk (pc' := 96) (loc' := [some (.inr (.inr (0, k, 0))), some (.inl a1), some (.inr (.inr (3, k, x1))), some (.inl (h.1 3 8 k x1)), some (.inl x3), some (.inr (.inr (3, k, x9))), none]) (stk' := [.inl (1 : Int32)]) (h' := h) 2 (fun _ _ => rfl) ?_
              have hz := Option.some.inj HF
              subst hz
              exact hP14 (1 : Int32) HK13
      · rw [if_neg c21] at HF
        have hz := Option.some.inj HF
        subst hz
        exact q_rtn 2 (fun _ _ => rfl)
def St_isUnended (k : Nat) (k1 : Nat) (i1 : Nat) (h : q_H) : Option Int32 :=
  if (h.1 3 7 k1 i1) = (-1 : Int32) then (some ((1 : Int32))) else ((Tn_stateOf k (h.1 3 7 k1 i1) h).bind fun x1 => if ¬ x1 = (2 : Int32) then (some ((0 : Int32))) else (some ((1 : Int32))))
set_option maxRecDepth 100000 in
set_option maxHeartbeats 4000000 in
theorem eSt_isUnended {d : Nat} (hd : 2 ≤ d) {k : Nat} {k1 : Nat} {i1 : Nat} {h : q_H} {r : Int32} (HF : St_isUnended k k1 i1 h = some r) : q_T d 172 [.inr (.inr (0, k, 0)), .inr (.inr (3, k1, i1))] h (some (.inl r), h) := by
  obtain ⟨d, rfl⟩ : ∃ d', d = d' + 1 := ⟨d - 1, by omega⟩
  refine q_ent q_K172 rfl rfl rfl ?_
  unfold St_isUnended at HF
  refine q_br (P := (h.1 3 7 k1 i1) = (-1 : Int32)) (pcT := 23) (pcF := 8) (loc' := [some (.inr (.inr (0, k, 0))), some (.inr (.inr (3, k1, i1)))]) (stk' := []) (h' := h) 4 (fun _ _ => rfl) (fun c4 => ?_) (fun c4 => ?_)
  · rw [if_pos c4] at HF
    have hz := Option.some.inj HF
    subst hz
    exact q_rtn 3 (fun _ _ => rfl)
  · rw [if_neg c4] at HF
    obtain ⟨x1, hx2, HF⟩ := q_bind HF
    refine q_cll (m' := 106) (av := [.inr (.inr (6, k, 0)), .inl (h.1 3 7 k1 i1)]) (st' := []) (pc' := 19) (loc' := [some (.inr (.inr (0, k, 0))), some (.inr (.inr (3, k1, i1)))]) (h' := h) 5 (fun _ _ => rfl) (eTn_stateOf (by omega) hx2) ?_
    refine q_br (P := ¬ x1 = (2 : Int32)) (pcT := 27) (pcF := 23) (loc' := [some (.inr (.inr (0, k, 0))), some (.inr (.inr (3, k1, i1)))]) (stk' := []) (h' := h) 2 (fun _ _ => rfl) (fun c3 => ?_) (fun c3 => ?_)
    · rw [if_pos c3] at HF
      have hz := Option.some.inj HF
      subst hz
      exact q_rtn 2 (fun _ _ => rfl)
    · rw [if_neg c3] at HF
      have hz := Option.some.inj HF
      subst hz
      exact q_rtn 3 (fun _ _ => rfl)
def Mo_isFull (a1 : Int32) (h : q_H) : Option Int32 :=
  (Mo_of a1 (0 : Int32) h).bind fun x1 => if ¬ x1 = (1 : Int32) then (some ((0 : Int32))) else (some ((1 : Int32)))
set_option maxRecDepth 100000 in
set_option maxHeartbeats 4000000 in
theorem eMo_isFull {d : Nat} (hd : 2 ≤ d) {a1 : Int32} {h : q_H} {r : Int32} (HF : Mo_isFull a1 h = some r) : q_T d 189 [.inr (.inr (30, 7, 0)), .inl a1] h (some (.inl r), h) := by
  obtain ⟨d, rfl⟩ : ∃ d', d = d' + 1 := ⟨d - 1, by omega⟩
  refine q_ent q_K189 rfl rfl rfl ?_
  unfold Mo_isFull at HF
  obtain ⟨x1, hx2, HF⟩ := q_bind HF
  refine q_cll (m' := 187) (av := [.inr (.inr (30, 7, 0)), .inl a1, .inl (0 : Int32)]) (st' := []) (pc' := 6) (loc' := [some (.inr (.inr (30, 7, 0))), some (.inl a1)]) (h' := h) 4 (fun _ _ => rfl) (eMo_of (by omega) hx2) ?_
  refine q_br (P := ¬ x1 = (1 : Int32)) (pcT := 14) (pcF := 10) (loc' := [some (.inr (.inr (30, 7, 0))), some (.inl a1)]) (stk' := []) (h' := h) 2 (fun _ _ => rfl) (fun c3 => ?_) (fun c3 => ?_)
  · rw [if_pos c3] at HF
    have hz := Option.some.inj HF
    subst hz
    exact q_rtn 2 (fun _ _ => rfl)
  · rw [if_neg c3] at HF
    have hz := Option.some.inj HF
    subst hz
    exact q_rtn 3 (fun _ _ => rfl)
def Mo_fills (a1 : Int32) (a2 : Int32) (a3 : Int32) (a4 : Int32) (a5 : Int32) (a6 : Int32) (a7 : Int32) (h : q_H) : Option q_H :=
  bif q_in ((17 : Int32) + (a1 / (10 : Int32))) 1644 then (Option.bind (α := q_H) (if ¬ (a1 - a1 / (10 : Int32) * (10 : Int32)) = (h.1 31 0 7 ((17 : Int32) + (a1 / (10 : Int32))).toNatClampNeg) then (some ((q_si h 31 0 7 11 ((h.1 31 0 7 11) + (1 : Int32))))) else (bif q_in ((17 : Int32) + (a1 / (10 : Int32))) 1644 then (bif q_in ((17 : Int32) + (a1 / (10 : Int32))) 1644 then (some ((q_si h 31 0 7 ((17 : Int32) + (a1 / (10 : Int32))).toNatClampNeg ((h.1 31 0 7 ((17 : Int32) + (a1 / (10 : Int32))).toNatClampNeg) + (1 : Int32))))) else none) else none)) (fun p8 => (Mo_sets a1 (0 : Int32) (1 : Int32) p8).bind fun x9 => (Mo_sets a1 (1 : Int32) (-1 : Int32) x9).bind fun x11 => (Mo_sets a1 (2 : Int32) a2 x11).bind fun x13 => (Mo_sets a1 (3 : Int32) a3 x13).bind fun x15 => (Mo_sets a1 (4 : Int32) a4 x15).bind fun x17 => (Mo_sets a1 (5 : Int32) a5 x17).bind fun x19 => (Mo_sets a1 (6 : Int32) a6 x19).bind fun x21 => (Mo_sets a1 (7 : Int32) (-1 : Int32) x21).bind fun x23 => (Mo_sets a1 (8 : Int32) (-1 : Int32) x23).bind fun x25 => (Mo_sets a1 (9 : Int32) (-1 : Int32) x25).bind fun x27 => if a7 = 0 then ((Mo_sets a1 (10 : Int32) (0 : Int32) x27).bind fun x29 => (Mo_sets a1 (11 : Int32) (0 : Int32) x29).bind fun x31 => (Mo_sets a1 (12 : Int32) (x31.1 31 0 7 8) x31).bind fun x33 => bif q_in ((23 : Int32) + (a1 / (10 : Int32))) 1644 then (some ((q_si (q_si x33 31 0 7 8 ((x33.1 31 0 7 8) + (1 : Int32))) 31 0 7 ((23 : Int32) + (a1 / (10 : Int32))).toNatClampNeg (0 : Int32)))) else none) else ((Mo_sets a1 (10 : Int32) (1 : Int32) x27).bind fun x36 => (Mo_sets a1 (11 : Int32) (0 : Int32) x36).bind fun x38 => (Mo_sets a1 (12 : Int32) (x38.1 31 0 7 8) x38).bind fun x40 => bif q_in ((23 : Int32) + (a1 / (10 : Int32))) 1644 then (some ((q_si (q_si x40 31 0 7 8 ((x40.1 31 0 7 8) + (1 : Int32))) 31 0 7 ((23 : Int32) + (a1 / (10 : Int32))).toNatClampNeg (0 : Int32)))) else none))) else none
set_option maxRecDepth 100000 in
set_option maxHeartbeats 4000000 in
theorem eMo_fills {d : Nat} (hd : 2 ≤ d) {a1 : Int32} {a2 : Int32} {a3 : Int32} {a4 : Int32} {a5 : Int32} {a6 : Int32} {a7 : Int32} {h : q_H} {r : q_H} (HF : Mo_fills a1 a2 a3 a4 a5 a6 a7 h = some r) : q_T d 195 [.inr (.inr (30, 7, 0)), .inl a1, .inl a2, .inl a3, .inl a4, .inl a5, .inl a6, .inl a7] h (none, r) := by
  obtain ⟨d, rfl⟩ : ∃ d', d = d' + 1 := ⟨d - 1, by omega⟩
  refine q_ent q_K195 rfl rfl rfl ?_
  unfold Mo_fills at HF
  obtain ⟨g45, HF⟩ := q_gF HF
  refine q_gd (pc' := 20) (loc' := [some (.inr (.inr (30, 7, 0))), some (.inl a1), some (.inl a2), some (.inl a3), some (.inl a4), some (.inl a5), some (.inl a6), some (.inl a7), some (.inl (a1 / (10 : Int32)))]) (stk' := [.inl (h.1 31 0 7 ((17 : Int32) + (a1 / (10 : Int32))).toNatClampNeg), .inl (a1 - a1 / (10 : Int32) * (10 : Int32))]) (h' := h) 13 (fun _ _ => rfl) g45 ?_
  obtain ⟨z1, HA2, HK3⟩ := q_bind HF
  have hP4 : ∀ p8 : q_H, ((Mo_sets a1 (0 : Int32) (1 : Int32) p8).bind fun x9 => (Mo_sets a1 (1 : Int32) (-1 : Int32) x9).bind fun x11 => (Mo_sets a1 (2 : Int32) a2 x11).bind fun x13 => (Mo_sets a1 (3 : Int32) a3 x13).bind fun x15 => (Mo_sets a1 (4 : Int32) a4 x15).bind fun x17 => (Mo_sets a1 (5 : Int32) a5 x17).bind fun x19 => (Mo_sets a1 (6 : Int32) a6 x19).bind fun x21 => (Mo_sets a1 (7 : Int32) (-1 : Int32) x21).bind fun x23 => (Mo_sets a1 (8 : Int32) (-1 : Int32) x23).bind fun x25 => (Mo_sets a1 (9 : Int32) (-1 : Int32) x25).bind fun x27 => if a7 = 0 then ((Mo_sets a1 (10 : Int32) (0 : Int32) x27).bind fun x29 => (Mo_sets a1 (11 : Int32) (0 : Int32) x29).bind fun x31 => (Mo_sets a1 (12 : Int32) (x31.1 31 0 7 8) x31).bind fun x33 => bif q_in ((23 : Int32) + (a1 / (10 : Int32))) 1644 then (some ((q_si (q_si x33 31 0 7 8 ((x33.1 31 0 7 8) + (1 : Int32))) 31 0 7 ((23 : Int32) + (a1 / (10 : Int32))).toNatClampNeg (0 : Int32)))) else none) else ((Mo_sets a1 (10 : Int32) (1 : Int32) x27).bind fun x36 => (Mo_sets a1 (11 : Int32) (0 : Int32) x36).bind fun x38 => (Mo_sets a1 (12 : Int32) (x38.1 31 0 7 8) x38).bind fun x40 => bif q_in ((23 : Int32) + (a1 / (10 : Int32))) 1644 then (some ((q_si (q_si x40 31 0 7 8 ((x40.1 31 0 7 8) + (1 : Int32))) 31 0 7 ((23 : Int32) + (a1 / (10 : Int32))).toNatClampNeg (0 : Int32)))) else none) : Option q_H) = some r → q_E d q_K195 51 [some (.inr (.inr (30, 7, 0))), some (.inl a1), some (.inl a2), some (.inl a3), some (.inl a4), some (.inl a5), some (.inl a6), some (.inl a7), some (.inl (a1 / (10 : Int32)))] [] p8 (none, r) := by
    intro p8 HF
    obtain ⟨x9, hx10, HF⟩ := q_bind HF
    refine q_cll (m' := 188) (av := [.inr (.inr (30, 7, 0)), .inl a1, .inl (0 : Int32), .inl (1 : Int32)]) (st' := []) (pc' := 58) (loc' := [some (.inr (.inr (30, 7, 0))), some (.inl a1), some (.inl a2), some (.inl a3), some (.inl a4), some (.inl a5), some (.inl a6), some (.inl a7), some (.inl (a1 / (10 : Int32)))]) (h' := p8) 5 (fun _ _ => rfl) (eMo_sets (by omega) hx10) ?_
    obtain ⟨x11, hx12, HF⟩ := q_bind HF
    refine q_cll (m' := 188) (av := [.inr (.inr (30, 7, 0)), .inl a1, .inl (1 : Int32), .inl (-1 : Int32)]) (st' := []) (pc' := 65) (loc' := [some (.inr (.inr (30, 7, 0))), some (.inl a1), some (.inl a2), some (.inl a3), some (.inl a4), some (.inl a5), some (.inl a6), some (.inl a7), some (.inl (a1 / (10 : Int32)))]) (h' := x9) 5 (fun _ _ => rfl) (eMo_sets (by omega) hx12) ?_
    obtain ⟨x13, hx14, HF⟩ := q_bind HF
    refine q_cll (m' := 188) (av := [.inr (.inr (30, 7, 0)), .inl a1, .inl (2 : Int32), .inl a2]) (st' := []) (pc' := 72) (loc' := [some (.inr (.inr (30, 7, 0))), some (.inl a1), some (.inl a2), some (.inl a3), some (.inl a4), some (.inl a5), some (.inl a6), some (.inl a7), some (.inl (a1 / (10 : Int32)))]) (h' := x11) 5 (fun _ _ => rfl) (eMo_sets (by omega) hx14) ?_
    obtain ⟨x15, hx16, HF⟩ := q_bind HF
    refine q_cll (m' := 188) (av := [.inr (.inr (30, 7, 0)), .inl a1, .inl (3 : Int32), .inl a3]) (st' := []) (pc' := 79) (loc' := [some (.inr (.inr (30, 7, 0))), some (.inl a1), some (.inl a2), some (.inl a3), some (.inl a4), some (.inl a5), some (.inl a6), some (.inl a7), some (.inl (a1 / (10 : Int32)))]) (h' := x13) 5 (fun _ _ => rfl) (eMo_sets (by omega) hx16) ?_
    obtain ⟨x17, hx18, HF⟩ := q_bind HF
    refine q_cll (m' := 188) (av := [.inr (.inr (30, 7, 0)), .inl a1, .inl (4 : Int32), .inl a4]) (st' := []) (pc' := 87) (loc' := [some (.inr (.inr (30, 7, 0))), some (.inl a1), some (.inl a2), some (.inl a3), some (.inl a4), some (.inl a5), some (.inl a6), some (.inl a7), some (.inl (a1 / (10 : Int32)))]) (h' := x15) 5 (fun _ _ => rfl) (eMo_sets (by omega) hx18) ?_
    obtain ⟨x19, hx20, HF⟩ := q_bind HF
    refine q_cll (m' := 188) (av := [.inr (.inr (30, 7, 0)), .inl a1, .inl (5 : Int32), .inl a5]) (st' := []) (pc' := 95) (loc' := [some (.inr (.inr (30, 7, 0))), some (.inl a1), some (.inl a2), some (.inl a3), some (.inl a4), some (.inl a5), some (.inl a6), some (.inl a7), some (.inl (a1 / (10 : Int32)))]) (h' := x17) 5 (fun _ _ => rfl) (eMo_sets (by omega) hx20) ?_
    obtain ⟨x21, hx22, HF⟩ := q_bind HF
    refine q_cll (m' := 188) (av := [.inr (.inr (30, 7, 0)), .inl a1, .inl (6 : Int32), .inl a6]) (st' := []) (pc' := 104) (loc' := [some (.inr (.inr (30, 7, 0))), some (.inl a1), some (.inl a2), some (.inl a3), some (.inl a4), some (.inl a5), some (.inl a6), some (.inl a7), some (.inl (a1 / (10 : Int32)))]) (h' := x19) 5 (fun _ _ => rfl) (eMo_sets (by omega) hx22) ?_
    obtain ⟨x23, hx24, HF⟩ := q_bind HF
    refine q_cll (m' := 188) (av := [.inr (.inr (30, 7, 0)), .inl a1, .inl (7 : Int32), .inl (-1 : Int32)]) (st' := []) (pc' := 112) (loc' := [some (.inr (.inr (30, 7, 0))), some (.inl a1), some (.inl a2), some (.inl a3), some (.inl a4), some (.inl a5), some (.inl a6), some (.inl a7), some (.inl (a1 / (10 : Int32)))]) (h' := x21) 5 (fun _ _ => rfl) (eMo_sets (by omega) hx24) ?_
    obtain ⟨x25, hx26, HF⟩ := q_bind HF
    refine q_cll (m' := 188) (av := [.inr (.inr (30, 7, 0)), .inl a1, .inl (8 : Int32), .inl (-1 : Int32)]) (st' := []) (pc' := 120) (loc' := [some (.inr (.inr (30, 7, 0))), some (.inl a1), some (.inl a2), some (.inl a3), some (.inl a4), some (.inl a5), some (.inl a6), some (.inl a7), some (.inl (a1 / (10 : Int32)))]) (h' := x23) 5 (fun _ _ => rfl) (eMo_sets (by omega) hx26) ?_
    obtain ⟨x27, hx28, HF⟩ := q_bind HF
    refine q_cll (m' := 188) (av := [.inr (.inr (30, 7, 0)), .inl a1, .inl (9 : Int32), .inl (-1 : Int32)]) (st' := []) (pc' := 128) (loc' := [some (.inr (.inr (30, 7, 0))), some (.inl a1), some (.inl a2), some (.inl a3), some (.inl a4), some (.inl a5), some (.inl a6), some (.inl a7), some (.inl (a1 / (10 : Int32)))]) (h' := x25) 5 (fun _ _ => rfl) (eMo_sets (by omega) hx28) ?_
    refine q_br (P := a7 = 0) (pcT := 141) (pcF := 137) (loc' := [some (.inr (.inr (30, 7, 0))), some (.inl a1), some (.inl a2), some (.inl a3), some (.inl a4), some (.inl a5), some (.inl a6), some (.inl a7), some (.inl (a1 / (10 : Int32)))]) (stk' := [.inl (10 : Int32), .inl a1, .inr (.inr (30, 7, 0))]) (h' := x27) 5 (fun _ _ => rfl) (fun c43 => ?_) (fun c43 => ?_)
    · rw [if_pos c43] at HF
      obtain ⟨x29, hx30, HF⟩ := q_bind HF
      refine q_cll (m' := 188) (av := [.inr (.inr (30, 7, 0)), .inl a1, .inl (10 : Int32), .inl (0 : Int32)]) (st' := []) (pc' := 145) (loc' := [some (.inr (.inr (30, 7, 0))), some (.inl a1), some (.inl a2), some (.inl a3), some (.inl a4), some (.inl a5), some (.inl a6), some (.inl a7), some (.inl (a1 / (10 : Int32)))]) (h' := x27) 2 (fun _ _ => rfl) (eMo_sets (by omega) hx30) ?_
      obtain ⟨x31, hx32, HF⟩ := q_bind HF
      refine q_cll (m' := 188) (av := [.inr (.inr (30, 7, 0)), .inl a1, .inl (11 : Int32), .inl (0 : Int32)]) (st' := []) (pc' := 153) (loc' := [some (.inr (.inr (30, 7, 0))), some (.inl a1), some (.inl a2), some (.inl a3), some (.inl a4), some (.inl a5), some (.inl a6), some (.inl a7), some (.inl (a1 / (10 : Int32)))]) (h' := x29) 5 (fun _ _ => rfl) (eMo_sets (by omega) hx32) ?_
      obtain ⟨x33, hx34, HF⟩ := q_bind HF
      refine q_cll (m' := 188) (av := [.inr (.inr (30, 7, 0)), .inl a1, .inl (12 : Int32), .inl (x31.1 31 0 7 8)]) (st' := []) (pc' := 167) (loc' := [some (.inr (.inr (30, 7, 0))), some (.inl a1), some (.inl a2), some (.inl a3), some (.inl a4), some (.inl a5), some (.inl a6), some (.inl a7), some (.inl (a1 / (10 : Int32)))]) (h' := x31) 8 (fun _ _ => rfl) (eMo_sets (by omega) hx34) ?_
      obtain ⟨g35, HF⟩ := q_gF HF
      refine q_gd (pc' := 189) (loc' := [some (.inr (.inr (30, 7, 0))), some (.inl a1), some (.inl a2), some (.inl a3), some (.inl a4), some (.inl a5), some (.inl a6), some (.inl a7), some (.inl (a1 / (10 : Int32)))]) (stk' := []) (h' := (q_si (q_si x33 31 0 7 8 ((x33.1 31 0 7 8) + (1 : Int32))) 31 0 7 ((23 : Int32) + (a1 / (10 : Int32))).toNatClampNeg (0 : Int32))) 15 (fun _ _ => rfl) g35 ?_
      have hz := Option.some.inj HF
      subst hz
      exact q_rtn 1 (fun _ _ => rfl)
    · rw [if_neg c43] at HF
      obtain ⟨x36, hx37, HF⟩ := q_bind HF
      refine q_cll (m' := 188) (av := [.inr (.inr (30, 7, 0)), .inl a1, .inl (10 : Int32), .inl (1 : Int32)]) (st' := []) (pc' := 145) (loc' := [some (.inr (.inr (30, 7, 0))), some (.inl a1), some (.inl a2), some (.inl a3), some (.inl a4), some (.inl a5), some (.inl a6), some (.inl a7), some (.inl (a1 / (10 : Int32)))]) (h' := x27) 3 (fun _ _ => rfl) (eMo_sets (by omega) hx37) ?_
      obtain ⟨x38, hx39, HF⟩ := q_bind HF
      refine q_cll (m' := 188) (av := [.inr (.inr (30, 7, 0)), .inl a1, .inl (11 : Int32), .inl (0 : Int32)]) (st' := []) (pc' := 153) (loc' := [some (.inr (.inr (30, 7, 0))), some (.inl a1), some (.inl a2), some (.inl a3), some (.inl a4), some (.inl a5), some (.inl a6), some (.inl a7), some (.inl (a1 / (10 : Int32)))]) (h' := x36) 5 (fun _ _ => rfl) (eMo_sets (by omega) hx39) ?_
      obtain ⟨x40, hx41, HF⟩ := q_bind HF
      refine q_cll (m' := 188) (av := [.inr (.inr (30, 7, 0)), .inl a1, .inl (12 : Int32), .inl (x38.1 31 0 7 8)]) (st' := []) (pc' := 167) (loc' := [some (.inr (.inr (30, 7, 0))), some (.inl a1), some (.inl a2), some (.inl a3), some (.inl a4), some (.inl a5), some (.inl a6), some (.inl a7), some (.inl (a1 / (10 : Int32)))]) (h' := x38) 8 (fun _ _ => rfl) (eMo_sets (by omega) hx41) ?_
      obtain ⟨g42, HF⟩ := q_gF HF
      refine q_gd (pc' := 189) (loc' := [some (.inr (.inr (30, 7, 0))), some (.inl a1), some (.inl a2), some (.inl a3), some (.inl a4), some (.inl a5), some (.inl a6), some (.inl a7), some (.inl (a1 / (10 : Int32)))]) (stk' := []) (h' := (q_si (q_si x40 31 0 7 8 ((x40.1 31 0 7 8) + (1 : Int32))) 31 0 7 ((23 : Int32) + (a1 / (10 : Int32))).toNatClampNeg (0 : Int32))) 15 (fun _ _ => rfl) g42 ?_
      have hz := Option.some.inj HF
      subst hz
      exact q_rtn 1 (fun _ _ => rfl)
  replace HF := HA2
  refine q_br (P := ¬ (a1 - a1 / (10 : Int32) * (10 : Int32)) = (h.1 31 0 7 ((17 : Int32) + (a1 / (10 : Int32))).toNatClampNeg)) (pcT := 40) (pcF := 23) (loc' := [some (.inr (.inr (30, 7, 0))), some (.inl a1), some (.inl a2), some (.inl a3), some (.inl a4), some (.inl a5), some (.inl a6), some (.inl a7), some (.inl (a1 / (10 : Int32)))]) (stk' := []) (h' := h) 1 (fun _ _ => rfl) (fun c7 => ?_) (fun c7 => ?_)
  · rw [if_pos c7] at HF
    refine q_blk (pc' := 51) (loc' := [some (.inr (.inr (30, 7, 0))), some (.inl a1), some (.inl a2), some (.inl a3), some (.inl a4), some (.inl a5), some (.inl a6), some (.inl a7), some (.inl (a1 / (10 : Int32)))]) (stk' := []) (h' := (q_si h 31 0 7 11 ((h.1 31 0 7 11) + (1 : Int32)))) 8 (fun _ _ => rfl) ?_
    have hz := Option.some.inj HF
    subst hz
    exact hP4 (q_si h 31 0 7 11 ((h.1 31 0 7 11) + (1 : Int32))) HK3
  · rw [if_neg c7] at HF
    obtain ⟨g6, HF⟩ := q_gF HF
    refine q_gd (pc' := 34) (loc' := [some (.inr (.inr (30, 7, 0))), some (.inl a1), some (.inl a2), some (.inl a3), some (.inl a4), some (.inl a5), some (.inl a6), some (.inl a7), some (.inl (a1 / (10 : Int32)))]) (stk' := [.inl (h.1 31 0 7 ((17 : Int32) + (a1 / (10 : Int32))).toNatClampNeg), .inl ((17 : Int32) + (a1 / (10 : Int32))), .inr (.inr (31, 7, 0))]) (h' := h) 7 (fun _ _ => rfl) g6 ?_
    obtain ⟨g5, HF⟩ := q_gF HF
    refine q_gd (pc' := 37) (loc' := [some (.inr (.inr (30, 7, 0))), some (.inl a1), some (.inl a2), some (.inl a3), some (.inl a4), some (.inl a5), some (.inl a6), some (.inl a7), some (.inl (a1 / (10 : Int32)))]) (stk' := []) (h' := (q_si h 31 0 7 ((17 : Int32) + (a1 / (10 : Int32))).toNatClampNeg ((h.1 31 0 7 ((17 : Int32) + (a1 / (10 : Int32))).toNatClampNeg) + (1 : Int32)))) 3 (fun _ _ => rfl) g5 ?_
    refine q_blk (pc' := 51) (loc' := [some (.inr (.inr (30, 7, 0))), some (.inl a1), some (.inl a2), some (.inl a3), some (.inl a4), some (.inl a5), some (.inl a6), some (.inl a7), some (.inl (a1 / (10 : Int32)))]) (stk' := []) (h' := (q_si h 31 0 7 ((17 : Int32) + (a1 / (10 : Int32))).toNatClampNeg ((h.1 31 0 7 ((17 : Int32) + (a1 / (10 : Int32))).toNatClampNeg) + (1 : Int32)))) 1 (fun _ _ => rfl) ?_
    have hz := Option.some.inj HF
    subst hz
    exact hP4 (q_si h 31 0 7 ((17 : Int32) + (a1 / (10 : Int32))).toNatClampNeg ((h.1 31 0 7 ((17 : Int32) + (a1 / (10 : Int32))).toNatClampNeg) + (1 : Int32))) HK3
def Mo_isOpen (a1 : Int32) (h : q_H) : Option Int32 :=
  (Mo_stateOf a1 h).bind fun x1 => if ¬ x1 = 0 then (some ((0 : Int32))) else (some ((1 : Int32)))
set_option maxRecDepth 100000 in
set_option maxHeartbeats 4000000 in
theorem eMo_isOpen {d : Nat} (hd : 2 ≤ d) {a1 : Int32} {h : q_H} {r : Int32} (HF : Mo_isOpen a1 h = some r) : q_T d 197 [.inr (.inr (30, 7, 0)), .inl a1] h (some (.inl r), h) := by
  obtain ⟨d, rfl⟩ : ∃ d', d = d' + 1 := ⟨d - 1, by omega⟩
  refine q_ent q_K197 rfl rfl rfl ?_
  unfold Mo_isOpen at HF
  obtain ⟨x1, hx2, HF⟩ := q_bind HF
  refine q_cll (m' := 196) (av := [.inr (.inr (30, 7, 0)), .inl a1]) (st' := []) (pc' := 5) (loc' := [some (.inr (.inr (30, 7, 0))), some (.inl a1)]) (h' := h) 3 (fun _ _ => rfl) (eMo_stateOf (by omega) hx2) ?_
  refine q_br (P := ¬ x1 = 0) (pcT := 12) (pcF := 8) (loc' := [some (.inr (.inr (30, 7, 0))), some (.inl a1)]) (stk' := []) (h' := h) 1 (fun _ _ => rfl) (fun c3 => ?_) (fun c3 => ?_)
  · rw [if_pos c3] at HF
    have hz := Option.some.inj HF
    subst hz
    exact q_rtn 2 (fun _ _ => rfl)
  · rw [if_neg c3] at HF
    have hz := Option.some.inj HF
    subst hz
    exact q_rtn 3 (fun _ _ => rfl)
def Mo_isTxn (a1 : Int32) (h : q_H) : Option Int32 :=
  (Mo_isIn a1 (1 : Int32) ((h.1 31 0 7 4) - (1 : Int32)) h).bind fun x1 => bif q_01 x1 then some (x1) else none
set_option maxRecDepth 100000 in
set_option maxHeartbeats 4000000 in
theorem eMo_isTxn {d : Nat} (hd : 2 ≤ d) {a1 : Int32} {h : q_H} {r : Int32} (HF : Mo_isTxn a1 h = some r) : q_T d 198 [.inr (.inr (30, 7, 0)), .inl a1] h (some (.inl r), h) := by
  obtain ⟨d, rfl⟩ : ∃ d', d = d' + 1 := ⟨d - 1, by omega⟩
  refine q_ent q_K198 rfl rfl rfl ?_
  unfold Mo_isTxn at HF
  obtain ⟨x1, hx2, HF⟩ := q_bind HF
  refine q_cll (m' := 184) (av := [.inl a1, .inl (1 : Int32), .inl ((h.1 31 0 7 4) - (1 : Int32))]) (st' := []) (pc' := 13) (loc' := [some (.inr (.inr (30, 7, 0))), some (.inl a1)]) (h' := h) 9 (fun _ _ => rfl) (eMo_isIn (by omega) hx2) ?_
  obtain ⟨g3, HF⟩ := q_gF HF
  have hz := Option.some.inj HF
  subst hz
  exact q_rtz 1 (fun _ _ => rfl) g3
def Mo_isKnown (a1 : Int32) (a2 : Int32) (h : q_H) : Option Int32 :=
  if a2 = a1 then (some ((1 : Int32))) else (if a1 ≤ a2 then (some ((0 : Int32))) else ((Mo_stateOf a2 h).bind fun x1 => if ¬ x1 = (1 : Int32) then (some ((0 : Int32))) else ((Mo_noted a1 a2 h).bind fun x3 => if ¬ x3 = 0 then (some ((0 : Int32))) else (some ((1 : Int32))))))
set_option maxRecDepth 100000 in
set_option maxHeartbeats 4000000 in
theorem eMo_isKnown {d : Nat} (hd : 2 ≤ d) {a1 : Int32} {a2 : Int32} {h : q_H} {r : Int32} (HF : Mo_isKnown a1 a2 h = some r) : q_T d 200 [.inr (.inr (30, 7, 0)), .inl a1, .inl a2] h (some (.inl r), h) := by
  obtain ⟨d, rfl⟩ : ∃ d', d = d' + 1 := ⟨d - 1, by omega⟩
  refine q_ent q_K200 rfl rfl rfl ?_
  unfold Mo_isKnown at HF
  refine q_br (P := a2 = a1) (pcT := 28) (pcF := 5) (loc' := [some (.inr (.inr (30, 7, 0))), some (.inl a1), some (.inl a2)]) (stk' := []) (h' := h) 3 (fun _ _ => rfl) (fun c8 => ?_) (fun c8 => ?_)
  · rw [if_pos c8] at HF
    have hz := Option.some.inj HF
    subst hz
    exact q_rtn 3 (fun _ _ => rfl)
  · rw [if_neg c8] at HF
    refine q_br (P := a1 ≤ a2) (pcT := 32) (pcF := 10) (loc' := [some (.inr (.inr (30, 7, 0))), some (.inl a1), some (.inl a2)]) (stk' := []) (h' := h) 3 (fun _ _ => rfl) (fun c7 => ?_) (fun c7 => ?_)
    · rw [if_pos c7] at HF
      have hz := Option.some.inj HF
      subst hz
      exact q_rtn 2 (fun _ _ => rfl)
    · rw [if_neg c7] at HF
      obtain ⟨x1, hx2, HF⟩ := q_bind HF
      refine q_cll (m' := 196) (av := [.inr (.inr (30, 7, 0)), .inl a2]) (st' := []) (pc' := 15) (loc' := [some (.inr (.inr (30, 7, 0))), some (.inl a1), some (.inl a2)]) (h' := h) 3 (fun _ _ => rfl) (eMo_stateOf (by omega) hx2) ?_
      refine q_br (P := ¬ x1 = (1 : Int32)) (pcT := 32) (pcF := 19) (loc' := [some (.inr (.inr (30, 7, 0))), some (.inl a1), some (.inl a2)]) (stk' := []) (h' := h) 2 (fun _ _ => rfl) (fun c6 => ?_) (fun c6 => ?_)
      · rw [if_pos c6] at HF
        have hz := Option.some.inj HF
        subst hz
        exact q_rtn 2 (fun _ _ => rfl)
      · rw [if_neg c6] at HF
        obtain ⟨x3, hx4, HF⟩ := q_bind HF
        refine q_cll (m' := 199) (av := [.inr (.inr (30, 7, 0)), .inl a1, .inl a2]) (st' := []) (pc' := 25) (loc' := [some (.inr (.inr (30, 7, 0))), some (.inl a1), some (.inl a2)]) (h' := h) 4 (fun _ _ => rfl) (eMo_noted (by omega) hx4) ?_
        refine q_br (P := ¬ x3 = 0) (pcT := 32) (pcF := 28) (loc' := [some (.inr (.inr (30, 7, 0))), some (.inl a1), some (.inl a2)]) (stk' := []) (h' := h) 1 (fun _ _ => rfl) (fun c5 => ?_) (fun c5 => ?_)
        · rw [if_pos c5] at HF
          have hz := Option.some.inj HF
          subst hz
          exact q_rtn 2 (fun _ _ => rfl)
        · rw [if_neg c5] at HF
          have hz := Option.some.inj HF
          subst hz
          exact q_rtn 3 (fun _ _ => rfl)
def Mo_lowOf (a1 : Int32) (h : q_H) : Option Int32 :=
  (q_lp (fun s1 : Int32 => (if a1 ≤ s1 then (some (.inr (a1))) else ((Mo_noted a1 s1 h).bind fun x9 => if x9 = 0 then (some (.inl (s1 + (1 : Int32)))) else (some (.inr (s1)))) : Option ((Int32) ⊕ Int32))) q_fu ((1 : Int32) : Int32)).bind fun z8 => some z8
set_option maxRecDepth 100000 in
set_option maxHeartbeats 4000000 in
theorem eMo_lowOf {d : Nat} (hd : 2 ≤ d) {a1 : Int32} {h : q_H} {r : Int32} (HF : Mo_lowOf a1 h = some r) : q_T d 203 [.inr (.inr (30, 7, 0)), .inl a1] h (some (.inl r), h) := by
  obtain ⟨d, rfl⟩ : ∃ d', d = d' + 1 := ⟨d - 1, by omega⟩
  refine q_ent q_K203 rfl rfl rfl ?_
  unfold Mo_lowOf at HF
  refine q_blk (pc' := 2) (loc' := [some (.inr (.inr (30, 7, 0))), some (.inl a1), some (.inl (1 : Int32))]) (stk' := []) (h' := h) 2 (fun _ _ => rfl) ?_
  obtain ⟨r6, hl7, HK4⟩ := q_bind HF
  refine q_lpE (E := fun s1 => q_E d q_K203 2 [some (.inr (.inr (30, 7, 0))), some (.inl a1), some (.inl s1)] [] h (some (.inl r), h)) r6 (fun s1 z8 HF H12 H23 => ?_) _ _ hl7
  refine q_br (P := a1 ≤ s1) (pcT := 24) (pcF := 7) (loc' := [some (.inr (.inr (30, 7, 0))), some (.inl a1), some (.inl s1)]) (stk' := []) (h' := h) 3 (fun _ _ => rfl) (fun c12 => ?_) (fun c12 => ?_)
  · rw [if_pos c12] at HF
    have hz := Option.some.inj HF
    subst hz
    replace HF := HK4
    rw [← H23 _ rfl] at HF
    have hz := Option.some.inj HF
    subst hz
    exact q_rtn 2 (fun _ _ => rfl)
  · rw [if_neg c12] at HF
    obtain ⟨x9, hx10, HF⟩ := q_bind HF
    refine q_cll (m' := 199) (av := [.inr (.inr (30, 7, 0)), .inl a1, .inl s1]) (st' := []) (pc' := 13) (loc' := [some (.inr (.inr (30, 7, 0))), some (.inl a1), some (.inl s1)]) (h' := h) 4 (fun _ _ => rfl) (eMo_noted (by omega) hx10) ?_
    refine q_br (P := x9 = 0) (pcT := 18) (pcF := 16) (loc' := [some (.inr (.inr (30, 7, 0))), some (.inl a1), some (.inl s1)]) (stk' := []) (h' := h) 1 (fun _ _ => rfl) (fun c11 => ?_) (fun c11 => ?_)
    · rw [if_pos c11] at HF
      refine q_blk (pc' := 2) (loc' := [some (.inr (.inr (30, 7, 0))), some (.inl a1), some (.inl (s1 + (1 : Int32)))]) (stk' := []) (h' := h) 2 (fun _ _ => rfl) ?_
      have hz := Option.some.inj HF
      subst hz
      exact H12 (s1 + (1 : Int32)) rfl
    · rw [if_neg c11] at HF
      have hz := Option.some.inj HF
      subst hz
      replace HF := HK4
      rw [← H23 _ rfl] at HF
      have hz := Option.some.inj HF
      subst hz
      exact q_rtn 2 (fun _ _ => rfl)
def Mo_enderOf (a1 : Int32) (h : q_H) : Option Int32 :=
  (Mo_of a1 (7 : Int32) h).bind fun x1 => if x1 ≤ 0 then (some ((-1 : Int32))) else ((Mo_of a1 (7 : Int32) h).bind fun x3 => (Mo_stateOf x3 h).bind fun x5 => if x5 = (2 : Int32) then (some ((-1 : Int32))) else ((Mo_of a1 (7 : Int32) h).bind fun x7 => some (x7)))
set_option maxRecDepth 100000 in
set_option maxHeartbeats 4000000 in
theorem eMo_enderOf {d : Nat} (hd : 2 ≤ d) {a1 : Int32} {h : q_H} {r : Int32} (HF : Mo_enderOf a1 h = some r) : q_T d 206 [.inr (.inr (30, 7, 0)), .inl a1] h (some (.inl r), h) := by
  obtain ⟨d, rfl⟩ : ∃ d', d = d' + 1 := ⟨d - 1, by omega⟩
  refine q_ent q_K206 rfl rfl rfl ?_
  unfold Mo_enderOf at HF
  obtain ⟨x1, hx2, HF⟩ := q_bind HF
  refine q_cll (m' := 187) (av := [.inr (.inr (30, 7, 0)), .inl a1, .inl (7 : Int32)]) (st' := []) (pc' := 7) (loc' := [some (.inr (.inr (30, 7, 0))), some (.inl a1)]) (h' := h) 4 (fun _ _ => rfl) (eMo_of (by omega) hx2) ?_
  refine q_br (P := x1 ≤ 0) (pcT := 35) (pcF := 10) (loc' := [some (.inr (.inr (30, 7, 0))), some (.inl a1)]) (stk' := []) (h' := h) 1 (fun _ _ => rfl) (fun c10 => ?_) (fun c10 => ?_)
  · rw [if_pos c10] at HF
    have hz := Option.some.inj HF
    subst hz
    exact q_rtn 2 (fun _ _ => rfl)
  · rw [if_neg c10] at HF
    obtain ⟨x3, hx4, HF⟩ := q_bind HF
    refine q_cll (m' := 187) (av := [.inr (.inr (30, 7, 0)), .inl a1, .inl (7 : Int32)]) (st' := [.inr (.inr (30, 7, 0))]) (pc' := 18) (loc' := [some (.inr (.inr (30, 7, 0))), some (.inl a1)]) (h' := h) 5 (fun _ _ => rfl) (eMo_of (by omega) hx4) ?_
    obtain ⟨x5, hx6, HF⟩ := q_bind HF
    refine q_cll (m' := 196) (av := [.inr (.inr (30, 7, 0)), .inl x3]) (st' := []) (pc' := 21) (loc' := [some (.inr (.inr (30, 7, 0))), some (.inl a1)]) (h' := h) 1 (fun _ _ => rfl) (eMo_stateOf (by omega) hx6) ?_
    refine q_br (P := x5 = (2 : Int32)) (pcT := 35) (pcF := 25) (loc' := [some (.inr (.inr (30, 7, 0))), some (.inl a1)]) (stk' := []) (h' := h) 2 (fun _ _ => rfl) (fun c9 => ?_) (fun c9 => ?_)
    · rw [if_pos c9] at HF
      have hz := Option.some.inj HF
      subst hz
      exact q_rtn 2 (fun _ _ => rfl)
    · rw [if_neg c9] at HF
      obtain ⟨x7, hx8, HF⟩ := q_bind HF
      refine q_cll (m' := 187) (av := [.inr (.inr (30, 7, 0)), .inl a1, .inl (7 : Int32)]) (st' := []) (pc' := 32) (loc' := [some (.inr (.inr (30, 7, 0))), some (.inl a1)]) (h' := h) 4 (fun _ _ => rfl) (eMo_of (by omega) hx8) ?_
      have hz := Option.some.inj HF
      subst hz
      exact q_rtn 2 (fun _ _ => rfl)
def Mo_chainOf (a1 : Int32) (h : q_H) : Option Int32 :=
  (Mo_of a1 (0 : Int32) h).bind fun x1 => if ¬ x1 = (1 : Int32) then ((Mo_of a1 (0 : Int32) h).bind fun x3 => if ¬ x3 = (2 : Int32) then (some ((-1 : Int32))) else ((Mo_of a1 (1 : Int32) h).bind fun x5 => some ((((a1 / (10 : Int32)) * (10 : Int32)) + x5)))) else (some (a1))
set_option maxRecDepth 100000 in
set_option maxHeartbeats 4000000 in
theorem eMo_chainOf {d : Nat} (hd : 2 ≤ d) {a1 : Int32} {h : q_H} {r : Int32} (HF : Mo_chainOf a1 h = some r) : q_T d 209 [.inr (.inr (30, 7, 0)), .inl a1] h (some (.inl r), h) := by
  obtain ⟨d, rfl⟩ : ∃ d', d = d' + 1 := ⟨d - 1, by omega⟩
  refine q_ent q_K209 rfl rfl rfl ?_
  unfold Mo_chainOf at HF
  obtain ⟨x1, hx2, HF⟩ := q_bind HF
  refine q_cll (m' := 187) (av := [.inr (.inr (30, 7, 0)), .inl a1, .inl (0 : Int32)]) (st' := []) (pc' := 6) (loc' := [some (.inr (.inr (30, 7, 0))), some (.inl a1)]) (h' := h) 4 (fun _ _ => rfl) (eMo_of (by omega) hx2) ?_
  refine q_br (P := ¬ x1 = (1 : Int32)) (pcT := 14) (pcF := 10) (loc' := [some (.inr (.inr (30, 7, 0))), some (.inl a1)]) (stk' := []) (h' := h) 2 (fun _ _ => rfl) (fun c8 => ?_) (fun c8 => ?_)
  · rw [if_pos c8] at HF
    obtain ⟨x3, hx4, HF⟩ := q_bind HF
    refine q_cll (m' := 187) (av := [.inr (.inr (30, 7, 0)), .inl a1, .inl (0 : Int32)]) (st' := []) (pc' := 20) (loc' := [some (.inr (.inr (30, 7, 0))), some (.inl a1)]) (h' := h) 4 (fun _ _ => rfl) (eMo_of (by omega) hx4) ?_
    refine q_br (P := ¬ x3 = (2 : Int32)) (pcT := 41) (pcF := 24) (loc' := [some (.inr (.inr (30, 7, 0))), some (.inl a1)]) (stk' := []) (h' := h) 2 (fun _ _ => rfl) (fun c7 => ?_) (fun c7 => ?_)
    · rw [if_pos c7] at HF
      have hz := Option.some.inj HF
      subst hz
      exact q_rtn 2 (fun _ _ => rfl)
    · rw [if_neg c7] at HF
      obtain ⟨x5, hx6, HF⟩ := q_bind HF
      refine q_cll (m' := 187) (av := [.inr (.inr (30, 7, 0)), .inl a1, .inl (1 : Int32)]) (st' := [.inl ((a1 / (10 : Int32)) * (10 : Int32))]) (pc' := 37) (loc' := [some (.inr (.inr (30, 7, 0))), some (.inl a1)]) (h' := h) 9 (fun _ _ => rfl) (eMo_of (by omega) hx6) ?_
      have hz := Option.some.inj HF
      subst hz
      exact q_rtn 3 (fun _ _ => rfl)
  · rw [if_neg c8] at HF
    have hz := Option.some.inj HF
    subst hz
    exact q_rtn 3 (fun _ _ => rfl)
def Mo_goes (a1 : Int32) (h : q_H) : Option q_H :=
  (Mo_sets a1 (0 : Int32) (0 : Int32) h).bind fun x1 => bif q_in ((23 : Int32) + (a1 / (10 : Int32))) 1644 then (some ((q_si x1 31 0 7 ((23 : Int32) + (a1 / (10 : Int32))).toNatClampNeg (0 : Int32)))) else none
set_option maxRecDepth 100000 in
set_option maxHeartbeats 4000000 in
theorem eMo_goes {d : Nat} (hd : 2 ≤ d) {a1 : Int32} {h : q_H} {r : q_H} (HF : Mo_goes a1 h = some r) : q_T d 213 [.inr (.inr (30, 7, 0)), .inl a1] h (none, r) := by
  obtain ⟨d, rfl⟩ : ∃ d', d = d' + 1 := ⟨d - 1, by omega⟩
  refine q_ent q_K213 rfl rfl rfl ?_
  unfold Mo_goes at HF
  obtain ⟨x1, hx2, HF⟩ := q_bind HF
  refine q_cll (m' := 188) (av := [.inr (.inr (30, 7, 0)), .inl a1, .inl (0 : Int32), .inl (0 : Int32)]) (st' := []) (pc' := 7) (loc' := [some (.inr (.inr (30, 7, 0))), some (.inl a1)]) (h' := h) 5 (fun _ _ => rfl) (eMo_sets (by omega) hx2) ?_
  obtain ⟨g3, HF⟩ := q_gF HF
  refine q_gd (pc' := 20) (loc' := [some (.inr (.inr (30, 7, 0))), some (.inl a1)]) (stk' := []) (h' := (q_si x1 31 0 7 ((23 : Int32) + (a1 / (10 : Int32))).toNatClampNeg (0 : Int32))) 9 (fun _ _ => rfl) g3 ?_
  have hz := Option.some.inj HF
  subst hz
  exact q_rtn 1 (fun _ _ => rfl)
def Mo_leadsTo (a1 : Int32) (h : q_H) : Option Int32 :=
  (Mo_entryOf a1 (1 : Int32) h).bind fun x1 => (Mo_entryOf a1 (2 : Int32) h).bind fun x3 => some ((((10 : Int32) * x1) + x3))
set_option maxRecDepth 100000 in
set_option maxHeartbeats 4000000 in
theorem eMo_leadsTo {d : Nat} (hd : 2 ≤ d) {a1 : Int32} {h : q_H} {r : Int32} (HF : Mo_leadsTo a1 h = some r) : q_T d 217 [.inr (.inr (30, 7, 0)), .inl a1] h (some (.inl r), h) := by
  obtain ⟨d, rfl⟩ : ∃ d', d = d' + 1 := ⟨d - 1, by omega⟩
  refine q_ent q_K217 rfl rfl rfl ?_
  unfold Mo_leadsTo at HF
  obtain ⟨x1, hx2, HF⟩ := q_bind HF
  refine q_cll (m' := 216) (av := [.inr (.inr (30, 7, 0)), .inl a1, .inl (1 : Int32)]) (st' := [.inl (10 : Int32)]) (pc' := 8) (loc' := [some (.inr (.inr (30, 7, 0))), some (.inl a1)]) (h' := h) 5 (fun _ _ => rfl) (eMo_entryOf (by omega) hx2) ?_
  obtain ⟨x3, hx4, HF⟩ := q_bind HF
  refine q_cll (m' := 216) (av := [.inr (.inr (30, 7, 0)), .inl a1, .inl (2 : Int32)]) (st' := [.inl ((10 : Int32) * x1)]) (pc' := 15) (loc' := [some (.inr (.inr (30, 7, 0))), some (.inl a1)]) (h' := h) 5 (fun _ _ => rfl) (eMo_entryOf (by omega) hx4) ?_
  have hz := Option.some.inj HF
  subst hz
  exact q_rtn 2 (fun _ _ => rfl)
def Mo_endsAt (a1 : Int32) (a2 : Int32) (a3 : Int32) (a4 : Int32) (h : q_H) : Option q_H :=
  (Mo_sets a1 (7 : Int32) a2 h).bind fun x1 => (Mo_sets a1 (8 : Int32) a3 x1).bind fun x3 => (Mo_sets a1 (9 : Int32) a4 x3).bind fun x5 => bif q_in ((23 : Int32) + (a1 / (10 : Int32))) 1644 then (some ((q_si x5 31 0 7 ((23 : Int32) + (a1 / (10 : Int32))).toNatClampNeg (0 : Int32)))) else none
set_option maxRecDepth 100000 in
set_option maxHeartbeats 4000000 in
theorem eMo_endsAt {d : Nat} (hd : 2 ≤ d) {a1 : Int32} {a2 : Int32} {a3 : Int32} {a4 : Int32} {h : q_H} {r : q_H} (HF : Mo_endsAt a1 a2 a3 a4 h = some r) : q_T d 227 [.inr (.inr (30, 7, 0)), .inl a1, .inl a2, .inl a3, .inl a4] h (none, r) := by
  obtain ⟨d, rfl⟩ : ∃ d', d = d' + 1 := ⟨d - 1, by omega⟩
  refine q_ent q_K227 rfl rfl rfl ?_
  unfold Mo_endsAt at HF
  obtain ⟨x1, hx2, HF⟩ := q_bind HF
  refine q_cll (m' := 188) (av := [.inr (.inr (30, 7, 0)), .inl a1, .inl (7 : Int32), .inl a2]) (st' := []) (pc' := 8) (loc' := [some (.inr (.inr (30, 7, 0))), some (.inl a1), some (.inl a2), some (.inl a3), some (.inl a4)]) (h' := h) 5 (fun _ _ => rfl) (eMo_sets (by omega) hx2) ?_
  obtain ⟨x3, hx4, HF⟩ := q_bind HF
  refine q_cll (m' := 188) (av := [.inr (.inr (30, 7, 0)), .inl a1, .inl (8 : Int32), .inl a3]) (st' := []) (pc' := 16) (loc' := [some (.inr (.inr (30, 7, 0))), some (.inl a1), some (.inl a2), some (.inl a3), some (.inl a4)]) (h' := x1) 5 (fun _ _ => rfl) (eMo_sets (by omega) hx4) ?_
  obtain ⟨x5, hx6, HF⟩ := q_bind HF
  refine q_cll (m' := 188) (av := [.inr (.inr (30, 7, 0)), .inl a1, .inl (9 : Int32), .inl a4]) (st' := []) (pc' := 25) (loc' := [some (.inr (.inr (30, 7, 0))), some (.inl a1), some (.inl a2), some (.inl a3), some (.inl a4)]) (h' := x3) 5 (fun _ _ => rfl) (eMo_sets (by omega) hx6) ?_
  obtain ⟨g7, HF⟩ := q_gF HF
  refine q_gd (pc' := 38) (loc' := [some (.inr (.inr (30, 7, 0))), some (.inl a1), some (.inl a2), some (.inl a3), some (.inl a4)]) (stk' := []) (h' := (q_si x5 31 0 7 ((23 : Int32) + (a1 / (10 : Int32))).toNatClampNeg (0 : Int32))) 9 (fun _ _ => rfl) g7 ?_
  have hz := Option.some.inj HF
  subst hz
  exact q_rtn 1 (fun _ _ => rfl)
def Mo_isValue (a1 : Int32) (a2 : Int32) (a3 : Int32) (h : q_H) : Option Int32 :=
  (Mo_isIn a1 (0 : Int32) (99 : Int32) h).bind fun x1 => if x1 = 0 then (some ((0 : Int32))) else ((Mo_isIn a2 (0 : Int32) (999 : Int32) h).bind fun x3 => if x3 = 0 then (some ((0 : Int32))) else ((Mo_isIn a3 (1 : Int32) (20 : Int32) h).bind fun x5 => if x5 = 0 then (some ((0 : Int32))) else (some ((1 : Int32)))))
set_option maxRecDepth 100000 in
set_option maxHeartbeats 4000000 in
theorem eMo_isValue {d : Nat} (hd : 2 ≤ d) {a1 : Int32} {a2 : Int32} {a3 : Int32} {h : q_H} {r : Int32} (HF : Mo_isValue a1 a2 a3 h = some r) : q_T d 229 [.inr (.inr (30, 7, 0)), .inl a1, .inl a2, .inl a3] h (some (.inl r), h) := by
  obtain ⟨d, rfl⟩ : ∃ d', d = d' + 1 := ⟨d - 1, by omega⟩
  refine q_ent q_K229 rfl rfl rfl ?_
  unfold Mo_isValue at HF
  obtain ⟨x1, hx2, HF⟩ := q_bind HF
  refine q_cll (m' := 184) (av := [.inl a1, .inl (0 : Int32), .inl (99 : Int32)]) (st' := []) (pc' := 7) (loc' := [some (.inr (.inr (30, 7, 0))), some (.inl a1), some (.inl a2), some (.inl a3)]) (h' := h) 4 (fun _ _ => rfl) (eMo_isIn (by omega) hx2) ?_
  refine q_br (P := x1 = 0) (pcT := 35) (pcF := 10) (loc' := [some (.inr (.inr (30, 7, 0))), some (.inl a1), some (.inl a2), some (.inl a3)]) (stk' := []) (h' := h) 1 (fun _ _ => rfl) (fun c9 => ?_) (fun c9 => ?_)
  · rw [if_pos c9] at HF
    have hz := Option.some.inj HF
    subst hz
    exact q_rtn 2 (fun _ _ => rfl)
  · rw [if_neg c9] at HF
    obtain ⟨x3, hx4, HF⟩ := q_bind HF
    refine q_cll (m' := 184) (av := [.inl a2, .inl (0 : Int32), .inl (999 : Int32)]) (st' := []) (pc' := 18) (loc' := [some (.inr (.inr (30, 7, 0))), some (.inl a1), some (.inl a2), some (.inl a3)]) (h' := h) 4 (fun _ _ => rfl) (eMo_isIn (by omega) hx4) ?_
    refine q_br (P := x3 = 0) (pcT := 35) (pcF := 21) (loc' := [some (.inr (.inr (30, 7, 0))), some (.inl a1), some (.inl a2), some (.inl a3)]) (stk' := []) (h' := h) 1 (fun _ _ => rfl) (fun c8 => ?_) (fun c8 => ?_)
    · rw [if_pos c8] at HF
      have hz := Option.some.inj HF
      subst hz
      exact q_rtn 2 (fun _ _ => rfl)
    · rw [if_neg c8] at HF
      obtain ⟨x5, hx6, HF⟩ := q_bind HF
      refine q_cll (m' := 184) (av := [.inl a3, .inl (1 : Int32), .inl (20 : Int32)]) (st' := []) (pc' := 28) (loc' := [some (.inr (.inr (30, 7, 0))), some (.inl a1), some (.inl a2), some (.inl a3)]) (h' := h) 4 (fun _ _ => rfl) (eMo_isIn (by omega) hx6) ?_
      refine q_br (P := x5 = 0) (pcT := 35) (pcF := 31) (loc' := [some (.inr (.inr (30, 7, 0))), some (.inl a1), some (.inl a2), some (.inl a3)]) (stk' := []) (h' := h) 1 (fun _ _ => rfl) (fun c7 => ?_) (fun c7 => ?_)
      · rw [if_pos c7] at HF
        have hz := Option.some.inj HF
        subst hz
        exact q_rtn 2 (fun _ _ => rfl)
      · rw [if_neg c7] at HF
        have hz := Option.some.inj HF
        subst hz
        exact q_rtn 3 (fun _ _ => rfl)
def Mo_isRow (a1 : Int32) (h : q_H) : Option Int32 :=
  (Mo_isIn a1 (0 : Int32) ((h.1 31 0 7 3) - (1 : Int32)) h).bind fun x1 => bif q_01 x1 then some (x1) else none
set_option maxRecDepth 100000 in
set_option maxHeartbeats 4000000 in
theorem eMo_isRow {d : Nat} (hd : 2 ≤ d) {a1 : Int32} {h : q_H} {r : Int32} (HF : Mo_isRow a1 h = some r) : q_T d 231 [.inr (.inr (30, 7, 0)), .inl a1] h (some (.inl r), h) := by
  obtain ⟨d, rfl⟩ : ∃ d', d = d' + 1 := ⟨d - 1, by omega⟩
  refine q_ent q_K231 rfl rfl rfl ?_
  unfold Mo_isRow at HF
  obtain ⟨x1, hx2, HF⟩ := q_bind HF
  refine q_cll (m' := 184) (av := [.inl a1, .inl (0 : Int32), .inl ((h.1 31 0 7 3) - (1 : Int32))]) (st' := []) (pc' := 13) (loc' := [some (.inr (.inr (30, 7, 0))), some (.inl a1)]) (h' := h) 9 (fun _ _ => rfl) (eMo_isIn (by omega) hx2) ?_
  obtain ⟨g3, HF⟩ := q_gF HF
  have hz := Option.some.inj HF
  subst hz
  exact q_rtz 1 (fun _ _ => rfl) g3
def Mo_finds (a1 : Int32) (a2 : Int32) (h : q_H) : Option q_H :=
  (Mo_of a1 (2 : Int32) h).bind fun x1 => bif q_in ((1283 : Int32) + ((5 : Int32) * (h.1 31 0 7 7))) 1644 then ((Mo_of a1 (4 : Int32) (q_si h 31 0 7 ((1283 : Int32) + ((5 : Int32) * (h.1 31 0 7 7))).toNatClampNeg x1)).bind fun x3 => bif q_in (((1283 : Int32) + ((5 : Int32) * (h.1 31 0 7 7))) + (1 : Int32)) 1644 then ((some (q_si (q_si h 31 0 7 ((1283 : Int32) + ((5 : Int32) * (h.1 31 0 7 7))).toNatClampNeg x1) 31 0 7 (((1283 : Int32) + ((5 : Int32) * (h.1 31 0 7 7))) + (1 : Int32)).toNatClampNeg x3)).bind fun h5 => bif q_in (((1283 : Int32) + ((5 : Int32) * (h.1 31 0 7 7))) + (2 : Int32)) 1644 then (bif q_in (((1283 : Int32) + ((5 : Int32) * (h.1 31 0 7 7))) + (3 : Int32)) 1644 then ((some (q_si (q_si h5 31 0 7 (((1283 : Int32) + ((5 : Int32) * (h.1 31 0 7 7))) + (2 : Int32)).toNatClampNeg (a1 / (10 : Int32))) 31 0 7 (((1283 : Int32) + ((5 : Int32) * (h.1 31 0 7 7))) + (3 : Int32)).toNatClampNeg (a1 - a1 / (10 : Int32) * (10 : Int32)))).bind fun h7 => bif q_in (((1283 : Int32) + ((5 : Int32) * (h.1 31 0 7 7))) + (4 : Int32)) 1644 then ((some (q_si (q_si h7 31 0 7 (((1283 : Int32) + ((5 : Int32) * (h.1 31 0 7 7))) + (4 : Int32)).toNatClampNeg a2) 31 0 7 7 (((q_si h7 31 0 7 (((1283 : Int32) + ((5 : Int32) * (h.1 31 0 7 7))) + (4 : Int32)).toNatClampNeg a2).1 31 0 7 7) + (1 : Int32)))).bind fun h9 => some (h9)) else none) else none) else none) else none) else none
set_option maxRecDepth 100000 in
set_option maxHeartbeats 4000000 in
theorem eMo_finds {d : Nat} (hd : 2 ≤ d) {a1 : Int32} {a2 : Int32} {h : q_H} {r : q_H} (HF : Mo_finds a1 a2 h = some r) : q_T d 242 [.inr (.inr (30, 7, 0)), .inl a1, .inl a2] h (none, r) := by
  obtain ⟨d, rfl⟩ : ∃ d', d = d' + 1 := ⟨d - 1, by omega⟩
  refine q_ent q_K242 rfl rfl rfl ?_
  unfold Mo_finds at HF
  obtain ⟨x1, hx2, HF⟩ := q_bind HF
  refine q_cll (m' := 187) (av := [.inr (.inr (30, 7, 0)), .inl a1, .inl (2 : Int32)]) (st' := [.inl ((1283 : Int32) + ((5 : Int32) * (h.1 31 0 7 7))), .inr (.inr (31, 7, 0))]) (pc' := 25) (loc' := [some (.inr (.inr (30, 7, 0))), some (.inl a1), some (.inl a2), some (.inl ((1283 : Int32) + ((5 : Int32) * (h.1 31 0 7 7))))]) (h' := h) 16 (fun _ _ => rfl) (eMo_of (by omega) hx2) ?_
  obtain ⟨g15, HF⟩ := q_gF HF
  refine q_gd (pc' := 26) (loc' := [some (.inr (.inr (30, 7, 0))), some (.inl a1), some (.inl a2), some (.inl ((1283 : Int32) + ((5 : Int32) * (h.1 31 0 7 7))))]) (stk' := []) (h' := (q_si h 31 0 7 ((1283 : Int32) + ((5 : Int32) * (h.1 31 0 7 7))).toNatClampNeg x1)) 1 (fun _ _ => rfl) g15 ?_
  obtain ⟨x3, hx4, HF⟩ := q_bind HF
  refine q_cll (m' := 187) (av := [.inr (.inr (30, 7, 0)), .inl a1, .inl (4 : Int32)]) (st' := [.inl (((1283 : Int32) + ((5 : Int32) * (h.1 31 0 7 7))) + (1 : Int32)), .inr (.inr (31, 7, 0))]) (pc' := 39) (loc' := [some (.inr (.inr (30, 7, 0))), some (.inl a1), some (.inl a2), some (.inl ((1283 : Int32) + ((5 : Int32) * (h.1 31 0 7 7))))]) (h' := (q_si h 31 0 7 ((1283 : Int32) + ((5 : Int32) * (h.1 31 0 7 7))).toNatClampNeg x1)) 9 (fun _ _ => rfl) (eMo_of (by omega) hx4) ?_
  obtain ⟨g14, HF⟩ := q_gF HF
  refine q_gd (pc' := 40) (loc' := [some (.inr (.inr (30, 7, 0))), some (.inl a1), some (.inl a2), some (.inl ((1283 : Int32) + ((5 : Int32) * (h.1 31 0 7 7))))]) (stk' := []) (h' := (q_si (q_si h 31 0 7 ((1283 : Int32) + ((5 : Int32) * (h.1 31 0 7 7))).toNatClampNeg x1) 31 0 7 (((1283 : Int32) + ((5 : Int32) * (h.1 31 0 7 7))) + (1 : Int32)).toNatClampNeg x3)) 1 (fun _ _ => rfl) g14 ?_
  obtain ⟨h5, e6, HF⟩ := q_bind HF
  refine q_blk (pc' := 40) (loc' := [some (.inr (.inr (30, 7, 0))), some (.inl a1), some (.inl a2), some (.inl ((1283 : Int32) + ((5 : Int32) * (h.1 31 0 7 7))))]) (stk' := []) (h' := (q_si (q_si h 31 0 7 ((1283 : Int32) + ((5 : Int32) * (h.1 31 0 7 7))).toNatClampNeg x1) 31 0 7 (((1283 : Int32) + ((5 : Int32) * (h.1 31 0 7 7))) + (1 : Int32)).toNatClampNeg x3)) 0 (fun _ _ => rfl) ?_
  rw [Option.some.inj e6]
  obtain ⟨g13, HF⟩ := q_gF HF
  refine q_gd (pc' := 52) (loc' := [some (.inr (.inr (30, 7, 0))), some (.inl a1), some (.inl a2), some (.inl ((1283 : Int32) + ((5 : Int32) * (h.1 31 0 7 7))))]) (stk' := []) (h' := (q_si h5 31 0 7 (((1283 : Int32) + ((5 : Int32) * (h.1 31 0 7 7))) + (2 : Int32)).toNatClampNeg (a1 / (10 : Int32)))) 9 (fun _ _ => rfl) g13 ?_
  obtain ⟨g12, HF⟩ := q_gF HF
  refine q_gd (pc' := 64) (loc' := [some (.inr (.inr (30, 7, 0))), some (.inl a1), some (.inl a2), some (.inl ((1283 : Int32) + ((5 : Int32) * (h.1 31 0 7 7))))]) (stk' := []) (h' := (q_si (q_si h5 31 0 7 (((1283 : Int32) + ((5 : Int32) * (h.1 31 0 7 7))) + (2 : Int32)).toNatClampNeg (a1 / (10 : Int32))) 31 0 7 (((1283 : Int32) + ((5 : Int32) * (h.1 31 0 7 7))) + (3 : Int32)).toNatClampNeg (a1 - a1 / (10 : Int32) * (10 : Int32)))) 9 (fun _ _ => rfl) g12 ?_
  obtain ⟨h7, e8, HF⟩ := q_bind HF
  refine q_blk (pc' := 64) (loc' := [some (.inr (.inr (30, 7, 0))), some (.inl a1), some (.inl a2), some (.inl ((1283 : Int32) + ((5 : Int32) * (h.1 31 0 7 7))))]) (stk' := []) (h' := (q_si (q_si h5 31 0 7 (((1283 : Int32) + ((5 : Int32) * (h.1 31 0 7 7))) + (2 : Int32)).toNatClampNeg (a1 / (10 : Int32))) 31 0 7 (((1283 : Int32) + ((5 : Int32) * (h.1 31 0 7 7))) + (3 : Int32)).toNatClampNeg (a1 - a1 / (10 : Int32) * (10 : Int32)))) 0 (fun _ _ => rfl) ?_
  rw [Option.some.inj e8]
  obtain ⟨g11, HF⟩ := q_gF HF
  refine q_gd (pc' := 73) (loc' := [some (.inr (.inr (30, 7, 0))), some (.inl a1), some (.inl a2), some (.inl ((1283 : Int32) + ((5 : Int32) * (h.1 31 0 7 7))))]) (stk' := []) (h' := (q_si h7 31 0 7 (((1283 : Int32) + ((5 : Int32) * (h.1 31 0 7 7))) + (4 : Int32)).toNatClampNeg a2)) 7 (fun _ _ => rfl) g11 ?_
  obtain ⟨h9, e10, HF⟩ := q_bind HF
  refine q_blk (pc' := 84) (loc' := [some (.inr (.inr (30, 7, 0))), some (.inl a1), some (.inl a2), some (.inl ((1283 : Int32) + ((5 : Int32) * (h.1 31 0 7 7))))]) (stk' := []) (h' := (q_si (q_si h7 31 0 7 (((1283 : Int32) + ((5 : Int32) * (h.1 31 0 7 7))) + (4 : Int32)).toNatClampNeg a2) 31 0 7 7 (((q_si h7 31 0 7 (((1283 : Int32) + ((5 : Int32) * (h.1 31 0 7 7))) + (4 : Int32)).toNatClampNeg a2).1 31 0 7 7) + (1 : Int32)))) 8 (fun _ _ => rfl) ?_
  rw [Option.some.inj e10]
  have hz := Option.some.inj HF
  subst hz
  exact q_rtn 1 (fun _ _ => rfl)
def Mo_isAhead (a1 : Int32) (a2 : Int32) (h : q_H) : Option Int32 :=
  (Mo_oldOf a1 (3 : Int32) h).bind fun x1 => (Mo_oldOf a2 (3 : Int32) h).bind fun x3 => if x1 = x3 then ((Mo_oldOf a1 (2 : Int32) h).bind fun x5 => (Mo_oldOf a2 (2 : Int32) h).bind fun x7 => if x7 ≤ x5 then (some ((0 : Int32))) else (some ((1 : Int32)))) else ((Mo_oldOf a1 (3 : Int32) h).bind fun x10 => (Mo_oldOf a2 (3 : Int32) h).bind fun x12 => if x12 ≤ x10 then (some ((0 : Int32))) else (some ((1 : Int32))))
set_option maxRecDepth 100000 in
set_option maxHeartbeats 4000000 in
theorem eMo_isAhead {d : Nat} (hd : 2 ≤ d) {a1 : Int32} {a2 : Int32} {h : q_H} {r : Int32} (HF : Mo_isAhead a1 a2 h = some r) : q_T d 246 [.inr (.inr (30, 7, 0)), .inl a1, .inl a2] h (some (.inl r), h) := by
  obtain ⟨d, rfl⟩ : ∃ d', d = d' + 1 := ⟨d - 1, by omega⟩
  refine q_ent q_K246 rfl rfl rfl ?_
  unfold Mo_isAhead at HF
  obtain ⟨x1, hx2, HF⟩ := q_bind HF
  refine q_cll (m' := 245) (av := [.inr (.inr (30, 7, 0)), .inl a1, .inl (3 : Int32)]) (st' := []) (pc' := 6) (loc' := [some (.inr (.inr (30, 7, 0))), some (.inl a1), some (.inl a2)]) (h' := h) 4 (fun _ _ => rfl) (eMo_oldOf (by omega) hx2) ?_
  obtain ⟨x3, hx4, HF⟩ := q_bind HF
  refine q_cll (m' := 245) (av := [.inr (.inr (30, 7, 0)), .inl a2, .inl (3 : Int32)]) (st' := [.inl x1]) (pc' := 12) (loc' := [some (.inr (.inr (30, 7, 0))), some (.inl a1), some (.inl a2)]) (h' := h) 4 (fun _ _ => rfl) (eMo_oldOf (by omega) hx4) ?_
  refine q_br (P := x1 = x3) (pcT := 38) (pcF := 15) (loc' := [some (.inr (.inr (30, 7, 0))), some (.inl a1), some (.inl a2)]) (stk' := []) (h' := h) 1 (fun _ _ => rfl) (fun c15 => ?_) (fun c15 => ?_)
  · rw [if_pos c15] at HF
    obtain ⟨x5, hx6, HF⟩ := q_bind HF
    refine q_cll (m' := 245) (av := [.inr (.inr (30, 7, 0)), .inl a1, .inl (2 : Int32)]) (st' := []) (pc' := 44) (loc' := [some (.inr (.inr (30, 7, 0))), some (.inl a1), some (.inl a2)]) (h' := h) 4 (fun _ _ => rfl) (eMo_oldOf (by omega) hx6) ?_
    obtain ⟨x7, hx8, HF⟩ := q_bind HF
    refine q_cll (m' := 245) (av := [.inr (.inr (30, 7, 0)), .inl a2, .inl (2 : Int32)]) (st' := [.inl x5]) (pc' := 50) (loc' := [some (.inr (.inr (30, 7, 0))), some (.inl a1), some (.inl a2)]) (h' := h) 4 (fun _ _ => rfl) (eMo_oldOf (by omega) hx8) ?_
    refine q_br (P := x7 ≤ x5) (pcT := 57) (pcF := 53) (loc' := [some (.inr (.inr (30, 7, 0))), some (.inl a1), some (.inl a2)]) (stk' := []) (h' := h) 1 (fun _ _ => rfl) (fun c9 => ?_) (fun c9 => ?_)
    · rw [if_pos c9] at HF
      have hz := Option.some.inj HF
      subst hz
      exact q_rtn 2 (fun _ _ => rfl)
    · rw [if_neg c9] at HF
      have hz := Option.some.inj HF
      subst hz
      exact q_rtn 3 (fun _ _ => rfl)
  · rw [if_neg c15] at HF
    obtain ⟨x10, hx11, HF⟩ := q_bind HF
    refine q_cll (m' := 245) (av := [.inr (.inr (30, 7, 0)), .inl a1, .inl (3 : Int32)]) (st' := []) (pc' := 21) (loc' := [some (.inr (.inr (30, 7, 0))), some (.inl a1), some (.inl a2)]) (h' := h) 4 (fun _ _ => rfl) (eMo_oldOf (by omega) hx11) ?_
    obtain ⟨x12, hx13, HF⟩ := q_bind HF
    refine q_cll (m' := 245) (av := [.inr (.inr (30, 7, 0)), .inl a2, .inl (3 : Int32)]) (st' := [.inl x10]) (pc' := 27) (loc' := [some (.inr (.inr (30, 7, 0))), some (.inl a1), some (.inl a2)]) (h' := h) 4 (fun _ _ => rfl) (eMo_oldOf (by omega) hx13) ?_
    refine q_br (P := x12 ≤ x10) (pcT := 34) (pcF := 30) (loc' := [some (.inr (.inr (30, 7, 0))), some (.inl a1), some (.inl a2)]) (stk' := []) (h' := h) 1 (fun _ _ => rfl) (fun c14 => ?_) (fun c14 => ?_)
    · rw [if_pos c14] at HF
      have hz := Option.some.inj HF
      subst hz
      exact q_rtn 3 (fun _ _ => rfl)
    · rw [if_neg c14] at HF
      have hz := Option.some.inj HF
      subst hz
      exact q_rtn 3 (fun _ _ => rfl)
def Mo_feed (a1 : Int32) (a2 : Int32) (a3 : Int32) (a4 : Int32) (a5 : Int32) (h : q_H) : Option (Int32 × q_H) :=
  if (((q_si h 30 7 7 0 (0 : Int32)).1 30 12 7 0) + (20 : Int32)) ≤ (700 : Int32) then ((Mo_lays a1 (q_si h 30 7 7 0 (0 : Int32))).bind fun x1 => (Mo_lays a2 x1).bind fun x3 => (Mo_lays a3 x3).bind fun x5 => (Mo_lays a4 x5).bind fun x7 => (Mo_lays a5 x7).bind fun x9 => some (((x9.1 30 12 7 0), x9))) else (some (((-1 : Int32), (q_si h 30 7 7 0 (0 : Int32)))))
set_option maxRecDepth 100000 in
set_option maxHeartbeats 4000000 in
theorem eMo_feed {d : Nat} (hd : 2 ≤ d) {a1 : Int32} {a2 : Int32} {a3 : Int32} {a4 : Int32} {a5 : Int32} {h : q_H} {r : (Int32 × q_H)} (HF : Mo_feed a1 a2 a3 a4 a5 h = some r) : q_T d 250 [.inr (.inr (30, 7, 0)), .inl a1, .inl a2, .inl a3, .inl a4, .inl a5] h (some (.inl r.1), r.2) := by
  obtain ⟨d, rfl⟩ : ∃ d', d = d' + 1 := ⟨d - 1, by omega⟩
  refine q_ent q_K250 rfl rfl rfl ?_
  unfold Mo_feed at HF
  refine q_br (P := (((q_si h 30 7 7 0 (0 : Int32)).1 30 12 7 0) + (20 : Int32)) ≤ (700 : Int32)) (pcT := 20) (pcF := 18) (loc' := [some (.inr (.inr (30, 7, 0))), some (.inl a1), some (.inl a2), some (.inl a3), some (.inl a4), some (.inl a5)]) (stk' := []) (h' := (q_si h 30 7 7 0 (0 : Int32))) 9 (fun _ _ => rfl) (fun c11 => ?_) (fun c11 => ?_)
  · rw [if_pos c11] at HF
    obtain ⟨x1, hx2, HF⟩ := q_bind HF
    refine q_cll (m' := 249) (av := [.inr (.inr (30, 7, 0)), .inl a1]) (st' := []) (pc' := 25) (loc' := [some (.inr (.inr (30, 7, 0))), some (.inl a1), some (.inl a2), some (.inl a3), some (.inl a4), some (.inl a5)]) (h' := (q_si h 30 7 7 0 (0 : Int32))) 3 (fun _ _ => rfl) (eMo_lays (by omega) hx2) ?_
    obtain ⟨x3, hx4, HF⟩ := q_bind HF
    refine q_cll (m' := 249) (av := [.inr (.inr (30, 7, 0)), .inl a2]) (st' := []) (pc' := 30) (loc' := [some (.inr (.inr (30, 7, 0))), some (.inl a1), some (.inl a2), some (.inl a3), some (.inl a4), some (.inl a5)]) (h' := x1) 3 (fun _ _ => rfl) (eMo_lays (by omega) hx4) ?_
    obtain ⟨x5, hx6, HF⟩ := q_bind HF
    refine q_cll (m' := 249) (av := [.inr (.inr (30, 7, 0)), .inl a3]) (st' := []) (pc' := 35) (loc' := [some (.inr (.inr (30, 7, 0))), some (.inl a1), some (.inl a2), some (.inl a3), some (.inl a4), some (.inl a5)]) (h' := x3) 3 (fun _ _ => rfl) (eMo_lays (by omega) hx6) ?_
    obtain ⟨x7, hx8, HF⟩ := q_bind HF
    refine q_cll (m' := 249) (av := [.inr (.inr (30, 7, 0)), .inl a4]) (st' := []) (pc' := 41) (loc' := [some (.inr (.inr (30, 7, 0))), some (.inl a1), some (.inl a2), some (.inl a3), some (.inl a4), some (.inl a5)]) (h' := x5) 3 (fun _ _ => rfl) (eMo_lays (by omega) hx8) ?_
    obtain ⟨x9, hx10, HF⟩ := q_bind HF
    refine q_cll (m' := 249) (av := [.inr (.inr (30, 7, 0)), .inl a5]) (st' := []) (pc' := 47) (loc' := [some (.inr (.inr (30, 7, 0))), some (.inl a1), some (.inl a2), some (.inl a3), some (.inl a4), some (.inl a5)]) (h' := x7) 3 (fun _ _ => rfl) (eMo_lays (by omega) hx10) ?_
    have hz := Option.some.inj HF
    subst hz
    exact q_rtn 3 (fun _ _ => rfl)
  · rw [if_neg c11] at HF
    have hz := Option.some.inj HF
    subst hz
    exact q_rtn 2 (fun _ _ => rfl)
def Mo_isOf (a1 : Int32) (a2 : Int32) (a3 : Int32) (h : q_H) : Option Int32 :=
  if (h.1 30 21 7 0) ≤ a1 then (some ((0 : Int32))) else (bif q_in a1 700 then ((Mo_isIn (h.1 38 0 7 a1.toNatClampNeg) a2 a3 h).bind fun x1 => if x1 = 0 then (some ((0 : Int32))) else (some ((1 : Int32)))) else none)
set_option maxRecDepth 100000 in
set_option maxHeartbeats 4000000 in
theorem eMo_isOf {d : Nat} (hd : 2 ≤ d) {a1 : Int32} {a2 : Int32} {a3 : Int32} {h : q_H} {r : Int32} (HF : Mo_isOf a1 a2 a3 h = some r) : q_T d 251 [.inr (.inr (30, 7, 0)), .inl a1, .inl a2, .inl a3] h (some (.inl r), h) := by
  obtain ⟨d, rfl⟩ : ∃ d', d = d' + 1 := ⟨d - 1, by omega⟩
  refine q_ent q_K251 rfl rfl rfl ?_
  unfold Mo_isOf at HF
  refine q_br (P := (h.1 30 21 7 0) ≤ a1) (pcT := 26) (pcF := 8) (loc' := [some (.inr (.inr (30, 7, 0))), some (.inl a1), some (.inl a2), some (.inl a3)]) (stk' := []) (h' := h) 4 (fun _ _ => rfl) (fun c5 => ?_) (fun c5 => ?_)
  · rw [if_pos c5] at HF
    have hz := Option.some.inj HF
    subst hz
    exact q_rtn 2 (fun _ _ => rfl)
  · rw [if_neg c5] at HF
    obtain ⟨g4, HF⟩ := q_gF HF
    refine q_gd (pc' := 14) (loc' := [some (.inr (.inr (30, 7, 0))), some (.inl a1), some (.inl a2), some (.inl a3)]) (stk' := [.inl (h.1 38 0 7 a1.toNatClampNeg)]) (h' := h) 4 (fun _ _ => rfl) g4 ?_
    obtain ⟨x1, hx2, HF⟩ := q_bind HF
    refine q_cll (m' := 184) (av := [.inl (h.1 38 0 7 a1.toNatClampNeg), .inl a2, .inl a3]) (st' := []) (pc' := 19) (loc' := [some (.inr (.inr (30, 7, 0))), some (.inl a1), some (.inl a2), some (.inl a3)]) (h' := h) 3 (fun _ _ => rfl) (eMo_isIn (by omega) hx2) ?_
    refine q_br (P := x1 = 0) (pcT := 26) (pcF := 22) (loc' := [some (.inr (.inr (30, 7, 0))), some (.inl a1), some (.inl a2), some (.inl a3)]) (stk' := []) (h' := h) 1 (fun _ _ => rfl) (fun c3 => ?_) (fun c3 => ?_)
    · rw [if_pos c3] at HF
      have hz := Option.some.inj HF
      subst hz
      exact q_rtn 2 (fun _ _ => rfl)
    · rw [if_neg c3] at HF
      have hz := Option.some.inj HF
      subst hz
      exact q_rtn 3 (fun _ _ => rfl)
def Mo_waitMany  (h : q_H) : Option Int32 :=
  (q_lp (fun s1 : Int32 × Int32 => (if (h.1 31 0 7 4) ≤ s1.2 then (some (.inr (s1.1))) else ((Mo_isWaiting s1.2 h).bind fun x9 => Option.bind (α := Int32) (if x9 = 0 then (some ((0 : Int32))) else (some ((1 : Int32)))) (fun p16 => some (.inl ((s1.1 + p16), (s1.2 + (1 : Int32)))))) : Option ((Int32 × Int32) ⊕ Int32))) q_fu (((0 : Int32), (1 : Int32)) : Int32 × Int32)).bind fun z8 => some z8
set_option maxRecDepth 100000 in
set_option maxHeartbeats 4000000 in
theorem eMo_waitMany {d : Nat} (hd : 2 ≤ d)  {h : q_H} {r : Int32} (HF : Mo_waitMany  h = some r) : q_T d 261 [.inr (.inr (30, 7, 0))] h (some (.inl r), h) := by
  obtain ⟨d, rfl⟩ : ∃ d', d = d' + 1 := ⟨d - 1, by omega⟩
  refine q_ent q_K261 rfl rfl rfl ?_
  unfold Mo_waitMany at HF
  refine q_blk (pc' := 4) (loc' := [some (.inr (.inr (30, 7, 0))), some (.inl (0 : Int32)), some (.inl (1 : Int32))]) (stk' := []) (h' := h) 4 (fun _ _ => rfl) ?_
  obtain ⟨r6, hl7, HK4⟩ := q_bind HF
  refine q_lpE (E := fun s1 => q_E d q_K261 4 [some (.inr (.inr (30, 7, 0))), some (.inl s1.1), some (.inl s1.2)] [] h (some (.inl r), h)) r6 (fun s1 z8 HF H12 H23 => ?_) _ _ hl7
  refine q_br (P := (h.1 31 0 7 4) ≤ s1.2) (pcT := 36) (pcF := 14) (loc' := [some (.inr (.inr (30, 7, 0))), some (.inl s1.1), some (.inl s1.2)]) (stk' := []) (h' := h) 6 (fun _ _ => rfl) (fun c18 => ?_) (fun c18 => ?_)
  · rw [if_pos c18] at HF
    have hz := Option.some.inj HF
    subst hz
    replace HF := HK4
    rw [← H23 _ rfl] at HF
    have hz := Option.some.inj HF
    subst hz
    exact q_rtn 2 (fun _ _ => rfl)
  · rw [if_neg c18] at HF
    obtain ⟨x9, hx10, HF⟩ := q_bind HF
    refine q_cll (m' := 201) (av := [.inr (.inr (30, 7, 0)), .inl s1.2]) (st' := [.inl s1.1]) (pc' := 20) (loc' := [some (.inr (.inr (30, 7, 0))), some (.inl s1.1), some (.inl s1.2)]) (h' := h) 4 (fun _ _ => rfl) (eMo_isWaiting (by omega) hx10) ?_
    obtain ⟨z11, HA12, HK13⟩ := q_bind HF
    have hP14 : ∀ p16 : Int32, (some (.inl ((s1.1 + p16), (s1.2 + (1 : Int32)))) : Option ((Int32 × Int32) ⊕ Int32)) = some z8 → q_E d q_K261 28 [some (.inr (.inr (30, 7, 0))), some (.inl s1.1), some (.inl s1.2)] [.inl p16, .inl s1.1] h (some (.inl r), h) := by
      intro p16 HF
      refine q_blk (pc' := 4) (loc' := [some (.inr (.inr (30, 7, 0))), some (.inl (s1.1 + p16)), some (.inl (s1.2 + (1 : Int32)))]) (stk' := []) (h' := h) 4 (fun _ _ => rfl) ?_
      have hz := Option.some.inj HF
      subst hz
      exact H12 ((s1.1 + p16), (s1.2 + (1 : Int32))) rfl
    replace HF := HA12
    refine q_br (P := x9 = 0) (pcT := 27) (pcF := 23) (loc' := [some (.inr (.inr (30, 7, 0))), some (.inl s1.1), some (.inl s1.2)]) (stk' := [.inl s1.1]) (h' := h) 1 (fun _ _ => rfl) (fun c15 => ?_) (fun c15 => ?_)
    · rw [if_pos c15] at HF
      refine q_blk (pc' := 28) (loc' := [some (.inr (.inr (30, 7, 0))), some (.inl s1.1), some (.inl s1.2)]) (stk' := [.inl (0 : Int32), .inl s1.1]) (h' := h) 1 (fun _ _ => rfl) ?_
      have hz := Option.some.inj HF
      subst hz
      exact hP14 (0 : Int32) HK13
    · rw [if_neg c15] at HF
      refine q_blk (pc' := 28) (loc' := [some (.inr (.inr (30, 7, 0))), some (.inl s1.1), some (.inl s1.2)]) (stk' := [.inl (1 : Int32), .inl s1.1]) (h' := h) 2 (fun _ _ => rfl) ?_
      have hz := Option.some.inj HF
      subst hz
      exact hP14 (1 : Int32) HK13
def Mo_counts (a1 : Int32) (h : q_H) : Option (Int32 × q_H) :=
  (Mo_isIn a1 (0 : Int32) (7 : Int32) h).bind fun x1 => Option.bind (α := Int32) (if x1 = 0 then (some ((1 : Int32))) else (some ((0 : Int32)))) (fun p8 => (Mo_is p8 h).bind fun x9 => if x9.1 = 0 then (some (((-1 : Int32), x9.2))) else (bif q_in ((9 : Int32) + a1) 1644 then (some (((x9.2.1 31 0 7 ((9 : Int32) + a1).toNatClampNeg), x9.2))) else none))
set_option maxRecDepth 100000 in
set_option maxHeartbeats 4000000 in
theorem eMo_counts {d : Nat} (hd : 2 ≤ d) {a1 : Int32} {h : q_H} {r : (Int32 × q_H)} (HF : Mo_counts a1 h = some r) : q_T d 264 [.inr (.inr (30, 7, 0)), .inl a1] h (some (.inl r.1), r.2) := by
  obtain ⟨d, rfl⟩ : ∃ d', d = d' + 1 := ⟨d - 1, by omega⟩
  refine q_ent q_K264 rfl rfl rfl ?_
  unfold Mo_counts at HF
  obtain ⟨x1, hx2, HF⟩ := q_bind HF
  refine q_cll (m' := 184) (av := [.inl a1, .inl (0 : Int32), .inl (7 : Int32)]) (st' := [.inr (.inr (30, 7, 0))]) (pc' := 8) (loc' := [some (.inr (.inr (30, 7, 0))), some (.inl a1)]) (h' := h) 5 (fun _ _ => rfl) (eMo_isIn (by omega) hx2) ?_
  obtain ⟨z3, HA4, HK5⟩ := q_bind HF
  have hP6 : ∀ p8 : Int32, ((Mo_is p8 h).bind fun x9 => if x9.1 = 0 then (some (((-1 : Int32), x9.2))) else (bif q_in ((9 : Int32) + a1) 1644 then (some (((x9.2.1 31 0 7 ((9 : Int32) + a1).toNatClampNeg), x9.2))) else none) : Option (Int32 × q_H)) = some r → q_E d q_K264 16 [some (.inr (.inr (30, 7, 0))), some (.inl a1)] [.inl p8, .inr (.inr (30, 7, 0))] h (some (.inl r.1), r.2) := by
    intro p8 HF
    obtain ⟨x9, hx10, HF⟩ := q_bind HF
    refine q_cll (m' := 183) (av := [.inr (.inr (30, 7, 0)), .inl p8]) (st' := []) (pc' := 19) (loc' := [some (.inr (.inr (30, 7, 0))), some (.inl a1)]) (h' := h) 1 (fun _ _ => rfl) (eMo_is (by omega) hx10) ?_
    refine q_br (P := x9.1 = 0) (pcT := 34) (pcF := 22) (loc' := [some (.inr (.inr (30, 7, 0))), some (.inl a1)]) (stk' := []) (h' := x9.2) 1 (fun _ _ => rfl) (fun c12 => ?_) (fun c12 => ?_)
    · rw [if_pos c12] at HF
      have hz := Option.some.inj HF
      subst hz
      exact q_rtn 2 (fun _ _ => rfl)
    · rw [if_neg c12] at HF
      obtain ⟨g11, HF⟩ := q_gF HF
      refine q_gd (pc' := 31) (loc' := [some (.inr (.inr (30, 7, 0))), some (.inl a1)]) (stk' := [.inl (x9.2.1 31 0 7 ((9 : Int32) + a1).toNatClampNeg)]) (h' := x9.2) 6 (fun _ _ => rfl) g11 ?_
      have hz := Option.some.inj HF
      subst hz
      exact q_rtn 2 (fun _ _ => rfl)
  replace HF := HA4
  refine q_br (P := x1 = 0) (pcT := 15) (pcF := 11) (loc' := [some (.inr (.inr (30, 7, 0))), some (.inl a1)]) (stk' := [.inr (.inr (30, 7, 0))]) (h' := h) 1 (fun _ _ => rfl) (fun c7 => ?_) (fun c7 => ?_)
  · rw [if_pos c7] at HF
    refine q_blk (pc' := 16) (loc' := [some (.inr (.inr (30, 7, 0))), some (.inl a1)]) (stk' := [.inl (1 : Int32), .inr (.inr (30, 7, 0))]) (h' := h) 1 (fun _ _ => rfl) ?_
    have hz := Option.some.inj HF
    subst hz
    exact hP6 (1 : Int32) HK5
  · rw [if_neg c7] at HF
    refine q_blk (pc' := 16) (loc' := [some (.inr (.inr (30, 7, 0))), some (.inl a1)]) (stk' := [.inl (0 : Int32), .inr (.inr (30, 7, 0))]) (h' := h) 2 (fun _ _ => rfl) ?_
    have hz := Option.some.inj HF
    subst hz
    exact hP6 (0 : Int32) HK5
def Mo_isPage (a1 : Int32) (h : q_H) : Option Int32 :=
  (Mo_isIn a1 (0 : Int32) (5 : Int32) h).bind fun x1 => bif q_01 x1 then some (x1) else none
set_option maxRecDepth 100000 in
set_option maxHeartbeats 4000000 in
theorem eMo_isPage {d : Nat} (hd : 2 ≤ d) {a1 : Int32} {h : q_H} {r : Int32} (HF : Mo_isPage a1 h = some r) : q_T d 265 [.inl a1] h (some (.inl r), h) := by
  obtain ⟨d, rfl⟩ : ∃ d', d = d' + 1 := ⟨d - 1, by omega⟩
  refine q_ent q_K265 rfl rfl rfl ?_
  unfold Mo_isPage at HF
  obtain ⟨x1, hx2, HF⟩ := q_bind HF
  refine q_cll (m' := 184) (av := [.inl a1, .inl (0 : Int32), .inl (5 : Int32)]) (st' := []) (pc' := 6) (loc' := [some (.inl a1)]) (h' := h) 4 (fun _ _ => rfl) (eMo_isIn (by omega) hx2) ?_
  obtain ⟨g3, HF⟩ := q_gF HF
  have hz := Option.some.inj HF
  subst hz
  exact q_rtz 1 (fun _ _ => rfl) g3
