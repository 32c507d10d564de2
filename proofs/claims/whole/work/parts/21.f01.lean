def Mo_lays (a1 : Int32) (h : q_H) : Option q_H :=
  (q_lp (fun s1 : Int32 × q_H => (if s1.1 < 0 then (some (.inr (s1.2))) else (bif q_in (s1.2.1 30 12 7 0) 700 then ((some (q_si (q_si s1.2 38 0 7 (s1.2.1 30 12 7 0).toNatClampNeg (((a1 >>> (s1.1 &&& 31))).toInt8.toInt32).toInt8.toInt32) 30 12 7 0 (((q_si s1.2 38 0 7 (s1.2.1 30 12 7 0).toNatClampNeg (((a1 >>> (s1.1 &&& 31))).toInt8.toInt32).toInt8.toInt32).1 30 12 7 0) + (1 : Int32)))).bind fun h9 => some (.inl ((s1.1 + (-8 : Int32)), h9))) else none) : Option ((Int32 × q_H) ⊕ q_H))) q_fu (((24 : Int32), h) : Int32 × q_H)).bind fun z8 => some z8
set_option maxRecDepth 100000 in
set_option maxHeartbeats 4000000 in
theorem eMo_lays {d : Nat} (hd : 1 ≤ d) {a1 : Int32} {h : q_H} {r : q_H} (HF : Mo_lays a1 h = some r) : q_T d 249 [.inr (.inr (30, 7, 0)), .inl a1] h (none, r) := by
  obtain ⟨d, rfl⟩ : ∃ d', d = d' + 1 := ⟨d - 1, by omega⟩
  refine q_ent q_K249 rfl rfl rfl ?_
  unfold Mo_lays at HF
  refine q_blk (pc' := 3) (loc' := [some (.inr (.inr (30, 7, 0))), some (.inl a1), some (.inl (24 : Int32))]) (stk' := []) (h' := h) 2 (fun _ _ => rfl) ?_
  obtain ⟨r6, hl7, HK4⟩ := q_bind HF
  refine q_lpE (E := fun s1 => q_E d q_K249 3 [some (.inr (.inr (30, 7, 0))), some (.inl a1), some (.inl s1.1)] [] s1.2 (none, r)) r6 (fun s1 z8 HF H12 H23 => ?_) _ _ hl7
  refine q_br (P := s1.1 < 0) (pcT := 36) (pcF := 7) (loc' := [some (.inr (.inr (30, 7, 0))), some (.inl a1), some (.inl s1.1)]) (stk' := []) (h' := s1.2) 2 (fun _ _ => rfl) (fun c12 => ?_) (fun c12 => ?_)
  · rw [if_pos c12] at HF
    have hz := Option.some.inj HF
    subst hz
    replace HF := HK4
    rw [← H23 _ rfl] at HF
    have hz := Option.some.inj HF
    subst hz
    exact q_rtn 1 (fun _ _ => rfl)
  · rw [if_neg c12] at HF
    obtain ⟨g11, HF⟩ := q_gF HF
    refine q_gd (pc' := 20) (loc' := [some (.inr (.inr (30, 7, 0))), some (.inl a1), some (.inl s1.1)]) (stk' := []) (h' := (q_si s1.2 38 0 7 (s1.2.1 30 12 7 0).toNatClampNeg (((a1 >>> (s1.1 &&& 31))).toInt8.toInt32).toInt8.toInt32)) 9 (fun _ _ => rfl) g11 ?_
    obtain ⟨h9, e10, HF⟩ := q_bind HF
    refine q_blk (pc' := 30) (loc' := [some (.inr (.inr (30, 7, 0))), some (.inl a1), some (.inl s1.1)]) (stk' := []) (h' := (q_si (q_si s1.2 38 0 7 (s1.2.1 30 12 7 0).toNatClampNeg (((a1 >>> (s1.1 &&& 31))).toInt8.toInt32).toInt8.toInt32) 30 12 7 0 (((q_si s1.2 38 0 7 (s1.2.1 30 12 7 0).toNatClampNeg (((a1 >>> (s1.1 &&& 31))).toInt8.toInt32).toInt8.toInt32).1 30 12 7 0) + (1 : Int32)))) 6 (fun _ _ => rfl) ?_
    rw [Option.some.inj e10]
    refine q_blk (pc' := 3) (loc' := [some (.inr (.inr (30, 7, 0))), some (.inl a1), some (.inl (s1.1 + (-8 : Int32)))]) (stk' := []) (h' := h9) 2 (fun _ _ => rfl) ?_
    have hz := Option.some.inj HF
    subst hz
    exact H12 ((s1.1 + (-8 : Int32)), h9) rfl
def Mo_must (a1 : Int32) (a2 : Int32) (a3 : Int32) (h : q_H) : Option q_H :=
  if ¬ a1 = 0 then (some (h)) else (if (h.1 30 15 7 0) ≤ 0 then (if ¬ a2 = (2 : Int32) then (some ((q_si (q_si h 30 15 7 0 a2) 30 16 7 0 a3))) else (if ¬ (h.1 30 19 7 0) = (4 : Int32) then (some ((q_si (q_si h 30 15 7 0 a2) 30 16 7 0 a3))) else (some ((q_si (q_si h 30 15 7 0 (1 : Int32)) 30 16 7 0 a3))))) else (some (h)))
set_option maxRecDepth 100000 in
set_option maxHeartbeats 4000000 in
theorem eMo_must {d : Nat} (hd : 1 ≤ d) {a1 : Int32} {a2 : Int32} {a3 : Int32} {h : q_H} {r : q_H} (HF : Mo_must a1 a2 a3 h = some r) : q_T d 253 [.inr (.inr (30, 7, 0)), .inl a1, .inl a2, .inl a3] h (none, r) := by
  obtain ⟨d, rfl⟩ : ∃ d', d = d' + 1 := ⟨d - 1, by omega⟩
  refine q_ent q_K253 rfl rfl rfl ?_
  unfold Mo_must at HF
  refine q_br (P := ¬ a1 = 0) (pcT := 11) (pcF := 4) (loc' := [some (.inr (.inr (30, 7, 0))), some (.inl a1), some (.inl a2), some (.inl a3)]) (stk' := []) (h' := h) 2 (fun _ _ => rfl) (fun c4 => ?_) (fun c4 => ?_)
  · rw [if_pos c4] at HF
    have hz := Option.some.inj HF
    subst hz
    exact q_rtn 1 (fun _ _ => rfl)
  · rw [if_neg c4] at HF
    refine q_br (P := (h.1 30 15 7 0) ≤ 0) (pcT := 12) (pcF := 11) (loc' := [some (.inr (.inr (30, 7, 0))), some (.inl a1), some (.inl a2), some (.inl a3)]) (stk' := []) (h' := h) 3 (fun _ _ => rfl) (fun c3 => ?_) (fun c3 => ?_)
    · rw [if_pos c3] at HF
      refine q_br (P := ¬ a2 = (2 : Int32)) (pcT := 30) (pcF := 18) (loc' := [some (.inr (.inr (30, 7, 0))), some (.inl a1), some (.inl a2), some (.inl a3)]) (stk' := [.inr (.inr (30, 7, 0))]) (h' := h) 4 (fun _ _ => rfl) (fun c2 => ?_) (fun c2 => ?_)
      · rw [if_pos c2] at HF
        have hz := Option.some.inj HF
        subst hz
        exact q_rtn 6 (fun _ _ => rfl)
      · rw [if_neg c2] at HF
        refine q_br (P := ¬ (h.1 30 19 7 0) = (4 : Int32)) (pcT := 30) (pcF := 26) (loc' := [some (.inr (.inr (30, 7, 0))), some (.inl a1), some (.inl a2), some (.inl a3)]) (stk' := [.inr (.inr (30, 7, 0))]) (h' := h) 4 (fun _ _ => rfl) (fun c1 => ?_) (fun c1 => ?_)
        · rw [if_pos c1] at HF
          have hz := Option.some.inj HF
          subst hz
          exact q_rtn 6 (fun _ _ => rfl)
        · rw [if_neg c1] at HF
          have hz := Option.some.inj HF
          subst hz
          exact q_rtn 7 (fun _ _ => rfl)
    · rw [if_neg c3] at HF
      have hz := Option.some.inj HF
      subst hz
      exact q_rtn 1 (fun _ _ => rfl)
def Mo_key  (h : q_H) : Option Int32 :=
  (q_lp (fun s1 : Int32 => (if (14 : Int32) ≤ s1 then (some (.inr ((-1 : Int32)))) else (if ¬ (h.1 30 19 7 0) = (1 : Int32) then (some (.inr ((-1 : Int32)))) else (bif q_in s1 14 then (if ¬ (lg_cmp (h.2 39 0 7 s1.toNatClampNeg) (h.2 30 22 7 0)) = 0 then (some (.inl (s1 + (1 : Int32)))) else (some (.inr (s1)))) else none)) : Option ((Int32) ⊕ Int32))) q_fu ((0 : Int32) : Int32)).bind fun z8 => some z8
set_option maxRecDepth 100000 in
set_option maxHeartbeats 4000000 in
theorem eMo_key {d : Nat} (hd : 1 ≤ d)  {h : q_H} {r : Int32} (HF : Mo_key  h = some r) : q_T d 254 [.inr (.inr (30, 7, 0))] h (some (.inl r), h) := by
  obtain ⟨d, rfl⟩ : ∃ d', d = d' + 1 := ⟨d - 1, by omega⟩
  refine q_ent q_K254 rfl rfl rfl ?_
  unfold Mo_key at HF
  refine q_blk (pc' := 2) (loc' := [some (.inr (.inr (30, 7, 0))), some (.inl (0 : Int32))]) (stk' := []) (h' := h) 2 (fun _ _ => rfl) ?_
  obtain ⟨r6, hl7, HK4⟩ := q_bind HF
  refine q_lpE (E := fun s1 => q_E d q_K254 2 [some (.inr (.inr (30, 7, 0))), some (.inl s1)] [] h (some (.inl r), h)) r6 (fun s1 z8 HF H12 H23 => ?_) _ _ hl7
  refine q_br (P := (14 : Int32) ≤ s1) (pcT := 38) (pcF := 8) (loc' := [some (.inr (.inr (30, 7, 0))), some (.inl s1)]) (stk' := []) (h' := h) 3 (fun _ _ => rfl) (fun c12 => ?_) (fun c12 => ?_)
  · rw [if_pos c12] at HF
    have hz := Option.some.inj HF
    subst hz
    replace HF := HK4
    rw [← H23 _ rfl] at HF
    have hz := Option.some.inj HF
    subst hz
    exact q_rtn 2 (fun _ _ => rfl)
  · rw [if_neg c12] at HF
    refine q_br (P := ¬ (h.1 30 19 7 0) = (1 : Int32)) (pcT := 38) (pcF := 16) (loc' := [some (.inr (.inr (30, 7, 0))), some (.inl s1)]) (stk' := []) (h' := h) 4 (fun _ _ => rfl) (fun c11 => ?_) (fun c11 => ?_)
    · rw [if_pos c11] at HF
      have hz := Option.some.inj HF
      subst hz
      replace HF := HK4
      rw [← H23 _ rfl] at HF
      have hz := Option.some.inj HF
      subst hz
      exact q_rtn 2 (fun _ _ => rfl)
    · rw [if_neg c11] at HF
      obtain ⟨g10, HF⟩ := q_gF HF
      refine q_gd (pc' := 22) (loc' := [some (.inr (.inr (30, 7, 0))), some (.inl s1)]) (stk' := [.inr (.inl (h.2 39 0 7 s1.toNatClampNeg))]) (h' := h) 4 (fun _ _ => rfl) g10 ?_
      refine q_br (P := ¬ (lg_cmp (h.2 39 0 7 s1.toNatClampNeg) (h.2 30 22 7 0)) = 0) (pcT := 32) (pcF := 30) (loc' := [some (.inr (.inr (30, 7, 0))), some (.inl s1)]) (stk' := []) (h' := h) 4 (fun _ _ => rfl) (fun c9 => ?_) (fun c9 => ?_)
      · rw [if_pos c9] at HF
        refine q_blk (pc' := 2) (loc' := [some (.inr (.inr (30, 7, 0))), some (.inl (s1 + (1 : Int32)))]) (stk' := []) (h' := h) 2 (fun _ _ => rfl) ?_
        have hz := Option.some.inj HF
        subst hz
        exact H12 (s1 + (1 : Int32)) rfl
      · rw [if_neg c9] at HF
        have hz := Option.some.inj HF
        subst hz
        replace HF := HK4
        rw [← H23 _ rfl] at HF
        have hz := Option.some.inj HF
        subst hz
        exact q_rtn 2 (fun _ _ => rfl)
def Mo_fault (a1 : Int32) (h : q_H) : Option (Int32 × q_H) :=
  if ¬ a1 = 0 then (if ¬ a1 = (1 : Int32) then (some (((-1 : Int32), (q_si h 30 7 7 0 (0 : Int32))))) else (some ((((q_si h 30 7 7 0 (0 : Int32)).1 30 14 7 0), (q_si h 30 7 7 0 (0 : Int32)))))) else (some ((((q_si h 30 7 7 0 (0 : Int32)).1 30 13 7 0), (q_si h 30 7 7 0 (0 : Int32)))))
set_option maxRecDepth 100000 in
set_option maxHeartbeats 4000000 in
theorem eMo_fault {d : Nat} (hd : 1 ≤ d) {a1 : Int32} {h : q_H} {r : (Int32 × q_H)} (HF : Mo_fault a1 h = some r) : q_T d 259 [.inr (.inr (30, 7, 0)), .inl a1] h (some (.inl r.1), r.2) := by
  obtain ⟨d, rfl⟩ : ∃ d', d = d' + 1 := ⟨d - 1, by omega⟩
  refine q_ent q_K259 rfl rfl rfl ?_
  unfold Mo_fault at HF
  refine q_br (P := ¬ a1 = 0) (pcT := 16) (pcF := 9) (loc' := [some (.inr (.inr (30, 7, 0))), some (.inl a1)]) (stk' := []) (h' := (q_si h 30 7 7 0 (0 : Int32))) 5 (fun _ _ => rfl) (fun c2 => ?_) (fun c2 => ?_)
  · rw [if_pos c2] at HF
    refine q_br (P := ¬ a1 = (1 : Int32)) (pcT := 28) (pcF := 21) (loc' := [some (.inr (.inr (30, 7, 0))), some (.inl a1)]) (stk' := []) (h' := (q_si h 30 7 7 0 (0 : Int32))) 3 (fun _ _ => rfl) (fun c1 => ?_) (fun c1 => ?_)
    · rw [if_pos c1] at HF
      have hz := Option.some.inj HF
      subst hz
      exact q_rtn 2 (fun _ _ => rfl)
    · rw [if_neg c1] at HF
      have hz := Option.some.inj HF
      subst hz
      exact q_rtn 4 (fun _ _ => rfl)
  · rw [if_neg c2] at HF
    have hz := Option.some.inj HF
    subst hz
    exact q_rtn 4 (fun _ _ => rfl)
def Mo_ringOf (a1 : Int32) (a2 : Int32) (h : q_H) : Option Int32 :=
  (q_lp (fun s1 : Int32 × Int32 => (if s1.2 ≤ 0 then (some (.inr ((0 : Int32)))) else (if ¬ s1.2 = a1 then (bif q_in ((1583 : Int32) + s1.2) 1644 then (some (.inl ((s1.1 + (1 : Int32)), (h.1 31 0 7 ((1583 : Int32) + s1.2).toNatClampNeg)))) else none) else (some (.inr (s1.1)))) : Option ((Int32 × Int32) ⊕ Int32))) q_fu (((1 : Int32), a2) : Int32 × Int32)).bind fun z8 => some z8
set_option maxRecDepth 100000 in
set_option maxHeartbeats 4000000 in
theorem eMo_ringOf {d : Nat} (hd : 1 ≤ d) {a1 : Int32} {a2 : Int32} {h : q_H} {r : Int32} (HF : Mo_ringOf a1 a2 h = some r) : q_T d 298 [.inr (.inr (30, 7, 0)), .inl a1, .inl a2] h (some (.inl r), h) := by
  obtain ⟨d, rfl⟩ : ∃ d', d = d' + 1 := ⟨d - 1, by omega⟩
  refine q_ent q_K298 rfl rfl rfl ?_
  unfold Mo_ringOf at HF
  refine q_blk (pc' := 5) (loc' := [some (.inr (.inr (30, 7, 0))), some (.inl a1), some (.inl a2), some (.inl (1 : Int32)), some (.inl a2)]) (stk' := []) (h' := h) 4 (fun _ _ => rfl) ?_
  obtain ⟨r6, hl7, HK4⟩ := q_bind HF
  refine q_lpE (E := fun s1 => q_E d q_K298 5 [some (.inr (.inr (30, 7, 0))), some (.inl a1), some (.inl a2), some (.inl s1.1), some (.inl s1.2)] [] h (some (.inl r), h)) r6 (fun s1 z8 HF H12 H23 => ?_) _ _ hl7
  refine q_br (P := s1.2 ≤ 0) (pcT := 37) (pcF := 10) (loc' := [some (.inr (.inr (30, 7, 0))), some (.inl a1), some (.inl a2), some (.inl s1.1), some (.inl s1.2)]) (stk' := []) (h' := h) 2 (fun _ _ => rfl) (fun c11 => ?_) (fun c11 => ?_)
  · rw [if_pos c11] at HF
    have hz := Option.some.inj HF
    subst hz
    replace HF := HK4
    rw [← H23 _ rfl] at HF
    have hz := Option.some.inj HF
    subst hz
    exact q_rtn 2 (fun _ _ => rfl)
  · rw [if_neg c11] at HF
    refine q_br (P := ¬ s1.2 = a1) (pcT := 18) (pcF := 16) (loc' := [some (.inr (.inr (30, 7, 0))), some (.inl a1), some (.inl a2), some (.inl s1.1), some (.inl s1.2)]) (stk' := []) (h' := h) 3 (fun _ _ => rfl) (fun c10 => ?_) (fun c10 => ?_)
    · rw [if_pos c10] at HF
      obtain ⟨g9, HF⟩ := q_gF HF
      refine q_gd (pc' := 32) (loc' := [some (.inr (.inr (30, 7, 0))), some (.inl a1), some (.inl a2), some (.inl (s1.1 + (1 : Int32))), some (.inl s1.2)]) (stk' := [.inl (h.1 31 0 7 ((1583 : Int32) + s1.2).toNatClampNeg)]) (h' := h) 7 (fun _ _ => rfl) g9 ?_
      refine q_blk (pc' := 5) (loc' := [some (.inr (.inr (30, 7, 0))), some (.inl a1), some (.inl a2), some (.inl (s1.1 + (1 : Int32))), some (.inl (h.1 31 0 7 ((1583 : Int32) + s1.2).toNatClampNeg))]) (stk' := []) (h' := h) 2 (fun _ _ => rfl) ?_
      have hz := Option.some.inj HF
      subst hz
      exact H12 ((s1.1 + (1 : Int32)), (h.1 31 0 7 ((1583 : Int32) + s1.2).toNatClampNeg)) rfl
    · rw [if_neg c10] at HF
      have hz := Option.some.inj HF
      subst hz
      replace HF := HK4
      rw [← H23 _ rfl] at HF
      have hz := Option.some.inj HF
      subst hz
      exact q_rtn 2 (fun _ _ => rfl)
def Rp_knows (a1 : Int32) (a2 : Int32) (h : q_H) : Option (Int32 × q_H) :=
  (Tn_has 0 a1 h).bind fun x1 => if x1 = 0 then ((Rp_refuse (2 : Int32) h).bind fun x3 => some ((x3.1, x3.2))) else ((Tn_has 0 a2 h).bind fun x5 => if ¬ x5 = 0 then ((Tn_isKnown 0 a1 a2 h).bind fun x7 => if x7 = 0 then ((Rp_answer (0 : Int32) h).bind fun x9 => some ((x9.1, x9.2))) else ((Rp_answer (1 : Int32) h).bind fun x11 => some ((x11.1, x11.2)))) else ((Rp_refuse (2 : Int32) h).bind fun x14 => some ((x14.1, x14.2))))
set_option maxRecDepth 100000 in
set_option maxHeartbeats 4000000 in
theorem eRp_knows {d : Nat} (hd : 2 ≤ d) {a1 : Int32} {a2 : Int32} {h : q_H} {r : (Int32 × q_H)} (HF : Rp_knows a1 a2 h = some r) : q_T d 16 [.inr (.inr (24, 6, 0)), .inl a1, .inl a2] h (some (.inl r.1), r.2) := by
  obtain ⟨d, rfl⟩ : ∃ d', d = d' + 1 := ⟨d - 1, by omega⟩
  refine q_ent q_K16 rfl rfl rfl ?_
  unfold Rp_knows at HF
  obtain ⟨x1, hx2, HF⟩ := q_bind HF
  refine q_cll (m' := 105) (av := [.inr (.inr (6, 0, 0)), .inl a1]) (st' := []) (pc' := 11) (loc' := [some (.inr (.inr (24, 6, 0))), some (.inl a1), some (.inl a2)]) (h' := h) 5 (fun _ _ => rfl) (eTn_has (by omega) hx2) ?_
  refine q_br (P := x1 = 0) (pcT := 28) (pcF := 14) (loc' := [some (.inr (.inr (24, 6, 0))), some (.inl a1), some (.inl a2)]) (stk' := []) (h' := h) 1 (fun _ _ => rfl) (fun c17 => ?_) (fun c17 => ?_)
  · rw [if_pos c17] at HF
    obtain ⟨x3, hx4, HF⟩ := q_bind HF
    refine q_cll (m' := 46) (av := [.inr (.inr (24, 6, 0)), .inl (2 : Int32)]) (st' := []) (pc' := 33) (loc' := [some (.inr (.inr (24, 6, 0))), some (.inl a1), some (.inl a2)]) (h' := h) 3 (fun _ _ => rfl) (eRp_refuse (by omega) hx4) ?_
    have hz := Option.some.inj HF
    subst hz
    exact q_rtn 1 (fun _ _ => rfl)
  · rw [if_neg c17] at HF
    obtain ⟨x5, hx6, HF⟩ := q_bind HF
    refine q_cll (m' := 105) (av := [.inr (.inr (6, 0, 0)), .inl a2]) (st' := []) (pc' := 25) (loc' := [some (.inr (.inr (24, 6, 0))), some (.inl a1), some (.inl a2)]) (h' := h) 5 (fun _ _ => rfl) (eTn_has (by omega) hx6) ?_
    refine q_br (P := ¬ x5 = 0) (pcT := 34) (pcF := 28) (loc' := [some (.inr (.inr (24, 6, 0))), some (.inl a1), some (.inl a2)]) (stk' := []) (h' := h) 1 (fun _ _ => rfl) (fun c16 => ?_) (fun c16 => ?_)
    · rw [if_pos c16] at HF
      obtain ⟨x7, hx8, HF⟩ := q_bind HF
      refine q_cll (m' := 111) (av := [.inr (.inr (6, 0, 0)), .inl a1, .inl a2]) (st' := [.inr (.inr (24, 6, 0))]) (pc' := 47) (loc' := [some (.inr (.inr (24, 6, 0))), some (.inl a1), some (.inl a2)]) (h' := h) 7 (fun _ _ => rfl) (eTn_isKnown (by omega) hx8) ?_
      refine q_br (P := x7 = 0) (pcT := 54) (pcF := 50) (loc' := [some (.inr (.inr (24, 6, 0))), some (.inl a1), some (.inl a2)]) (stk' := [.inr (.inr (24, 6, 0))]) (h' := h) 1 (fun _ _ => rfl) (fun c13 => ?_) (fun c13 => ?_)
      · rw [if_pos c13] at HF
        obtain ⟨x9, hx10, HF⟩ := q_bind HF
        refine q_cll (m' := 45) (av := [.inr (.inr (24, 6, 0)), .inl (0 : Int32)]) (st' := []) (pc' := 58) (loc' := [some (.inr (.inr (24, 6, 0))), some (.inl a1), some (.inl a2)]) (h' := h) 2 (fun _ _ => rfl) (eRp_answer (by omega) hx10) ?_
        have hz := Option.some.inj HF
        subst hz
        exact q_rtn 1 (fun _ _ => rfl)
      · rw [if_neg c13] at HF
        obtain ⟨x11, hx12, HF⟩ := q_bind HF
        refine q_cll (m' := 45) (av := [.inr (.inr (24, 6, 0)), .inl (1 : Int32)]) (st' := []) (pc' := 58) (loc' := [some (.inr (.inr (24, 6, 0))), some (.inl a1), some (.inl a2)]) (h' := h) 3 (fun _ _ => rfl) (eRp_answer (by omega) hx12) ?_
        have hz := Option.some.inj HF
        subst hz
        exact q_rtn 1 (fun _ _ => rfl)
    · rw [if_neg c16] at HF
      obtain ⟨x14, hx15, HF⟩ := q_bind HF
      refine q_cll (m' := 46) (av := [.inr (.inr (24, 6, 0)), .inl (2 : Int32)]) (st' := []) (pc' := 33) (loc' := [some (.inr (.inr (24, 6, 0))), some (.inl a1), some (.inl a2)]) (h' := h) 3 (fun _ _ => rfl) (eRp_refuse (by omega) hx15) ?_
      have hz := Option.some.inj HF
      subst hz
      exact q_rtn 1 (fun _ _ => rfl)
def Rp_set (a1 : Int32) (a2 : Int32) (h : q_H) : Option (Int32 × q_H) :=
  Option.bind (α := (q_H) ⊕ (Int32 × q_H)) (if ¬ a1 = 0 then (some (.inl h)) else ((Rp_isWithin a2 (1 : Int32) (8 : Int32) h).bind fun x5 => if x5 = 0 then (some (.inl h)) else ((Rp_answer (h.1 0 5 0 0) (q_si h 0 5 0 0 a2)).bind fun x7 => some (.inr ((x7.1, x7.2)))))) (fun z1 => match z1 with | .inl p11 => if ¬ a1 = (1 : Int32) then ((Rp_refuse (1 : Int32) p11).bind fun x12 => some ((x12.1, x12.2))) else ((Rp_isWithin a2 (0 : Int32) (30 : Int32) p11).bind fun x14 => if x14 = 0 then ((Rp_refuse (1 : Int32) p11).bind fun x16 => some ((x16.1, x16.2))) else ((Rp_answer (p11.1 0 6 0 0) (q_si p11 0 6 0 0 a2)).bind fun x18 => some ((x18.1, x18.2)))) | .inr z1 => some z1)
set_option maxRecDepth 100000 in
set_option maxHeartbeats 4000000 in
theorem eRp_set {d : Nat} (hd : 2 ≤ d) {a1 : Int32} {a2 : Int32} {h : q_H} {r : (Int32 × q_H)} (HF : Rp_set a1 a2 h = some r) : q_T d 33 [.inr (.inr (24, 6, 0)), .inl a1, .inl a2] h (some (.inl r.1), r.2) := by
  obtain ⟨d, rfl⟩ : ∃ d', d = d' + 1 := ⟨d - 1, by omega⟩
  refine q_ent q_K33 rfl rfl rfl ?_
  unfold Rp_set at HF
  obtain ⟨z1, HA2, HK3⟩ := q_bind HF
  have hP4 : ∀ p11 : q_H, (if ¬ a1 = (1 : Int32) then ((Rp_refuse (1 : Int32) p11).bind fun x12 => some ((x12.1, x12.2))) else ((Rp_isWithin a2 (0 : Int32) (30 : Int32) p11).bind fun x14 => if x14 = 0 then ((Rp_refuse (1 : Int32) p11).bind fun x16 => some ((x16.1, x16.2))) else ((Rp_answer (p11.1 0 6 0 0) (q_si p11 0 6 0 0 a2)).bind fun x18 => some ((x18.1, x18.2)))) : Option (Int32 × q_H)) = some r → q_E d q_K33 36 [some (.inr (.inr (24, 6, 0))), some (.inl a1), some (.inl a2), none] [] p11 (some (.inl r.1), r.2) := by
    intro p11 HF
    refine q_br (P := ¬ a1 = (1 : Int32)) (pcT := 73) (pcF := 41) (loc' := [some (.inr (.inr (24, 6, 0))), some (.inl a1), some (.inl a2), none]) (stk' := []) (h' := p11) 3 (fun _ _ => rfl) (fun c21 => ?_) (fun c21 => ?_)
    · rw [if_pos c21] at HF
      obtain ⟨x12, hx13, HF⟩ := q_bind HF
      refine q_cll (m' := 46) (av := [.inr (.inr (24, 6, 0)), .inl (1 : Int32)]) (st' := []) (pc' := 78) (loc' := [some (.inr (.inr (24, 6, 0))), some (.inl a1), some (.inl a2), none]) (h' := p11) 3 (fun _ _ => rfl) (eRp_refuse (by omega) hx13) ?_
      have hz := Option.some.inj HF
      subst hz
      exact q_rtn 1 (fun _ _ => rfl)
    · rw [if_neg c21] at HF
      obtain ⟨x14, hx15, HF⟩ := q_bind HF
      refine q_cll (m' := 55) (av := [.inl a2, .inl (0 : Int32), .inl (30 : Int32)]) (st' := []) (pc' := 48) (loc' := [some (.inr (.inr (24, 6, 0))), some (.inl a1), some (.inl a2), none]) (h' := p11) 4 (fun _ _ => rfl) (eRp_isWithin (by omega) hx15) ?_
      refine q_br (P := x14 = 0) (pcT := 73) (pcF := 51) (loc' := [some (.inr (.inr (24, 6, 0))), some (.inl a1), some (.inl a2), none]) (stk' := []) (h' := p11) 1 (fun _ _ => rfl) (fun c20 => ?_) (fun c20 => ?_)
      · rw [if_pos c20] at HF
        obtain ⟨x16, hx17, HF⟩ := q_bind HF
        refine q_cll (m' := 46) (av := [.inr (.inr (24, 6, 0)), .inl (1 : Int32)]) (st' := []) (pc' := 78) (loc' := [some (.inr (.inr (24, 6, 0))), some (.inl a1), some (.inl a2), none]) (h' := p11) 3 (fun _ _ => rfl) (eRp_refuse (by omega) hx17) ?_
        have hz := Option.some.inj HF
        subst hz
        exact q_rtn 1 (fun _ _ => rfl)
      · rw [if_neg c20] at HF
        obtain ⟨x18, hx19, HF⟩ := q_bind HF
        refine q_cll (m' := 45) (av := [.inr (.inr (24, 6, 0)), .inl (p11.1 0 6 0 0)]) (st' := []) (pc' := 72) (loc' := [some (.inr (.inr (24, 6, 0))), some (.inl a1), some (.inl a2), some (.inl (p11.1 0 6 0 0))]) (h' := (q_si p11 0 6 0 0 a2)) 11 (fun _ _ => rfl) (eRp_answer (by omega) hx19) ?_
        have hz := Option.some.inj HF
        subst hz
        exact q_rtn 1 (fun _ _ => rfl)
  replace HF := HA2
  refine q_br (P := ¬ a1 = 0) (pcT := 36) (pcF := 4) (loc' := [some (.inr (.inr (24, 6, 0))), some (.inl a1), some (.inl a2), none]) (stk' := []) (h' := h) 2 (fun _ _ => rfl) (fun c10 => ?_) (fun c10 => ?_)
  · rw [if_pos c10] at HF
    have hz := Option.some.inj HF
    subst hz
    exact hP4 (h) HK3
  · rw [if_neg c10] at HF
    obtain ⟨x5, hx6, HF⟩ := q_bind HF
    refine q_cll (m' := 55) (av := [.inl a2, .inl (1 : Int32), .inl (8 : Int32)]) (st' := []) (pc' := 11) (loc' := [some (.inr (.inr (24, 6, 0))), some (.inl a1), some (.inl a2), none]) (h' := h) 4 (fun _ _ => rfl) (eRp_isWithin (by omega) hx6) ?_
    refine q_br (P := x5 = 0) (pcT := 36) (pcF := 14) (loc' := [some (.inr (.inr (24, 6, 0))), some (.inl a1), some (.inl a2), none]) (stk' := []) (h' := h) 1 (fun _ _ => rfl) (fun c9 => ?_) (fun c9 => ?_)
    · rw [if_pos c9] at HF
      have hz := Option.some.inj HF
      subst hz
      exact hP4 (h) HK3
    · rw [if_neg c9] at HF
      obtain ⟨x7, hx8, HF⟩ := q_bind HF
      refine q_cll (m' := 45) (av := [.inr (.inr (24, 6, 0)), .inl (h.1 0 5 0 0)]) (st' := []) (pc' := 35) (loc' := [some (.inr (.inr (24, 6, 0))), some (.inl a1), some (.inl a2), some (.inl (h.1 0 5 0 0))]) (h' := (q_si h 0 5 0 0 a2)) 11 (fun _ _ => rfl) (eRp_answer (by omega) hx8) ?_
      have hz := Option.some.inj HF
      subst hz
      replace HF := HK3
      have hz := Option.some.inj HF
      subst hz
      exact q_rtn 1 (fun _ _ => rfl)
def Rp_asOpen (a1 : Int32) (h : q_H) : Option Int32 :=
  (Tn_has 0 a1 h).bind fun x1 => if ¬ x1 = 0 then ((Tn_stateOf 0 a1 h).bind fun x3 => if ¬ x3 = 0 then (some ((4 : Int32))) else (some ((0 : Int32)))) else (some ((2 : Int32)))
set_option maxRecDepth 100000 in
set_option maxHeartbeats 4000000 in
theorem eRp_asOpen {d : Nat} (hd : 2 ≤ d) {a1 : Int32} {h : q_H} {r : Int32} (HF : Rp_asOpen a1 h = some r) : q_T d 47 [.inr (.inr (24, 6, 0)), .inl a1] h (some (.inl r), h) := by
  obtain ⟨d, rfl⟩ : ∃ d', d = d' + 1 := ⟨d - 1, by omega⟩
  refine q_ent q_K47 rfl rfl rfl ?_
  unfold Rp_asOpen at HF
  obtain ⟨x1, hx2, HF⟩ := q_bind HF
  refine q_cll (m' := 105) (av := [.inr (.inr (6, 0, 0)), .inl a1]) (st' := []) (pc' := 11) (loc' := [some (.inr (.inr (24, 6, 0))), some (.inl a1)]) (h' := h) 5 (fun _ _ => rfl) (eTn_has (by omega) hx2) ?_
  refine q_br (P := ¬ x1 = 0) (pcT := 16) (pcF := 14) (loc' := [some (.inr (.inr (24, 6, 0))), some (.inl a1)]) (stk' := []) (h' := h) 1 (fun _ _ => rfl) (fun c6 => ?_) (fun c6 => ?_)
  · rw [if_pos c6] at HF
    obtain ⟨x3, hx4, HF⟩ := q_bind HF
    refine q_cll (m' := 106) (av := [.inr (.inr (6, 0, 0)), .inl a1]) (st' := []) (pc' := 27) (loc' := [some (.inr (.inr (24, 6, 0))), some (.inl a1)]) (h' := h) 5 (fun _ _ => rfl) (eTn_stateOf (by omega) hx4) ?_
    refine q_br (P := ¬ x3 = 0) (pcT := 34) (pcF := 30) (loc' := [some (.inr (.inr (24, 6, 0))), some (.inl a1)]) (stk' := []) (h' := h) 1 (fun _ _ => rfl) (fun c5 => ?_) (fun c5 => ?_)
    · rw [if_pos c5] at HF
      have hz := Option.some.inj HF
      subst hz
      exact q_rtn 2 (fun _ _ => rfl)
    · rw [if_neg c5] at HF
      have hz := Option.some.inj HF
      subst hz
      exact q_rtn 3 (fun _ _ => rfl)
  · rw [if_neg c6] at HF
    have hz := Option.some.inj HF
    subst hz
    exact q_rtn 2 (fun _ _ => rfl)
def Rp_isVersion (a1 : Int32) (a2 : Int32) (a3 : Int32) (h : q_H) : Option Int32 :=
  (Rp_isWithin a1 (0 : Int32) (99 : Int32) h).bind fun x1 => if x1 = 0 then (some ((0 : Int32))) else ((Rp_isWithin a2 (0 : Int32) (999 : Int32) h).bind fun x3 => if x3 = 0 then (some ((0 : Int32))) else ((Rp_isWithin a3 (1 : Int32) (20 : Int32) h).bind fun x5 => if x5 = 0 then (some ((0 : Int32))) else (some ((1 : Int32)))))
set_option maxRecDepth 100000 in
set_option maxHeartbeats 4000000 in
theorem eRp_isVersion {d : Nat} (hd : 2 ≤ d) {a1 : Int32} {a2 : Int32} {a3 : Int32} {h : q_H} {r : Int32} (HF : Rp_isVersion a1 a2 a3 h = some r) : q_T d 57 [.inl a1, .inl a2, .inl a3] h (some (.inl r), h) := by
  obtain ⟨d, rfl⟩ : ∃ d', d = d' + 1 := ⟨d - 1, by omega⟩
  refine q_ent q_K57 rfl rfl rfl ?_
  unfold Rp_isVersion at HF
  obtain ⟨x1, hx2, HF⟩ := q_bind HF
  refine q_cll (m' := 55) (av := [.inl a1, .inl (0 : Int32), .inl (99 : Int32)]) (st' := []) (pc' := 7) (loc' := [some (.inl a1), some (.inl a2), some (.inl a3)]) (h' := h) 4 (fun _ _ => rfl) (eRp_isWithin (by omega) hx2) ?_
  refine q_br (P := x1 = 0) (pcT := 35) (pcF := 10) (loc' := [some (.inl a1), some (.inl a2), some (.inl a3)]) (stk' := []) (h' := h) 1 (fun _ _ => rfl) (fun c9 => ?_) (fun c9 => ?_)
  · rw [if_pos c9] at HF
    have hz := Option.some.inj HF
    subst hz
    exact q_rtn 2 (fun _ _ => rfl)
  · rw [if_neg c9] at HF
    obtain ⟨x3, hx4, HF⟩ := q_bind HF
    refine q_cll (m' := 55) (av := [.inl a2, .inl (0 : Int32), .inl (999 : Int32)]) (st' := []) (pc' := 18) (loc' := [some (.inl a1), some (.inl a2), some (.inl a3)]) (h' := h) 4 (fun _ _ => rfl) (eRp_isWithin (by omega) hx4) ?_
    refine q_br (P := x3 = 0) (pcT := 35) (pcF := 21) (loc' := [some (.inl a1), some (.inl a2), some (.inl a3)]) (stk' := []) (h' := h) 1 (fun _ _ => rfl) (fun c8 => ?_) (fun c8 => ?_)
    · rw [if_pos c8] at HF
      have hz := Option.some.inj HF
      subst hz
      exact q_rtn 2 (fun _ _ => rfl)
    · rw [if_neg c8] at HF
      obtain ⟨x5, hx6, HF⟩ := q_bind HF
      refine q_cll (m' := 55) (av := [.inl a3, .inl (1 : Int32), .inl (20 : Int32)]) (st' := []) (pc' := 28) (loc' := [some (.inl a1), some (.inl a2), some (.inl a3)]) (h' := h) 4 (fun _ _ => rfl) (eRp_isWithin (by omega) hx6) ?_
      refine q_br (P := x5 = 0) (pcT := 35) (pcF := 31) (loc' := [some (.inl a1), some (.inl a2), some (.inl a3)]) (stk' := []) (h' := h) 1 (fun _ _ => rfl) (fun c7 => ?_) (fun c7 => ?_)
      · rw [if_pos c7] at HF
        have hz := Option.some.inj HF
        subst hz
        exact q_rtn 2 (fun _ _ => rfl)
      · rw [if_neg c7] at HF
        have hz := Option.some.inj HF
        subst hz
        exact q_rtn 3 (fun _ _ => rfl)
def Rp_copy (t1 : Nat) (k1 : Nat) (t2 : Nat) (k2 : Nat) (h : q_H) : Option q_H :=
  bif (!Nat.beq (q_at t1) 9) then (bif (!Nat.beq (q_at t2) 9) then (bif ((decide (0 ≤ (if (Int32.ofNat (q_al t2)) < (Int32.ofNat (q_al t1)) then (Int32.ofNat (q_al t2)) else (Int32.ofNat (q_al t1)))) && (Nat.ble (if (Int32.ofNat (q_al t2)) < (Int32.ofNat (q_al t1)) then (Int32.ofNat (q_al t2)) else (Int32.ofNat (q_al t1))).toNatClampNeg (q_al t1) && Nat.ble (if (Int32.ofNat (q_al t2)) < (Int32.ofNat (q_al t1)) then (Int32.ofNat (q_al t2)) else (Int32.ofNat (q_al t1))).toNatClampNeg (q_al t2))) && (Nat.beq (q_at t1) 0 && Nat.beq (q_at t2) 0)) then (some ((q_acp t1 k1 t2 k2 (if (Int32.ofNat (q_al t2)) < (Int32.ofNat (q_al t1)) then (Int32.ofNat (q_al t2)) else (Int32.ofNat (q_al t1))).toNatClampNeg h))) else none) else none) else none
set_option maxRecDepth 100000 in
set_option maxHeartbeats 4000000 in
theorem eRp_copy {d : Nat} (hd : 2 ≤ d) {t1 : Nat} {k1 : Nat} {t2 : Nat} {k2 : Nat} {h : q_H} {r : q_H} (HF : Rp_copy t1 k1 t2 k2 h = some r) : q_T d 62 [.inr (.inr (t1, k1, 0)), .inr (.inr (t2, k2, 0))] h (none, r) := by
  obtain ⟨d, rfl⟩ : ∃ d', d = d' + 1 := ⟨d - 1, by omega⟩
  refine q_ent q_K62 rfl rfl rfl ?_
  unfold Rp_copy at HF
  obtain ⟨g3, HF⟩ := q_gF HF
  refine q_gdn (pc' := 6) (loc' := [some (.inr (.inr (t1, k1, 0))), some (.inr (.inr (t2, k2, 0)))]) (stk' := [.inl (Int32.ofNat (q_al t1)), .inl (0 : Int32), .inr (.inr (t2, k2, 0)), .inl (0 : Int32), .inr (.inr (t1, k1, 0))]) (h' := h) 6 (fun _ _ => rfl) g3 ?_
  obtain ⟨g2, HF⟩ := q_gF HF
  refine q_gdn (pc' := 8) (loc' := [some (.inr (.inr (t1, k1, 0))), some (.inr (.inr (t2, k2, 0)))]) (stk' := [.inl (Int32.ofNat (q_al t2)), .inl (Int32.ofNat (q_al t1)), .inl (0 : Int32), .inr (.inr (t2, k2, 0)), .inl (0 : Int32), .inr (.inr (t1, k1, 0))]) (h' := h) 2 (fun _ _ => rfl) g2 ?_
  obtain ⟨g1, HF⟩ := q_gF HF
  rw [Bool.and_eq_true] at g1
  refine q_gd2 (pc' := 14) (loc' := [some (.inr (.inr (t1, k1, 0))), some (.inr (.inr (t2, k2, 0)))]) (stk' := []) (h' := (q_acp t1 k1 t2 k2 (if (Int32.ofNat (q_al t2)) < (Int32.ofNat (q_al t1)) then (Int32.ofNat (q_al t2)) else (Int32.ofNat (q_al t1))).toNatClampNeg h)) 2 (fun _ _ => by rfl) g1.1 g1.2 ?_
  have hz := Option.some.inj HF
  subst hz
  exact q_rtn 1 (fun _ _ => rfl)
def Sl_stamp (k : Nat) (i : Nat) (a1 : Int32) (h : q_H) : Option Int32 :=
  if a1 = 0 then (some ((h.1 3 2 k i))) else (if a1 = 1 then (some ((h.1 3 3 k i))) else (if a1 = 2 then (some ((h.1 3 4 k i))) else (if a1 = 3 then (some ((h.1 3 5 k i))) else (if a1 = 4 then (some ((h.1 3 6 k i))) else (if a1 = 5 then (some ((h.1 3 7 k i))) else (if a1 = 6 then ((Rp_pageOf (h.1 3 8 k i) h).bind fun x1 => some (x1)) else ((Rp_slotOf (h.1 3 8 k i) h).bind fun x3 => some (x3))))))))
set_option maxRecDepth 100000 in
set_option maxHeartbeats 4000000 in
theorem eSl_stamp {d : Nat} (hd : 2 ≤ d) {k : Nat} {i : Nat} {a1 : Int32} {h : q_H} {r : Int32} (HF : Sl_stamp k i a1 h = some r) : q_T d 66 [.inr (.inr (3, k, i)), .inl a1] h (some (.inl r), h) := by
  obtain ⟨d, rfl⟩ : ∃ d', d = d' + 1 := ⟨d - 1, by omega⟩
  refine q_ent q_K66 rfl rfl rfl ?_
  unfold Sl_stamp at HF
  by_cases c5 : a1 = 0
  · rw [if_pos c5] at HF
    refine q_sw (o1 := 43) (pcx := 1) (pc' := 44) (loc' := [some (.inr (.inr (3, k, i))), some (.inl a1)]) (stk' := []) (h' := h) 2 (fun _ _ => rfl) (q_tsI c5 rfl) rfl ?_
    have hz := Option.some.inj HF
    subst hz
    exact q_rtn 3 (fun _ _ => rfl)
  · rw [if_neg c5] at HF
    by_cases c6 : a1 = 1
    · rw [if_pos c6] at HF
      refine q_sw (o1 := 48) (pcx := 1) (pc' := 49) (loc' := [some (.inr (.inr (3, k, i))), some (.inl a1)]) (stk' := []) (h' := h) 2 (fun _ _ => rfl) (q_tsI c6 rfl) rfl ?_
      have hz := Option.some.inj HF
      subst hz
      exact q_rtn 3 (fun _ _ => rfl)
    · rw [if_neg c6] at HF
      by_cases c7 : a1 = 2
      · rw [if_pos c7] at HF
        refine q_sw (o1 := 53) (pcx := 1) (pc' := 54) (loc' := [some (.inr (.inr (3, k, i))), some (.inl a1)]) (stk' := []) (h' := h) 2 (fun _ _ => rfl) (q_tsI c7 rfl) rfl ?_
        have hz := Option.some.inj HF
        subst hz
        exact q_rtn 3 (fun _ _ => rfl)
      · rw [if_neg c7] at HF
        by_cases c8 : a1 = 3
        · rw [if_pos c8] at HF
          refine q_sw (o1 := 58) (pcx := 1) (pc' := 59) (loc' := [some (.inr (.inr (3, k, i))), some (.inl a1)]) (stk' := []) (h' := h) 2 (fun _ _ => rfl) (q_tsI c8 rfl) rfl ?_
          have hz := Option.some.inj HF
          subst hz
          exact q_rtn 3 (fun _ _ => rfl)
        · rw [if_neg c8] at HF
          by_cases c9 : a1 = 4
          · rw [if_pos c9] at HF
            refine q_sw (o1 := 63) (pcx := 1) (pc' := 64) (loc' := [some (.inr (.inr (3, k, i))), some (.inl a1)]) (stk' := []) (h' := h) 2 (fun _ _ => rfl) (q_tsI c9 rfl) rfl ?_
            have hz := Option.some.inj HF
            subst hz
            exact q_rtn 3 (fun _ _ => rfl)
          · rw [if_neg c9] at HF
            by_cases c10 : a1 = 5
            · rw [if_pos c10] at HF
              refine q_sw (o1 := 68) (pcx := 1) (pc' := 69) (loc' := [some (.inr (.inr (3, k, i))), some (.inl a1)]) (stk' := []) (h' := h) 2 (fun _ _ => rfl) (q_tsI c10 rfl) rfl ?_
              have hz := Option.some.inj HF
              subst hz
              exact q_rtn 3 (fun _ _ => rfl)
            · rw [if_neg c10] at HF
              by_cases c11 : a1 = 6
              · rw [if_pos c11] at HF
                refine q_sw (o1 := 73) (pcx := 1) (pc' := 74) (loc' := [some (.inr (.inr (3, k, i))), some (.inl a1)]) (stk' := []) (h' := h) 2 (fun _ _ => rfl) (q_tsI c11 rfl) rfl ?_
                obtain ⟨x1, hx2, HF⟩ := q_bind HF
                refine q_cll (m' := 58) (av := [.inl (h.1 3 8 k i)]) (st' := []) (pc' := 81) (loc' := [some (.inr (.inr (3, k, i))), some (.inl a1)]) (h' := h) 3 (fun _ _ => rfl) (eRp_pageOf (by omega) hx2) ?_
                have hz := Option.some.inj HF
                subst hz
                exact q_rtn 1 (fun _ _ => rfl)
              · rw [if_neg c11] at HF
                refine q_sw (o1 := 81) (pcx := 1) (pc' := 82) (loc' := [some (.inr (.inr (3, k, i))), some (.inl a1)]) (stk' := []) (h' := h) 2 (fun _ _ => rfl) (q_tsD (a := a1) (lo := 0) (hi := 6) (by have z0 := q_neI c5 (a := 0) rfl; have z1 := q_neI c6 (a := 1) rfl; have z2 := q_neI c7 (a := 2) rfl; have z3 := q_neI c8 (a := 3) rfl; have z4 := q_neI c9 (a := 4) rfl; have z5 := q_neI c10 (a := 5) rfl; have z6 := q_neI c11 (a := 6) rfl; omega)) rfl ?_
                obtain ⟨x3, hx4, HF⟩ := q_bind HF
                refine q_cll (m' := 59) (av := [.inl (h.1 3 8 k i)]) (st' := []) (pc' := 89) (loc' := [some (.inr (.inr (3, k, i))), some (.inl a1)]) (h' := h) 3 (fun _ _ => rfl) (eRp_slotOf (by omega) hx4) ?_
                have hz := Option.some.inj HF
                subst hz
                exact q_rtn 1 (fun _ _ => rfl)
def Fo_add (k : Nat) (a1 : Int32) (a2 : Int32) (a3 : Int32) (a4 : Int32) (h : q_H) : Option q_H :=
  (Rp_put 20 k (h.1 19 4 k 0) a1 h).bind fun x1 => (Rp_put 21 k (x1.1 19 4 k 0) a2 x1).bind fun x3 => (Rp_put 22 k (x3.1 19 4 k 0) a3 x3).bind fun x5 => (Rp_put 23 k (x5.1 19 4 k 0) a4 x5).bind fun x7 => some ((q_si x7 19 4 k 0 (if (60 : Int32) < ((x7.1 19 4 k 0) + (1 : Int32)) then (60 : Int32) else ((x7.1 19 4 k 0) + (1 : Int32)))))
set_option maxRecDepth 100000 in
set_option maxHeartbeats 4000000 in
theorem eFo_add {d : Nat} (hd : 2 ≤ d) {k : Nat} {a1 : Int32} {a2 : Int32} {a3 : Int32} {a4 : Int32} {h : q_H} {r : q_H} (HF : Fo_add k a1 a2 a3 a4 h = some r) : q_T d 68 [.inr (.inr (19, k, 0)), .inl a1, .inl a2, .inl a3, .inl a4] h (none, r) := by
  obtain ⟨d, rfl⟩ : ∃ d', d = d' + 1 := ⟨d - 1, by omega⟩
  refine q_ent q_K68 rfl rfl rfl ?_
  unfold Fo_add at HF
  obtain ⟨x1, hx2, HF⟩ := q_bind HF
  refine q_cll (m' := 61) (av := [.inr (.inr (20, k, 0)), .inl (h.1 19 4 k 0), .inl a1]) (st' := []) (pc' := 12) (loc' := [some (.inr (.inr (19, k, 0))), some (.inl a1), some (.inl a2), some (.inl a3), some (.inl a4)]) (h' := h) 6 (fun _ _ => rfl) (eRp_put (by omega) hx2) ?_
  obtain ⟨x3, hx4, HF⟩ := q_bind HF
  refine q_cll (m' := 61) (av := [.inr (.inr (21, k, 0)), .inl (x1.1 19 4 k 0), .inl a2]) (st' := []) (pc' := 24) (loc' := [some (.inr (.inr (19, k, 0))), some (.inl a1), some (.inl a2), some (.inl a3), some (.inl a4)]) (h' := x1) 6 (fun _ _ => rfl) (eRp_put (by omega) hx4) ?_
  obtain ⟨x5, hx6, HF⟩ := q_bind HF
  refine q_cll (m' := 61) (av := [.inr (.inr (22, k, 0)), .inl (x3.1 19 4 k 0), .inl a3]) (st' := []) (pc' := 36) (loc' := [some (.inr (.inr (19, k, 0))), some (.inl a1), some (.inl a2), some (.inl a3), some (.inl a4)]) (h' := x3) 6 (fun _ _ => rfl) (eRp_put (by omega) hx6) ?_
  obtain ⟨x7, hx8, HF⟩ := q_bind HF
  refine q_cll (m' := 61) (av := [.inr (.inr (23, k, 0)), .inl (x5.1 19 4 k 0), .inl a4]) (st' := []) (pc' := 49) (loc' := [some (.inr (.inr (19, k, 0))), some (.inl a1), some (.inl a2), some (.inl a3), some (.inl a4)]) (h' := x5) 6 (fun _ _ => rfl) (eRp_put (by omega) hx8) ?_
  have hz := Option.some.inj HF
  subst hz
  exact q_rtn 9 (fun _ _ => rfl)
def Fo_told (k : Nat) (a1 : Int32) (a2 : Int32) (h : q_H) : Option Int32 :=
  if a2 = 0 then ((Rp_pick 20 k a1 h).bind fun x1 => some (x1)) else (if a2 = 1 then ((Rp_pick 21 k a1 h).bind fun x3 => some (x3)) else (if a2 = 2 then ((Rp_pick 22 k a1 h).bind fun x5 => (Rp_pageOf x5 h).bind fun x7 => some (x7)) else (if a2 = 3 then ((Rp_pick 22 k a1 h).bind fun x9 => (Rp_slotOf x9 h).bind fun x11 => some (x11)) else ((Rp_pick 23 k a1 h).bind fun x13 => some (x13)))))
set_option maxRecDepth 100000 in
set_option maxHeartbeats 4000000 in
theorem eFo_told {d : Nat} (hd : 2 ≤ d) {k : Nat} {a1 : Int32} {a2 : Int32} {h : q_H} {r : Int32} (HF : Fo_told k a1 a2 h = some r) : q_T d 69 [.inr (.inr (19, k, 0)), .inl a1, .inl a2] h (some (.inl r), h) := by
  obtain ⟨d, rfl⟩ : ∃ d', d = d' + 1 := ⟨d - 1, by omega⟩
  refine q_ent q_K69 rfl rfl rfl ?_
  unfold Fo_told at HF
  by_cases c15 : a2 = 0
  · rw [if_pos c15] at HF
    refine q_sw (o1 := 31) (pcx := 1) (pc' := 32) (loc' := [some (.inr (.inr (19, k, 0))), some (.inl a1), some (.inl a2)]) (stk' := []) (h' := h) 2 (fun _ _ => rfl) (q_tsI c15 rfl) rfl ?_
    obtain ⟨x1, hx2, HF⟩ := q_bind HF
    refine q_cll (m' := 60) (av := [.inr (.inr (20, k, 0)), .inl a1]) (st' := []) (pc' := 40) (loc' := [some (.inr (.inr (19, k, 0))), some (.inl a1), some (.inl a2)]) (h' := h) 4 (fun _ _ => rfl) (eRp_pick (by omega) hx2) ?_
    have hz := Option.some.inj HF
    subst hz
    exact q_rtn 1 (fun _ _ => rfl)
  · rw [if_neg c15] at HF
    by_cases c16 : a2 = 1
    · rw [if_pos c16] at HF
      refine q_sw (o1 := 40) (pcx := 1) (pc' := 41) (loc' := [some (.inr (.inr (19, k, 0))), some (.inl a1), some (.inl a2)]) (stk' := []) (h' := h) 2 (fun _ _ => rfl) (q_tsI c16 rfl) rfl ?_
      obtain ⟨x3, hx4, HF⟩ := q_bind HF
      refine q_cll (m' := 60) (av := [.inr (.inr (21, k, 0)), .inl a1]) (st' := []) (pc' := 49) (loc' := [some (.inr (.inr (19, k, 0))), some (.inl a1), some (.inl a2)]) (h' := h) 4 (fun _ _ => rfl) (eRp_pick (by omega) hx4) ?_
      have hz := Option.some.inj HF
      subst hz
      exact q_rtn 1 (fun _ _ => rfl)
    · rw [if_neg c16] at HF
      by_cases c17 : a2 = 2
      · rw [if_pos c17] at HF
        refine q_sw (o1 := 49) (pcx := 1) (pc' := 50) (loc' := [some (.inr (.inr (19, k, 0))), some (.inl a1), some (.inl a2)]) (stk' := []) (h' := h) 2 (fun _ _ => rfl) (q_tsI c17 rfl) rfl ?_
        obtain ⟨x5, hx6, HF⟩ := q_bind HF
        refine q_cll (m' := 60) (av := [.inr (.inr (22, k, 0)), .inl a1]) (st' := []) (pc' := 58) (loc' := [some (.inr (.inr (19, k, 0))), some (.inl a1), some (.inl a2)]) (h' := h) 4 (fun _ _ => rfl) (eRp_pick (by omega) hx6) ?_
        obtain ⟨x7, hx8, HF⟩ := q_bind HF
        refine q_cll (m' := 58) (av := [.inl x5]) (st' := []) (pc' := 61) (loc' := [some (.inr (.inr (19, k, 0))), some (.inl a1), some (.inl a2)]) (h' := h) 1 (fun _ _ => rfl) (eRp_pageOf (by omega) hx8) ?_
        have hz := Option.some.inj HF
        subst hz
        exact q_rtn 1 (fun _ _ => rfl)
      · rw [if_neg c17] at HF
        by_cases c18 : a2 = 3
        · rw [if_pos c18] at HF
          refine q_sw (o1 := 61) (pcx := 1) (pc' := 62) (loc' := [some (.inr (.inr (19, k, 0))), some (.inl a1), some (.inl a2)]) (stk' := []) (h' := h) 2 (fun _ _ => rfl) (q_tsI c18 rfl) rfl ?_
          obtain ⟨x9, hx10, HF⟩ := q_bind HF
          refine q_cll (m' := 60) (av := [.inr (.inr (22, k, 0)), .inl a1]) (st' := []) (pc' := 70) (loc' := [some (.inr (.inr (19, k, 0))), some (.inl a1), some (.inl a2)]) (h' := h) 4 (fun _ _ => rfl) (eRp_pick (by omega) hx10) ?_
          obtain ⟨x11, hx12, HF⟩ := q_bind HF
          refine q_cll (m' := 59) (av := [.inl x9]) (st' := []) (pc' := 73) (loc' := [some (.inr (.inr (19, k, 0))), some (.inl a1), some (.inl a2)]) (h' := h) 1 (fun _ _ => rfl) (eRp_slotOf (by omega) hx12) ?_
          have hz := Option.some.inj HF
          subst hz
          exact q_rtn 1 (fun _ _ => rfl)
        · rw [if_neg c18] at HF
          refine q_sw (o1 := 73) (pcx := 1) (pc' := 74) (loc' := [some (.inr (.inr (19, k, 0))), some (.inl a1), some (.inl a2)]) (stk' := []) (h' := h) 2 (fun _ _ => rfl) (q_tsD (a := a2) (lo := 0) (hi := 3) (by have z0 := q_neI c15 (a := 0) rfl; have z1 := q_neI c16 (a := 1) rfl; have z2 := q_neI c17 (a := 2) rfl; have z3 := q_neI c18 (a := 3) rfl; omega)) rfl ?_
          obtain ⟨x13, hx14, HF⟩ := q_bind HF
          refine q_cll (m' := 60) (av := [.inr (.inr (23, k, 0)), .inl a1]) (st' := []) (pc' := 82) (loc' := [some (.inr (.inr (19, k, 0))), some (.inl a1), some (.inl a2)]) (h' := h) 4 (fun _ _ => rfl) (eRp_pick (by omega) hx14) ?_
          have hz := Option.some.inj HF
          subst hz
          exact q_rtn 1 (fun _ _ => rfl)
def Ix_keyAt (k : Nat) (a1 : Int32) (h : q_H) : Option Int32 :=
  (Rp_pick 12 k a1 h).bind fun x1 => some (x1)
set_option maxRecDepth 100000 in
set_option maxHeartbeats 4000000 in
theorem eIx_keyAt {d : Nat} (hd : 2 ≤ d) {k : Nat} {a1 : Int32} {h : q_H} {r : Int32} (HF : Ix_keyAt k a1 h = some r) : q_T d 71 [.inr (.inr (11, k, 0)), .inl a1] h (some (.inl r), h) := by
  obtain ⟨d, rfl⟩ : ∃ d', d = d' + 1 := ⟨d - 1, by omega⟩
  refine q_ent q_K71 rfl rfl rfl ?_
  unfold Ix_keyAt at HF
  obtain ⟨x1, hx2, HF⟩ := q_bind HF
  refine q_cll (m' := 60) (av := [.inr (.inr (12, k, 0)), .inl a1]) (st' := []) (pc' := 8) (loc' := [some (.inr (.inr (11, k, 0))), some (.inl a1)]) (h' := h) 4 (fun _ _ => rfl) (eRp_pick (by omega) hx2) ?_
  have hz := Option.some.inj HF
  subst hz
  exact q_rtn 1 (fun _ _ => rfl)
def Ix_placeAt (k : Nat) (a1 : Int32) (h : q_H) : Option Int32 :=
  (Rp_pick 13 k a1 h).bind fun x1 => some (x1)
set_option maxRecDepth 100000 in
set_option maxHeartbeats 4000000 in
theorem eIx_placeAt {d : Nat} (hd : 2 ≤ d) {k : Nat} {a1 : Int32} {h : q_H} {r : Int32} (HF : Ix_placeAt k a1 h = some r) : q_T d 72 [.inr (.inr (11, k, 0)), .inl a1] h (some (.inl r), h) := by
  obtain ⟨d, rfl⟩ : ∃ d', d = d' + 1 := ⟨d - 1, by omega⟩
  refine q_ent q_K72 rfl rfl rfl ?_
  unfold Ix_placeAt at HF
  obtain ⟨x1, hx2, HF⟩ := q_bind HF
  refine q_cll (m' := 60) (av := [.inr (.inr (13, k, 0)), .inl a1]) (st' := []) (pc' := 8) (loc' := [some (.inr (.inr (11, k, 0))), some (.inl a1)]) (h' := h) 4 (fun _ _ => rfl) (eRp_pick (by omega) hx2) ?_
  have hz := Option.some.inj HF
  subst hz
  exact q_rtn 1 (fun _ _ => rfl)
def Ix_isKilled (k : Nat) (a1 : Int32) (h : q_H) : Option Int32 :=
  (Rp_pick 14 k a1 h).bind fun x1 => if ¬ x1 = (1 : Int32) then (some ((0 : Int32))) else (some ((1 : Int32)))
set_option maxRecDepth 100000 in
set_option maxHeartbeats 4000000 in
theorem eIx_isKilled {d : Nat} (hd : 2 ≤ d) {k : Nat} {a1 : Int32} {h : q_H} {r : Int32} (HF : Ix_isKilled k a1 h = some r) : q_T d 73 [.inr (.inr (11, k, 0)), .inl a1] h (some (.inl r), h) := by
  obtain ⟨d, rfl⟩ : ∃ d', d = d' + 1 := ⟨d - 1, by omega⟩
  refine q_ent q_K73 rfl rfl rfl ?_
  unfold Ix_isKilled at HF
  obtain ⟨x1, hx2, HF⟩ := q_bind HF
  refine q_cll (m' := 60) (av := [.inr (.inr (14, k, 0)), .inl a1]) (st' := []) (pc' := 8) (loc' := [some (.inr (.inr (11, k, 0))), some (.inl a1)]) (h' := h) 4 (fun _ _ => rfl) (eRp_pick (by omega) hx2) ?_
  refine q_br (P := ¬ x1 = (1 : Int32)) (pcT := 16) (pcF := 12) (loc' := [some (.inr (.inr (11, k, 0))), some (.inl a1)]) (stk' := []) (h' := h) 2 (fun _ _ => rfl) (fun c3 => ?_) (fun c3 => ?_)
  · rw [if_pos c3] at HF
    have hz := Option.some.inj HF
    subst hz
    exact q_rtn 2 (fun _ _ => rfl)
  · rw [if_neg c3] at HF
    have hz := Option.some.inj HF
    subst hz
    exact q_rtn 3 (fun _ _ => rfl)
def Ix_kill (k : Nat) (a1 : Int32) (h : q_H) : Option q_H :=
  (Rp_put 14 k a1 (1 : Int32) h).bind fun x1 => some (x1)
set_option maxRecDepth 100000 in
set_option maxHeartbeats 4000000 in
theorem eIx_kill {d : Nat} (hd : 2 ≤ d) {k : Nat} {a1 : Int32} {h : q_H} {r : q_H} (HF : Ix_kill k a1 h = some r) : q_T d 74 [.inr (.inr (11, k, 0)), .inl a1] h (none, r) := by
  obtain ⟨d, rfl⟩ : ∃ d', d = d' + 1 := ⟨d - 1, by omega⟩
  refine q_ent q_K74 rfl rfl rfl ?_
  unfold Ix_kill at HF
  obtain ⟨x1, hx2, HF⟩ := q_bind HF
  refine q_cll (m' := 61) (av := [.inr (.inr (14, k, 0)), .inl a1, .inl (1 : Int32)]) (st' := []) (pc' := 9) (loc' := [some (.inr (.inr (11, k, 0))), some (.inl a1)]) (h' := h) 5 (fun _ _ => rfl) (eRp_put (by omega) hx2) ?_
  have hz := Option.some.inj HF
  subst hz
  exact q_rtn 1 (fun _ _ => rfl)
def Ix_move (k : Nat) (a1 : Int32) (a2 : Int32) (h : q_H) : Option q_H :=
  (Rp_pick 12 k a1 h).bind fun x1 => (Rp_put 12 k a2 x1 h).bind fun x3 => (Rp_pick 13 k a1 x3).bind fun x5 => (Rp_put 13 k a2 x5 x3).bind fun x7 => (Rp_pick 14 k a1 x7).bind fun x9 => (Rp_put 14 k a2 x9 x7).bind fun x11 => some (x11)
set_option maxRecDepth 100000 in
set_option maxHeartbeats 4000000 in
theorem eIx_move {d : Nat} (hd : 2 ≤ d) {k : Nat} {a1 : Int32} {a2 : Int32} {h : q_H} {r : q_H} (HF : Ix_move k a1 a2 h = some r) : q_T d 75 [.inr (.inr (11, k, 0)), .inl a1, .inl a2] h (none, r) := by
  obtain ⟨d, rfl⟩ : ∃ d', d = d' + 1 := ⟨d - 1, by omega⟩
  refine q_ent q_K75 rfl rfl rfl ?_
  unfold Ix_move at HF
  obtain ⟨x1, hx2, HF⟩ := q_bind HF
  refine q_cll (m' := 60) (av := [.inr (.inr (12, k, 0)), .inl a1]) (st' := [.inl a2, .inr (.inr (12, k, 0))]) (pc' := 13) (loc' := [some (.inr (.inr (11, k, 0))), some (.inl a1), some (.inl a2)]) (h' := h) 7 (fun _ _ => rfl) (eRp_pick (by omega) hx2) ?_
  obtain ⟨x3, hx4, HF⟩ := q_bind HF
  refine q_cll (m' := 61) (av := [.inr (.inr (12, k, 0)), .inl a2, .inl x1]) (st' := []) (pc' := 16) (loc' := [some (.inr (.inr (11, k, 0))), some (.inl a1), some (.inl a2)]) (h' := h) 1 (fun _ _ => rfl) (eRp_put (by omega) hx4) ?_
  obtain ⟨x5, hx6, HF⟩ := q_bind HF
  refine q_cll (m' := 60) (av := [.inr (.inr (13, k, 0)), .inl a1]) (st' := [.inl a2, .inr (.inr (13, k, 0))]) (pc' := 29) (loc' := [some (.inr (.inr (11, k, 0))), some (.inl a1), some (.inl a2)]) (h' := x3) 7 (fun _ _ => rfl) (eRp_pick (by omega) hx6) ?_
  obtain ⟨x7, hx8, HF⟩ := q_bind HF
  refine q_cll (m' := 61) (av := [.inr (.inr (13, k, 0)), .inl a2, .inl x5]) (st' := []) (pc' := 32) (loc' := [some (.inr (.inr (11, k, 0))), some (.inl a1), some (.inl a2)]) (h' := x3) 1 (fun _ _ => rfl) (eRp_put (by omega) hx8) ?_
  obtain ⟨x9, hx10, HF⟩ := q_bind HF
  refine q_cll (m' := 60) (av := [.inr (.inr (14, k, 0)), .inl a1]) (st' := [.inl a2, .inr (.inr (14, k, 0))]) (pc' := 45) (loc' := [some (.inr (.inr (11, k, 0))), some (.inl a1), some (.inl a2)]) (h' := x7) 7 (fun _ _ => rfl) (eRp_pick (by omega) hx10) ?_
  obtain ⟨x11, hx12, HF⟩ := q_bind HF
  refine q_cll (m' := 61) (av := [.inr (.inr (14, k, 0)), .inl a2, .inl x9]) (st' := []) (pc' := 48) (loc' := [some (.inr (.inr (11, k, 0))), some (.inl a1), some (.inl a2)]) (h' := x7) 1 (fun _ _ => rfl) (eRp_put (by omega) hx12) ?_
  have hz := Option.some.inj HF
  subst hz
  exact q_rtn 1 (fun _ _ => rfl)
def Ix_isBehind (k : Nat) (a1 : Int32) (a2 : Int32) (a3 : Int32) (h : q_H) : Option Int32 :=
  (Rp_pick 12 k a1 h).bind fun x1 => if a2 < x1 then (some ((1 : Int32))) else (if ¬ x1 = a2 then (some ((0 : Int32))) else ((Rp_pick 13 k a1 h).bind fun x3 => if x3 ≤ a3 then (some ((0 : Int32))) else (some ((1 : Int32)))))
set_option maxRecDepth 100000 in
set_option maxHeartbeats 4000000 in
theorem eIx_isBehind {d : Nat} (hd : 2 ≤ d) {k : Nat} {a1 : Int32} {a2 : Int32} {a3 : Int32} {h : q_H} {r : Int32} (HF : Ix_isBehind k a1 a2 a3 h = some r) : q_T d 76 [.inr (.inr (11, k, 0)), .inl a1, .inl a2, .inl a3] h (some (.inl r), h) := by
  obtain ⟨d, rfl⟩ : ∃ d', d = d' + 1 := ⟨d - 1, by omega⟩
  refine q_ent q_K76 rfl rfl rfl ?_
  unfold Ix_isBehind at HF
  obtain ⟨x1, hx2, HF⟩ := q_bind HF
  refine q_cll (m' := 60) (av := [.inr (.inr (12, k, 0)), .inl a1]) (st' := []) (pc' := 8) (loc' := [some (.inr (.inr (11, k, 0))), some (.inl a1), some (.inl a2), some (.inl a3), none]) (h' := h) 4 (fun _ _ => rfl) (eRp_pick (by omega) hx2) ?_
  refine q_br (P := a2 < x1) (pcT := 34) (pcF := 16) (loc' := [some (.inr (.inr (11, k, 0))), some (.inl a1), some (.inl a2), some (.inl a3), some (.inl x1)]) (stk' := []) (h' := h) 4 (fun _ _ => rfl) (fun c7 => ?_) (fun c7 => ?_)
  · rw [if_pos c7] at HF
    have hz := Option.some.inj HF
    subst hz
    exact q_rtn 3 (fun _ _ => rfl)
  · rw [if_neg c7] at HF
    refine q_br (P := ¬ x1 = a2) (pcT := 38) (pcF := 22) (loc' := [some (.inr (.inr (11, k, 0))), some (.inl a1), some (.inl a2), some (.inl a3), some (.inl x1)]) (stk' := []) (h' := h) 3 (fun _ _ => rfl) (fun c6 => ?_) (fun c6 => ?_)
    · rw [if_pos c6] at HF
      have hz := Option.some.inj HF
      subst hz
      exact q_rtn 2 (fun _ _ => rfl)
    · rw [if_neg c6] at HF
      obtain ⟨x3, hx4, HF⟩ := q_bind HF
      refine q_cll (m' := 60) (av := [.inr (.inr (13, k, 0)), .inl a1]) (st' := []) (pc' := 30) (loc' := [some (.inr (.inr (11, k, 0))), some (.inl a1), some (.inl a2), some (.inl a3), some (.inl x1)]) (h' := h) 4 (fun _ _ => rfl) (eRp_pick (by omega) hx4) ?_
      refine q_br (P := x3 ≤ a3) (pcT := 38) (pcF := 34) (loc' := [some (.inr (.inr (11, k, 0))), some (.inl a1), some (.inl a2), some (.inl a3), some (.inl x1)]) (stk' := []) (h' := h) 2 (fun _ _ => rfl) (fun c5 => ?_) (fun c5 => ?_)
      · rw [if_pos c5] at HF
        have hz := Option.some.inj HF
        subst hz
        exact q_rtn 2 (fun _ _ => rfl)
      · rw [if_neg c5] at HF
        have hz := Option.some.inj HF
        subst hz
        exact q_rtn 3 (fun _ _ => rfl)
def Lg_tell (k : Nat) (a1 : Int32) (a2 : Int32) (h : q_H) : Option q_H :=
  (q_lp (fun s1 : Int32 × q_H => (if s1.1 ≤ 0 then ((Rp_put 16 k (0 : Int32) a1 s1.2).bind fun x9 => (Rp_put 17 k (0 : Int32) a2 x9).bind fun x11 => some (.inr ((q_si x11 15 3 k 0 (if (24 : Int32) < ((x11.1 15 3 k 0) + (1 : Int32)) then (24 : Int32) else ((x11.1 15 3 k 0) + (1 : Int32))))))) else ((Rp_pick 16 k (s1.1 - (1 : Int32)) s1.2).bind fun x13 => (Rp_put 16 k s1.1 x13 s1.2).bind fun x15 => (Rp_pick 17 k (s1.1 - (1 : Int32)) x15).bind fun x17 => (Rp_put 17 k s1.1 x17 x15).bind fun x19 => some (.inl ((s1.1 + (-1 : Int32)), x19))) : Option ((Int32 × q_H) ⊕ q_H))) q_fu (((23 : Int32), h) : Int32 × q_H)).bind fun z8 => some z8
set_option maxRecDepth 100000 in
set_option maxHeartbeats 4000000 in
theorem eLg_tell {d : Nat} (hd : 2 ≤ d) {k : Nat} {a1 : Int32} {a2 : Int32} {h : q_H} {r : q_H} (HF : Lg_tell k a1 a2 h = some r) : q_T d 82 [.inr (.inr (15, k, 0)), .inl a1, .inl a2] h (none, r) := by
  obtain ⟨d, rfl⟩ : ∃ d', d = d' + 1 := ⟨d - 1, by omega⟩
  refine q_ent q_K82 rfl rfl rfl ?_
  unfold Lg_tell at HF
  refine q_blk (pc' := 3) (loc' := [some (.inr (.inr (15, k, 0))), some (.inl a1), some (.inl a2), some (.inl (23 : Int32))]) (stk' := []) (h' := h) 2 (fun _ _ => rfl) ?_
  obtain ⟨r6, hl7, HK4⟩ := q_bind HF
  refine q_lpE (E := fun s1 => q_E d q_K82 3 [some (.inr (.inr (15, k, 0))), some (.inl a1), some (.inl a2), some (.inl s1.1)] [] s1.2 (none, r)) r6 (fun s1 z8 HF H12 H23 => ?_) _ _ hl7
  refine q_br (P := s1.1 ≤ 0) (pcT := 49) (pcF := 7) (loc' := [some (.inr (.inr (15, k, 0))), some (.inl a1), some (.inl a2), some (.inl s1.1)]) (stk' := []) (h' := s1.2) 2 (fun _ _ => rfl) (fun c21 => ?_) (fun c21 => ?_)
  · rw [if_pos c21] at HF
    obtain ⟨x9, hx10, HF⟩ := q_bind HF
    refine q_cll (m' := 61) (av := [.inr (.inr (16, k, 0)), .inl (0 : Int32), .inl a1]) (st' := []) (pc' := 58) (loc' := [some (.inr (.inr (15, k, 0))), some (.inl a1), some (.inl a2), some (.inl s1.1)]) (h' := s1.2) 5 (fun _ _ => rfl) (eRp_put (by omega) hx10) ?_
    obtain ⟨x11, hx12, HF⟩ := q_bind HF
    refine q_cll (m' := 61) (av := [.inr (.inr (17, k, 0)), .inl (0 : Int32), .inl a2]) (st' := []) (pc' := 67) (loc' := [some (.inr (.inr (15, k, 0))), some (.inl a1), some (.inl a2), some (.inl s1.1)]) (h' := x9) 5 (fun _ _ => rfl) (eRp_put (by omega) hx12) ?_
    have hz := Option.some.inj HF
    subst hz
    replace HF := HK4
    rw [← H23 _ rfl] at HF
    have hz := Option.some.inj HF
    subst hz
    exact q_rtn 9 (fun _ _ => rfl)
  · rw [if_neg c21] at HF
    obtain ⟨x13, hx14, HF⟩ := q_bind HF
    refine q_cll (m' := 60) (av := [.inr (.inr (16, k, 0)), .inl (s1.1 - (1 : Int32))]) (st' := [.inl s1.1, .inr (.inr (16, k, 0))]) (pc' := 22) (loc' := [some (.inr (.inr (15, k, 0))), some (.inl a1), some (.inl a2), some (.inl s1.1)]) (h' := s1.2) 9 (fun _ _ => rfl) (eRp_pick (by omega) hx14) ?_
    obtain ⟨x15, hx16, HF⟩ := q_bind HF
    refine q_cll (m' := 61) (av := [.inr (.inr (16, k, 0)), .inl s1.1, .inl x13]) (st' := []) (pc' := 25) (loc' := [some (.inr (.inr (15, k, 0))), some (.inl a1), some (.inl a2), some (.inl s1.1)]) (h' := s1.2) 1 (fun _ _ => rfl) (eRp_put (by omega) hx16) ?_
    obtain ⟨x17, hx18, HF⟩ := q_bind HF
    refine q_cll (m' := 60) (av := [.inr (.inr (17, k, 0)), .inl (s1.1 - (1 : Int32))]) (st' := [.inl s1.1, .inr (.inr (17, k, 0))]) (pc' := 40) (loc' := [some (.inr (.inr (15, k, 0))), some (.inl a1), some (.inl a2), some (.inl s1.1)]) (h' := x15) 9 (fun _ _ => rfl) (eRp_pick (by omega) hx18) ?_
    obtain ⟨x19, hx20, HF⟩ := q_bind HF
    refine q_cll (m' := 61) (av := [.inr (.inr (17, k, 0)), .inl s1.1, .inl x17]) (st' := []) (pc' := 43) (loc' := [some (.inr (.inr (15, k, 0))), some (.inl a1), some (.inl a2), some (.inl s1.1)]) (h' := x15) 1 (fun _ _ => rfl) (eRp_put (by omega) hx20) ?_
    refine q_blk (pc' := 3) (loc' := [some (.inr (.inr (15, k, 0))), some (.inl a1), some (.inl a2), some (.inl (s1.1 + (-1 : Int32)))]) (stk' := []) (h' := x19) 2 (fun _ _ => rfl) ?_
    have hz := Option.some.inj HF
    subst hz
    exact H12 ((s1.1 + (-1 : Int32)), x19) rfl
def Lg_kindAt (k : Nat) (a1 : Int32) (h : q_H) : Option Int32 :=
  (Rp_pick 16 k a1 h).bind fun x1 => some (x1)
set_option maxRecDepth 100000 in
set_option maxHeartbeats 4000000 in
theorem eLg_kindAt {d : Nat} (hd : 2 ≤ d) {k : Nat} {a1 : Int32} {h : q_H} {r : Int32} (HF : Lg_kindAt k a1 h = some r) : q_T d 83 [.inr (.inr (15, k, 0)), .inl a1] h (some (.inl r), h) := by
  obtain ⟨d, rfl⟩ : ∃ d', d = d' + 1 := ⟨d - 1, by omega⟩
  refine q_ent q_K83 rfl rfl rfl ?_
  unfold Lg_kindAt at HF
  obtain ⟨x1, hx2, HF⟩ := q_bind HF
  refine q_cll (m' := 60) (av := [.inr (.inr (16, k, 0)), .inl a1]) (st' := []) (pc' := 8) (loc' := [some (.inr (.inr (15, k, 0))), some (.inl a1)]) (h' := h) 4 (fun _ _ => rfl) (eRp_pick (by omega) hx2) ?_
  have hz := Option.some.inj HF
  subst hz
  exact q_rtn 1 (fun _ _ => rfl)
def Lg_numberAt (k : Nat) (a1 : Int32) (h : q_H) : Option Int32 :=
  (Rp_pick 17 k a1 h).bind fun x1 => some (x1)
set_option maxRecDepth 100000 in
set_option maxHeartbeats 4000000 in
theorem eLg_numberAt {d : Nat} (hd : 2 ≤ d) {k : Nat} {a1 : Int32} {h : q_H} {r : Int32} (HF : Lg_numberAt k a1 h = some r) : q_T d 84 [.inr (.inr (15, k, 0)), .inl a1] h (some (.inl r), h) := by
  obtain ⟨d, rfl⟩ : ∃ d', d = d' + 1 := ⟨d - 1, by omega⟩
  refine q_ent q_K84 rfl rfl rfl ?_
  unfold Lg_numberAt at HF
  obtain ⟨x1, hx2, HF⟩ := q_bind HF
  refine q_cll (m' := 60) (av := [.inr (.inr (17, k, 0)), .inl a1]) (st' := []) (pc' := 8) (loc' := [some (.inr (.inr (15, k, 0))), some (.inl a1)]) (h' := h) 4 (fun _ _ => rfl) (eRp_pick (by omega) hx2) ?_
  have hz := Option.some.inj HF
  subst hz
  exact q_rtn 1 (fun _ _ => rfl)
def Lg_count (k : Nat) (a1 : Int32) (a2 : Int32) (h : q_H) : Option q_H :=
  (Rp_pick 18 k a1 h).bind fun x1 => (Rp_put 18 k a1 (x1 + a2) h).bind fun x3 => some (x3)
set_option maxRecDepth 100000 in
set_option maxHeartbeats 4000000 in
theorem eLg_count {d : Nat} (hd : 2 ≤ d) {k : Nat} {a1 : Int32} {a2 : Int32} {h : q_H} {r : q_H} (HF : Lg_count k a1 a2 h = some r) : q_T d 85 [.inr (.inr (15, k, 0)), .inl a1, .inl a2] h (none, r) := by
  obtain ⟨d, rfl⟩ : ∃ d', d = d' + 1 := ⟨d - 1, by omega⟩
  refine q_ent q_K85 rfl rfl rfl ?_
  unfold Lg_count at HF
  obtain ⟨x1, hx2, HF⟩ := q_bind HF
  refine q_cll (m' := 60) (av := [.inr (.inr (18, k, 0)), .inl a1]) (st' := [.inl a1, .inr (.inr (18, k, 0))]) (pc' := 13) (loc' := [some (.inr (.inr (15, k, 0))), some (.inl a1), some (.inl a2)]) (h' := h) 7 (fun _ _ => rfl) (eRp_pick (by omega) hx2) ?_
  obtain ⟨x3, hx4, HF⟩ := q_bind HF
  refine q_cll (m' := 61) (av := [.inr (.inr (18, k, 0)), .inl a1, .inl (x1 + a2)]) (st' := []) (pc' := 18) (loc' := [some (.inr (.inr (15, k, 0))), some (.inl a1), some (.inl a2)]) (h' := h) 3 (fun _ _ => rfl) (eRp_put (by omega) hx4) ?_
  have hz := Option.some.inj HF
  subst hz
  exact q_rtn 1 (fun _ _ => rfl)
def Lg_countOf (k : Nat) (a1 : Int32) (h : q_H) : Option Int32 :=
  (Rp_pick 18 k a1 h).bind fun x1 => some (x1)
set_option maxRecDepth 100000 in
set_option maxHeartbeats 4000000 in
theorem eLg_countOf {d : Nat} (hd : 2 ≤ d) {k : Nat} {a1 : Int32} {h : q_H} {r : Int32} (HF : Lg_countOf k a1 h = some r) : q_T d 86 [.inr (.inr (15, k, 0)), .inl a1] h (some (.inl r), h) := by
  obtain ⟨d, rfl⟩ : ∃ d', d = d' + 1 := ⟨d - 1, by omega⟩
  refine q_ent q_K86 rfl rfl rfl ?_
  unfold Lg_countOf at HF
  obtain ⟨x1, hx2, HF⟩ := q_bind HF
  refine q_cll (m' := 60) (av := [.inr (.inr (18, k, 0)), .inl a1]) (st' := []) (pc' := 8) (loc' := [some (.inr (.inr (15, k, 0))), some (.inl a1)]) (h' := h) 4 (fun _ _ => rfl) (eRp_pick (by omega) hx2) ?_
  have hz := Option.some.inj HF
  subst hz
  exact q_rtn 1 (fun _ _ => rfl)
def Pg_strip (k : Nat) (h : q_H) : Option q_H :=
  (q_lp (fun s1 : Int32 × q_H => (if (60 : Int32) ≤ s1.1 then (some (.inr (s1.2))) else ((Pg_at k s1.1 s1.2).bind fun x9 => (Sl_empty k x9 (0 : Int32) s1.2).bind fun x11 => some (.inl ((s1.1 + (1 : Int32)), x11))) : Option ((Int32 × q_H) ⊕ (q_H)))) q_fu (((0 : Int32), h) : Int32 × q_H)).bind fun p14 => (q_lp (fun s15 : Int32 × q_H => (if (6 : Int32) ≤ s15.1 then (some (.inr (s15.2))) else ((Rp_put 4 k s15.1 (0 : Int32) s15.2).bind fun x23 => (Rp_put 5 k s15.1 (0 : Int32) x23).bind fun x25 => some (.inl ((s15.1 + (1 : Int32)), x25))) : Option ((Int32 × q_H) ⊕ q_H))) q_fu (((0 : Int32), p14) : Int32 × q_H)).bind fun z22 => some z22
set_option maxRecDepth 100000 in
set_option maxHeartbeats 4000000 in
theorem ePg_strip {d : Nat} (hd : 2 ≤ d) {k : Nat} {h : q_H} {r : q_H} (HF : Pg_strip k h = some r) : q_T d 88 [.inr (.inr (1, k, 0))] h (none, r) := by
  obtain ⟨d, rfl⟩ : ∃ d', d = d' + 1 := ⟨d - 1, by omega⟩
  refine q_ent q_K88 rfl rfl rfl ?_
  unfold Pg_strip at HF
  refine q_blk (pc' := 2) (loc' := [some (.inr (.inr (1, k, 0))), some (.inl (0 : Int32))]) (stk' := []) (h' := h) 2 (fun _ _ => rfl) ?_
  obtain ⟨r6, hl7, HK4⟩ := q_bind HF
  have hP5 : ∀ p14 : q_H, ((q_lp (fun s15 : Int32 × q_H => (if (6 : Int32) ≤ s15.1 then (some (.inr (s15.2))) else ((Rp_put 4 k s15.1 (0 : Int32) s15.2).bind fun x23 => (Rp_put 5 k s15.1 (0 : Int32) x23).bind fun x25 => some (.inl ((s15.1 + (1 : Int32)), x25))) : Option ((Int32 × q_H) ⊕ q_H))) q_fu (((0 : Int32), p14) : Int32 × q_H)).bind fun z22 => some z22 : Option q_H) = some r → q_E d q_K88 23 [some (.inr (.inr (1, k, 0))), none] [] p14 (none, r) := by
    intro p14 HF
    refine q_blk (pc' := 25) (loc' := [some (.inr (.inr (1, k, 0))), some (.inl (0 : Int32))]) (stk' := []) (h' := p14) 2 (fun _ _ => rfl) ?_
    obtain ⟨r20, hl21, HK18⟩ := q_bind HF
    refine q_lpE (E := fun s15 => q_E d q_K88 25 [some (.inr (.inr (1, k, 0))), some (.inl s15.1)] [] s15.2 (none, r)) r20 (fun s15 z22 HF H116 H217 => ?_) _ _ hl21
    refine q_br (P := (6 : Int32) ≤ s15.1) (pcT := 55) (pcF := 31) (loc' := [some (.inr (.inr (1, k, 0))), some (.inl s15.1)]) (stk' := []) (h' := s15.2) 3 (fun _ _ => rfl) (fun c27 => ?_) (fun c27 => ?_)
    · rw [if_pos c27] at HF
      have hz := Option.some.inj HF
      subst hz
      replace HF := HK18
      rw [← H217 _ rfl] at HF
      have hz := Option.some.inj HF
      subst hz
      exact q_rtn 1 (fun _ _ => rfl)
    · rw [if_neg c27] at HF
      obtain ⟨x23, hx24, HF⟩ := q_bind HF
      refine q_cll (m' := 61) (av := [.inr (.inr (4, k, 0)), .inl s15.1, .inl (0 : Int32)]) (st' := []) (pc' := 40) (loc' := [some (.inr (.inr (1, k, 0))), some (.inl s15.1)]) (h' := s15.2) 5 (fun _ _ => rfl) (eRp_put (by omega) hx24) ?_
      obtain ⟨x25, hx26, HF⟩ := q_bind HF
      refine q_cll (m' := 61) (av := [.inr (.inr (5, k, 0)), .inl s15.1, .inl (0 : Int32)]) (st' := []) (pc' := 49) (loc' := [some (.inr (.inr (1, k, 0))), some (.inl s15.1)]) (h' := x23) 5 (fun _ _ => rfl) (eRp_put (by omega) hx26) ?_
      refine q_blk (pc' := 25) (loc' := [some (.inr (.inr (1, k, 0))), some (.inl (s15.1 + (1 : Int32)))]) (stk' := []) (h' := x25) 2 (fun _ _ => rfl) ?_
      have hz := Option.some.inj HF
      subst hz
      exact H116 ((s15.1 + (1 : Int32)), x25) rfl
  refine q_lpE (E := fun s1 => q_E d q_K88 2 [some (.inr (.inr (1, k, 0))), some (.inl s1.1)] [] s1.2 (none, r)) r6 (fun s1 z8 HF H12 H23 => ?_) _ _ hl7
  refine q_br (P := (60 : Int32) ≤ s1.1) (pcT := 23) (pcF := 8) (loc' := [some (.inr (.inr (1, k, 0))), some (.inl s1.1)]) (stk' := []) (h' := s1.2) 3 (fun _ _ => rfl) (fun c13 => ?_) (fun c13 => ?_)
  · rw [if_pos c13] at HF
    have hz := Option.some.inj HF
    subst hz
    rw [← H23 _ rfl] at HK4
    exact q_wk (loc := [some (.inr (.inr (1, k, 0))), none]) ⟨Or.inl rfl, ⟨Or.inr ⟨rfl, fun _ h => by cases h⟩, trivial⟩⟩ (hP5 (s1.2) HK4)
  · rw [if_neg c13] at HF
    obtain ⟨x9, hx10, HF⟩ := q_bind HF
    refine q_cll (m' := 89) (av := [.inr (.inr (1, k, 0)), .inl s1.1]) (st' := []) (pc' := 13) (loc' := [some (.inr (.inr (1, k, 0))), some (.inl s1.1)]) (h' := s1.2) 3 (fun _ _ => rfl) (ePg_at (by omega) hx10) ?_
    obtain ⟨x11, hx12, HF⟩ := q_bind HF
    refine q_cll (m' := 63) (av := [.inr (.inr (3, k, x9)), .inl (0 : Int32)]) (st' := []) (pc' := 17) (loc' := [some (.inr (.inr (1, k, 0))), some (.inl s1.1)]) (h' := s1.2) 2 (fun _ _ => rfl) (eSl_empty (by omega) hx12) ?_
    refine q_blk (pc' := 2) (loc' := [some (.inr (.inr (1, k, 0))), some (.inl (s1.1 + (1 : Int32)))]) (stk' := []) (h' := x11) 2 (fun _ _ => rfl) ?_
    have hz := Option.some.inj HF
    subst hz
    exact H12 ((s1.1 + (1 : Int32)), x11) rfl
def Pg_lengthOf (k : Nat) (a1 : Int32) (h : q_H) : Option Int32 :=
  (Rp_pick 4 k a1 h).bind fun x1 => some (x1)
set_option maxRecDepth 100000 in
set_option maxHeartbeats 4000000 in
theorem ePg_lengthOf {d : Nat} (hd : 2 ≤ d) {k : Nat} {a1 : Int32} {h : q_H} {r : Int32} (HF : Pg_lengthOf k a1 h = some r) : q_T d 90 [.inr (.inr (1, k, 0)), .inl a1] h (some (.inl r), h) := by
  obtain ⟨d, rfl⟩ : ∃ d', d = d' + 1 := ⟨d - 1, by omega⟩
  refine q_ent q_K90 rfl rfl rfl ?_
  unfold Pg_lengthOf at HF
  obtain ⟨x1, hx2, HF⟩ := q_bind HF
  refine q_cll (m' := 60) (av := [.inr (.inr (4, k, 0)), .inl a1]) (st' := []) (pc' := 8) (loc' := [some (.inr (.inr (1, k, 0))), some (.inl a1)]) (h' := h) 4 (fun _ _ => rfl) (eRp_pick (by omega) hx2) ?_
  have hz := Option.some.inj HF
  subst hz
  exact q_rtn 1 (fun _ _ => rfl)
def Pg_isClear (k : Nat) (a1 : Int32) (h : q_H) : Option Int32 :=
  (Rp_pick 5 k a1 h).bind fun x1 => if ¬ x1 = (1 : Int32) then (some ((0 : Int32))) else (some ((1 : Int32)))
set_option maxRecDepth 100000 in
set_option maxHeartbeats 4000000 in
theorem ePg_isClear {d : Nat} (hd : 2 ≤ d) {k : Nat} {a1 : Int32} {h : q_H} {r : Int32} (HF : Pg_isClear k a1 h = some r) : q_T d 92 [.inr (.inr (1, k, 0)), .inl a1] h (some (.inl r), h) := by
  obtain ⟨d, rfl⟩ : ∃ d', d = d' + 1 := ⟨d - 1, by omega⟩
  refine q_ent q_K92 rfl rfl rfl ?_
  unfold Pg_isClear at HF
  obtain ⟨x1, hx2, HF⟩ := q_bind HF
  refine q_cll (m' := 60) (av := [.inr (.inr (5, k, 0)), .inl a1]) (st' := []) (pc' := 8) (loc' := [some (.inr (.inr (1, k, 0))), some (.inl a1)]) (h' := h) 4 (fun _ _ => rfl) (eRp_pick (by omega) hx2) ?_
  refine q_br (P := ¬ x1 = (1 : Int32)) (pcT := 16) (pcF := 12) (loc' := [some (.inr (.inr (1, k, 0))), some (.inl a1)]) (stk' := []) (h' := h) 2 (fun _ _ => rfl) (fun c3 => ?_) (fun c3 => ?_)
  · rw [if_pos c3] at HF
    have hz := Option.some.inj HF
    subst hz
    exact q_rtn 2 (fun _ _ => rfl)
  · rw [if_neg c3] at HF
    have hz := Option.some.inj HF
    subst hz
    exact q_rtn 3 (fun _ _ => rfl)
def Pg_setClear (k : Nat) (a1 : Int32) (a2 : Int32) (h : q_H) : Option q_H :=
  if a2 = 0 then ((Rp_put 5 k a1 (0 : Int32) h).bind fun x1 => some (x1)) else ((Rp_put 5 k a1 (1 : Int32) h).bind fun x3 => some (x3))
set_option maxRecDepth 100000 in
set_option maxHeartbeats 4000000 in
theorem ePg_setClear {d : Nat} (hd : 2 ≤ d) {k : Nat} {a1 : Int32} {a2 : Int32} {h : q_H} {r : q_H} (HF : Pg_setClear k a1 a2 h = some r) : q_T d 93 [.inr (.inr (1, k, 0)), .inl a1, .inl a2] h (none, r) := by
  obtain ⟨d, rfl⟩ : ∃ d', d = d' + 1 := ⟨d - 1, by omega⟩
  refine q_ent q_K93 rfl rfl rfl ?_
  unfold Pg_setClear at HF
  refine q_br (P := a2 = 0) (pcT := 13) (pcF := 9) (loc' := [some (.inr (.inr (1, k, 0))), some (.inl a1), some (.inl a2)]) (stk' := [.inl a1, .inr (.inr (5, k, 0))]) (h' := h) 5 (fun _ _ => rfl) (fun c5 => ?_) (fun c5 => ?_)
  · rw [if_pos c5] at HF
    obtain ⟨x1, hx2, HF⟩ := q_bind HF
    refine q_cll (m' := 61) (av := [.inr (.inr (5, k, 0)), .inl a1, .inl (0 : Int32)]) (st' := []) (pc' := 17) (loc' := [some (.inr (.inr (1, k, 0))), some (.inl a1), some (.inl a2)]) (h' := h) 2 (fun _ _ => rfl) (eRp_put (by omega) hx2) ?_
    have hz := Option.some.inj HF
    subst hz
    exact q_rtn 1 (fun _ _ => rfl)
  · rw [if_neg c5] at HF
    obtain ⟨x3, hx4, HF⟩ := q_bind HF
    refine q_cll (m' := 61) (av := [.inr (.inr (5, k, 0)), .inl a1, .inl (1 : Int32)]) (st' := []) (pc' := 17) (loc' := [some (.inr (.inr (1, k, 0))), some (.inl a1), some (.inl a2)]) (h' := h) 3 (fun _ _ => rfl) (eRp_put (by omega) hx4) ?_
    have hz := Option.some.inj HF
    subst hz
    exact q_rtn 1 (fun _ _ => rfl)
def Pg_freeOf (k : Nat) (a1 : Int32) (h : q_H) : Option Int32 :=
  (q_lp (fun s1 : Int32 × Int32 => (if (10 : Int32) ≤ s1.2 then (some (.inr (s1.1))) else ((Pg_at k ((a1 * (10 : Int32)) + s1.2) h).bind fun x9 => some (.inl ((s1.1 - (h.1 3 5 k x9)), (s1.2 + (1 : Int32))))) : Option ((Int32 × Int32) ⊕ Int32))) q_fu (((h.1 1 4 k 0), (0 : Int32)) : Int32 × Int32)).bind fun z8 => some z8
set_option maxRecDepth 100000 in
set_option maxHeartbeats 4000000 in
theorem ePg_freeOf {d : Nat} (hd : 2 ≤ d) {k : Nat} {a1 : Int32} {h : q_H} {r : Int32} (HF : Pg_freeOf k a1 h = some r) : q_T d 94 [.inr (.inr (1, k, 0)), .inl a1] h (some (.inl r), h) := by
  obtain ⟨d, rfl⟩ : ∃ d', d = d' + 1 := ⟨d - 1, by omega⟩
  refine q_ent q_K94 rfl rfl rfl ?_
  unfold Pg_freeOf at HF
  refine q_blk (pc' := 7) (loc' := [some (.inr (.inr (1, k, 0))), some (.inl a1), some (.inl (h.1 1 4 k 0)), some (.inl (0 : Int32))]) (stk' := []) (h' := h) 5 (fun _ _ => rfl) ?_
  obtain ⟨r6, hl7, HK4⟩ := q_bind HF
  refine q_lpE (E := fun s1 => q_E d q_K94 7 [some (.inr (.inr (1, k, 0))), some (.inl a1), some (.inl s1.1), some (.inl s1.2)] [] h (some (.inl r), h)) r6 (fun s1 z8 HF H12 H23 => ?_) _ _ hl7
  refine q_br (P := (10 : Int32) ≤ s1.2) (pcT := 35) (pcF := 13) (loc' := [some (.inr (.inr (1, k, 0))), some (.inl a1), some (.inl s1.1), some (.inl s1.2)]) (stk' := []) (h' := h) 3 (fun _ _ => rfl) (fun c11 => ?_) (fun c11 => ?_)
  · rw [if_pos c11] at HF
    have hz := Option.some.inj HF
    subst hz
    replace HF := HK4
    rw [← H23 _ rfl] at HF
    have hz := Option.some.inj HF
    subst hz
    exact q_rtn 2 (fun _ _ => rfl)
  · rw [if_neg c11] at HF
    obtain ⟨x9, hx10, HF⟩ := q_bind HF
    refine q_cll (m' := 89) (av := [.inr (.inr (1, k, 0)), .inl ((a1 * (10 : Int32)) + s1.2)]) (st' := [.inl s1.1]) (pc' := 24) (loc' := [some (.inr (.inr (1, k, 0))), some (.inl a1), some (.inl s1.1), some (.inl s1.2)]) (h' := h) 8 (fun _ _ => rfl) (ePg_at (by omega) hx10) ?_
    refine q_blk (pc' := 7) (loc' := [some (.inr (.inr (1, k, 0))), some (.inl a1), some (.inl (s1.1 - (h.1 3 5 k x9))), some (.inl (s1.2 + (1 : Int32)))]) (stk' := []) (h' := h) 5 (fun _ _ => rfl) ?_
    have hz := Option.some.inj HF
    subst hz
    exact H12 ((s1.1 - (h.1 3 5 k x9)), (s1.2 + (1 : Int32))) rfl
def Pg_slotsThatAre (k : Nat) (a1 : Int32) (h : q_H) : Option Int32 :=
  (q_lp (fun s1 : Int32 × Int32 => (if (60 : Int32) ≤ s1.2 then (some (.inr (s1.1))) else ((Pg_at k s1.2 h).bind fun x9 => Option.bind (α := Int32) (if ¬ (h.1 3 0 k x9) = a1 then (some (s1.1)) else (some ((s1.1 + (1 : Int32))))) (fun p16 => some (.inl (p16, (s1.2 + (1 : Int32)))))) : Option ((Int32 × Int32) ⊕ Int32))) q_fu (((0 : Int32), (0 : Int32)) : Int32 × Int32)).bind fun z8 => some z8
set_option maxRecDepth 100000 in
set_option maxHeartbeats 4000000 in
theorem ePg_slotsThatAre {d : Nat} (hd : 2 ≤ d) {k : Nat} {a1 : Int32} {h : q_H} {r : Int32} (HF : Pg_slotsThatAre k a1 h = some r) : q_T d 97 [.inr (.inr (1, k, 0)), .inl a1] h (some (.inl r), h) := by
  obtain ⟨d, rfl⟩ : ∃ d', d = d' + 1 := ⟨d - 1, by omega⟩
  refine q_ent q_K97 rfl rfl rfl ?_
  unfold Pg_slotsThatAre at HF
  refine q_blk (pc' := 4) (loc' := [some (.inr (.inr (1, k, 0))), some (.inl a1), some (.inl (0 : Int32)), some (.inl (0 : Int32))]) (stk' := []) (h' := h) 4 (fun _ _ => rfl) ?_
  obtain ⟨r6, hl7, HK4⟩ := q_bind HF
  refine q_lpE (E := fun s1 => q_E d q_K97 4 [some (.inr (.inr (1, k, 0))), some (.inl a1), some (.inl s1.1), some (.inl s1.2)] [] h (some (.inl r), h)) r6 (fun s1 z8 HF H12 H23 => ?_) _ _ hl7
  refine q_br (P := (60 : Int32) ≤ s1.2) (pcT := 31) (pcF := 10) (loc' := [some (.inr (.inr (1, k, 0))), some (.inl a1), some (.inl s1.1), some (.inl s1.2)]) (stk' := []) (h' := h) 3 (fun _ _ => rfl) (fun c18 => ?_) (fun c18 => ?_)
  · rw [if_pos c18] at HF
    have hz := Option.some.inj HF
    subst hz
    replace HF := HK4
    rw [← H23 _ rfl] at HF
    have hz := Option.some.inj HF
    subst hz
    exact q_rtn 2 (fun _ _ => rfl)
  · rw [if_neg c18] at HF
    obtain ⟨x9, hx10, HF⟩ := q_bind HF
    refine q_cll (m' := 89) (av := [.inr (.inr (1, k, 0)), .inl s1.2]) (st' := []) (pc' := 15) (loc' := [some (.inr (.inr (1, k, 0))), some (.inl a1), some (.inl s1.1), some (.inl s1.2)]) (h' := h) 3 (fun _ _ => rfl) (ePg_at (by omega) hx10) ?_
    obtain ⟨z11, HA12, HK13⟩ := q_bind HF
    have hP14 : ∀ p16 : Int32, (some (.inl (p16, (s1.2 + (1 : Int32)))) : Option ((Int32 × Int32) ⊕ Int32)) = some z8 → q_E d q_K97 25 [some (.inr (.inr (1, k, 0))), some (.inl a1), some (.inl p16), some (.inl s1.2)] [] h (some (.inl r), h) := by
      intro p16 HF
      refine q_blk (pc' := 4) (loc' := [some (.inr (.inr (1, k, 0))), some (.inl a1), some (.inl p16), some (.inl (s1.2 + (1 : Int32)))]) (stk' := []) (h' := h) 2 (fun _ _ => rfl) ?_
      have hz := Option.some.inj HF
      subst hz
      exact H12 (p16, (s1.2 + (1 : Int32))) rfl
    replace HF := HA12
    refine q_br (P := ¬ (h.1 3 0 k x9) = a1) (pcT := 25) (pcF := 22) (loc' := [some (.inr (.inr (1, k, 0))), some (.inl a1), some (.inl s1.1), some (.inl s1.2)]) (stk' := []) (h' := h) 3 (fun _ _ => rfl) (fun c15 => ?_) (fun c15 => ?_)
    · rw [if_pos c15] at HF
      have hz := Option.some.inj HF
      subst hz
      exact hP14 (s1.1) HK13
    · rw [if_neg c15] at HF
      refine q_blk (pc' := 25) (loc' := [some (.inr (.inr (1, k, 0))), some (.inl a1), some (.inl (s1.1 + (1 : Int32))), some (.inl s1.2)]) (stk' := []) (h' := h) 1 (fun _ _ => rfl) ?_
      have hz := Option.some.inj HF
      subst hz
      exact hP14 (s1.1 + (1 : Int32)) HK13
def Tn_makeAnew (k : Nat) (h : q_H) : Option q_H :=
  (q_lp (fun s1 : Int32 × q_H => (if (60 : Int32) < s1.1 then (some (.inr ((q_si (q_si s1.2 6 4 k 0 (2 : Int32)) 6 5 k 0 (2 : Int32))))) else ((Rp_put 7 k s1.1 (1 : Int32) s1.2).bind fun x9 => (Rp_put 8 k s1.1 s1.1 x9).bind fun x11 => (Rp_put 9 k s1.1 (-1 : Int32) x11).bind fun x13 => (Tn_setNoted k s1.1 (0 : Int64) x13).bind fun x15 => some (.inl ((s1.1 + (1 : Int32)), x15))) : Option ((Int32 × q_H) ⊕ q_H))) q_fu (((0 : Int32), h) : Int32 × q_H)).bind fun z8 => some z8
set_option maxRecDepth 100000 in
set_option maxHeartbeats 4000000 in
theorem eTn_makeAnew {d : Nat} (hd : 2 ≤ d) {k : Nat} {h : q_H} {r : q_H} (HF : Tn_makeAnew k h = some r) : q_T d 103 [.inr (.inr (6, k, 0))] h (none, r) := by
  obtain ⟨d, rfl⟩ : ∃ d', d = d' + 1 := ⟨d - 1, by omega⟩
  refine q_ent q_K103 rfl rfl rfl ?_
  unfold Tn_makeAnew at HF
  refine q_blk (pc' := 2) (loc' := [some (.inr (.inr (6, k, 0))), some (.inl (0 : Int32))]) (stk' := []) (h' := h) 2 (fun _ _ => rfl) ?_
  obtain ⟨r6, hl7, HK4⟩ := q_bind HF
  refine q_lpE (E := fun s1 => q_E d q_K103 2 [some (.inr (.inr (6, k, 0))), some (.inl s1.1)] [] s1.2 (none, r)) r6 (fun s1 z8 HF H12 H23 => ?_) _ _ hl7
  refine q_br (P := (60 : Int32) < s1.1) (pcT := 47) (pcF := 8) (loc' := [some (.inr (.inr (6, k, 0))), some (.inl s1.1)]) (stk' := []) (h' := s1.2) 3 (fun _ _ => rfl) (fun c17 => ?_) (fun c17 => ?_)
  · rw [if_pos c17] at HF
    have hz := Option.some.inj HF
    subst hz
    replace HF := HK4
    rw [← H23 _ rfl] at HF
    have hz := Option.some.inj HF
    subst hz
    exact q_rtn 7 (fun _ _ => rfl)
  · rw [if_neg c17] at HF
    obtain ⟨x9, hx10, HF⟩ := q_bind HF
    refine q_cll (m' := 61) (av := [.inr (.inr (7, k, 0)), .inl s1.1, .inl (1 : Int32)]) (st' := []) (pc' := 17) (loc' := [some (.inr (.inr (6, k, 0))), some (.inl s1.1)]) (h' := s1.2) 5 (fun _ _ => rfl) (eRp_put (by omega) hx10) ?_
    obtain ⟨x11, hx12, HF⟩ := q_bind HF
    refine q_cll (m' := 61) (av := [.inr (.inr (8, k, 0)), .inl s1.1, .inl s1.1]) (st' := []) (pc' := 26) (loc' := [some (.inr (.inr (6, k, 0))), some (.inl s1.1)]) (h' := x9) 5 (fun _ _ => rfl) (eRp_put (by omega) hx12) ?_
    obtain ⟨x13, hx14, HF⟩ := q_bind HF
    refine q_cll (m' := 61) (av := [.inr (.inr (9, k, 0)), .inl s1.1, .inl (-1 : Int32)]) (st' := []) (pc' := 35) (loc' := [some (.inr (.inr (6, k, 0))), some (.inl s1.1)]) (h' := x11) 5 (fun _ _ => rfl) (eRp_put (by omega) hx14) ?_
    obtain ⟨x15, hx16, HF⟩ := q_bind HF
    refine q_cll (m' := 110) (av := [.inr (.inr (6, k, 0)), .inl s1.1, .inr (.inl (0 : Int64))]) (st' := []) (pc' := 41) (loc' := [some (.inr (.inr (6, k, 0))), some (.inl s1.1)]) (h' := x13) 4 (fun _ _ => rfl) (eTn_setNoted (by omega) hx16) ?_
    refine q_blk (pc' := 2) (loc' := [some (.inr (.inr (6, k, 0))), some (.inl (s1.1 + (1 : Int32)))]) (stk' := []) (h' := x15) 2 (fun _ _ => rfl) ?_
    have hz := Option.some.inj HF
    subst hz
    exact H12 ((s1.1 + (1 : Int32)), x15) rfl
def Tn_lowOf (k : Nat) (a1 : Int32) (h : q_H) : Option Int32 :=
  (Rp_pick 8 k a1 h).bind fun x1 => some (x1)
set_option maxRecDepth 100000 in
set_option maxHeartbeats 4000000 in
theorem eTn_lowOf {d : Nat} (hd : 2 ≤ d) {k : Nat} {a1 : Int32} {h : q_H} {r : Int32} (HF : Tn_lowOf k a1 h = some r) : q_T d 107 [.inr (.inr (6, k, 0)), .inl a1] h (some (.inl r), h) := by
  obtain ⟨d, rfl⟩ : ∃ d', d = d' + 1 := ⟨d - 1, by omega⟩
  refine q_ent q_K107 rfl rfl rfl ?_
  unfold Tn_lowOf at HF
  obtain ⟨x1, hx2, HF⟩ := q_bind HF
  refine q_cll (m' := 60) (av := [.inr (.inr (8, k, 0)), .inl a1]) (st' := []) (pc' := 8) (loc' := [some (.inr (.inr (6, k, 0))), some (.inl a1)]) (h' := h) 4 (fun _ _ => rfl) (eRp_pick (by omega) hx2) ?_
  have hz := Option.some.inj HF
  subst hz
  exact q_rtn 1 (fun _ _ => rfl)
def Tn_waitsFor (k : Nat) (a1 : Int32) (h : q_H) : Option Int32 :=
  (Rp_pick 9 k a1 h).bind fun x1 => some (x1)
set_option maxRecDepth 100000 in
set_option maxHeartbeats 4000000 in
theorem eTn_waitsFor {d : Nat} (hd : 2 ≤ d) {k : Nat} {a1 : Int32} {h : q_H} {r : Int32} (HF : Tn_waitsFor k a1 h = some r) : q_T d 108 [.inr (.inr (6, k, 0)), .inl a1] h (some (.inl r), h) := by
  obtain ⟨d, rfl⟩ : ∃ d', d = d' + 1 := ⟨d - 1, by omega⟩
  refine q_ent q_K108 rfl rfl rfl ?_
  unfold Tn_waitsFor at HF
  obtain ⟨x1, hx2, HF⟩ := q_bind HF
  refine q_cll (m' := 60) (av := [.inr (.inr (9, k, 0)), .inl a1]) (st' := []) (pc' := 8) (loc' := [some (.inr (.inr (6, k, 0))), some (.inl a1)]) (h' := h) 4 (fun _ _ => rfl) (eRp_pick (by omega) hx2) ?_
  have hz := Option.some.inj HF
  subst hz
  exact q_rtn 1 (fun _ _ => rfl)
def Tn_howManyNoted (k : Nat) (a1 : Int32) (h : q_H) : Option Int32 :=
  if a1 < 0 then (some ((0 : Int32))) else (if (61 : Int32) ≤ a1 then (some ((0 : Int32))) else (bif q_in a1 61 then ((Jl_bitCount (h.2 10 0 k a1.toNatClampNeg) h).bind fun x1 => some (x1)) else none))
set_option maxRecDepth 100000 in
set_option maxHeartbeats 4000000 in
theorem eTn_howManyNoted {d : Nat} (hd : 2 ≤ d) {k : Nat} {a1 : Int32} {h : q_H} {r : Int32} (HF : Tn_howManyNoted k a1 h = some r) : q_T d 109 [.inr (.inr (6, k, 0)), .inl a1] h (some (.inl r), h) := by
  obtain ⟨d, rfl⟩ : ∃ d', d = d' + 1 := ⟨d - 1, by omega⟩
  refine q_ent q_K109 rfl rfl rfl ?_
  unfold Tn_howManyNoted at HF
  refine q_br (P := a1 < 0) (pcT := 25) (pcF := 4) (loc' := [some (.inr (.inr (6, k, 0))), some (.inl a1)]) (stk' := []) (h' := h) 2 (fun _ _ => rfl) (fun c5 => ?_) (fun c5 => ?_)
  · rw [if_pos c5] at HF
    have hz := Option.some.inj HF
    subst hz
    exact q_rtn 2 (fun _ _ => rfl)
  · rw [if_neg c5] at HF
    refine q_br (P := (61 : Int32) ≤ a1) (pcT := 25) (pcF := 13) (loc' := [some (.inr (.inr (6, k, 0))), some (.inl a1)]) (stk' := []) (h' := h) 5 (fun _ _ => rfl) (fun c4 => ?_) (fun c4 => ?_)
    · rw [if_pos c4] at HF
      have hz := Option.some.inj HF
      subst hz
      exact q_rtn 2 (fun _ _ => rfl)
    · rw [if_neg c4] at HF
      obtain ⟨g3, HF⟩ := q_gF HF
      refine q_gd (pc' := 19) (loc' := [some (.inr (.inr (6, k, 0))), some (.inl a1)]) (stk' := [.inr (.inl (h.2 10 0 k a1.toNatClampNeg))]) (h' := h) 4 (fun _ _ => rfl) g3 ?_
      obtain ⟨x1, hx2, HF⟩ := q_bind HF
      refine q_cll (m' := 4) (av := [.inr (.inl (h.2 10 0 k a1.toNatClampNeg))]) (st' := []) (pc' := 22) (loc' := [some (.inr (.inr (6, k, 0))), some (.inl a1)]) (h' := h) 1 (fun _ _ => rfl) (eJl_bitCount (by omega) hx2) ?_
      have hz := Option.some.inj HF
      subst hz
      exact q_rtn 2 (fun _ _ => rfl)
def Tn_howManyOpen (k : Nat) (h : q_H) : Option Int32 :=
  (q_lp (fun s1 : Int32 × Int32 => (if (h.1 6 4 k 0) ≤ s1.2 then (some (.inr (s1.1))) else ((Tn_stateOf k s1.2 h).bind fun x9 => Option.bind (α := Int32) (if ¬ x9 = 0 then (some (s1.1)) else (some ((s1.1 + (1 : Int32))))) (fun p16 => some (.inl (p16, (s1.2 + (1 : Int32)))))) : Option ((Int32 × Int32) ⊕ Int32))) q_fu (((0 : Int32), (1 : Int32)) : Int32 × Int32)).bind fun z8 => some z8
set_option maxRecDepth 100000 in
set_option maxHeartbeats 4000000 in
theorem eTn_howManyOpen {d : Nat} (hd : 2 ≤ d) {k : Nat} {h : q_H} {r : Int32} (HF : Tn_howManyOpen k h = some r) : q_T d 117 [.inr (.inr (6, k, 0))] h (some (.inl r), h) := by
  obtain ⟨d, rfl⟩ : ∃ d', d = d' + 1 := ⟨d - 1, by omega⟩
  refine q_ent q_K117 rfl rfl rfl ?_
  unfold Tn_howManyOpen at HF
  refine q_blk (pc' := 4) (loc' := [some (.inr (.inr (6, k, 0))), some (.inl (0 : Int32)), some (.inl (1 : Int32))]) (stk' := []) (h' := h) 4 (fun _ _ => rfl) ?_
  obtain ⟨r6, hl7, HK4⟩ := q_bind HF
  refine q_lpE (E := fun s1 => q_E d q_K117 4 [some (.inr (.inr (6, k, 0))), some (.inl s1.1), some (.inl s1.2)] [] h (some (.inl r), h)) r6 (fun s1 z8 HF H12 H23 => ?_) _ _ hl7
  refine q_br (P := (h.1 6 4 k 0) ≤ s1.2) (pcT := 29) (pcF := 12) (loc' := [some (.inr (.inr (6, k, 0))), some (.inl s1.1), some (.inl s1.2)]) (stk' := []) (h' := h) 4 (fun _ _ => rfl) (fun c18 => ?_) (fun c18 => ?_)
  · rw [if_pos c18] at HF
    have hz := Option.some.inj HF
    subst hz
    replace HF := HK4
    rw [← H23 _ rfl] at HF
    have hz := Option.some.inj HF
    subst hz
    exact q_rtn 2 (fun _ _ => rfl)
  · rw [if_neg c18] at HF
    obtain ⟨x9, hx10, HF⟩ := q_bind HF
    refine q_cll (m' := 106) (av := [.inr (.inr (6, k, 0)), .inl s1.2]) (st' := []) (pc' := 17) (loc' := [some (.inr (.inr (6, k, 0))), some (.inl s1.1), some (.inl s1.2)]) (h' := h) 3 (fun _ _ => rfl) (eTn_stateOf (by omega) hx10) ?_
    obtain ⟨z11, HA12, HK13⟩ := q_bind HF
    have hP14 : ∀ p16 : Int32, (some (.inl (p16, (s1.2 + (1 : Int32)))) : Option ((Int32 × Int32) ⊕ Int32)) = some z8 → q_E d q_K117 23 [some (.inr (.inr (6, k, 0))), some (.inl p16), some (.inl s1.2)] [] h (some (.inl r), h) := by
      intro p16 HF
      refine q_blk (pc' := 4) (loc' := [some (.inr (.inr (6, k, 0))), some (.inl p16), some (.inl (s1.2 + (1 : Int32)))]) (stk' := []) (h' := h) 2 (fun _ _ => rfl) ?_
      have hz := Option.some.inj HF
      subst hz
      exact H12 (p16, (s1.2 + (1 : Int32))) rfl
    replace HF := HA12
    refine q_br (P := ¬ x9 = 0) (pcT := 23) (pcF := 20) (loc' := [some (.inr (.inr (6, k, 0))), some (.inl s1.1), some (.inl s1.2)]) (stk' := []) (h' := h) 1 (fun _ _ => rfl) (fun c15 => ?_) (fun c15 => ?_)
    · rw [if_pos c15] at HF
      have hz := Option.some.inj HF
      subst hz
      exact hP14 (s1.1) HK13
    · rw [if_neg c15] at HF
      refine q_blk (pc' := 23) (loc' := [some (.inr (.inr (6, k, 0))), some (.inl (s1.1 + (1 : Int32))), some (.inl s1.2)]) (stk' := []) (h' := h) 1 (fun _ _ => rfl) ?_
      have hz := Option.some.inj HF
      subst hz
      exact hP14 (s1.1 + (1 : Int32)) HK13
def Tn_letWait (k : Nat) (a1 : Int32) (a2 : Int32) (h : q_H) : Option q_H :=
  (Rp_put 9 k a1 a2 h).bind fun x1 => some (x1)
set_option maxRecDepth 100000 in
set_option maxHeartbeats 4000000 in
theorem eTn_letWait {d : Nat} (hd : 2 ≤ d) {k : Nat} {a1 : Int32} {a2 : Int32} {h : q_H} {r : q_H} (HF : Tn_letWait k a1 a2 h = some r) : q_T d 119 [.inr (.inr (6, k, 0)), .inl a1, .inl a2] h (none, r) := by
  obtain ⟨d, rfl⟩ : ∃ d', d = d' + 1 := ⟨d - 1, by omega⟩
  refine q_ent q_K119 rfl rfl rfl ?_
  unfold Tn_letWait at HF
  obtain ⟨x1, hx2, HF⟩ := q_bind HF
  refine q_cll (m' := 61) (av := [.inr (.inr (9, k, 0)), .inl a1, .inl a2]) (st' := []) (pc' := 9) (loc' := [some (.inr (.inr (6, k, 0))), some (.inl a1), some (.inl a2)]) (h' := h) 5 (fun _ _ => rfl) (eRp_put (by omega) hx2) ?_
  have hz := Option.some.inj HF
  subst hz
  exact q_rtn 1 (fun _ _ => rfl)
def Tx_takeInt (a1 : Int32) (h : q_H) : Option q_H :=
  (q_lp (fun s1 : Int32 × q_H => (if s1.1 < 0 then (some (.inr (s1.2))) else ((Rp_put 26 6 (s1.2.1 25 1 6 0) ((a1 >>> (s1.1 &&& 31)) &&& (255 : Int32)) s1.2).bind fun x9 => some (.inl ((s1.1 + (-8 : Int32)), (q_si x9 25 1 6 0 ((x9.1 25 1 6 0) + (1 : Int32)))))) : Option ((Int32 × q_H) ⊕ q_H))) q_fu (((24 : Int32), h) : Int32 × q_H)).bind fun z8 => some z8
set_option maxRecDepth 100000 in
set_option maxHeartbeats 4000000 in
theorem eTx_takeInt {d : Nat} (hd : 2 ≤ d) {a1 : Int32} {h : q_H} {r : q_H} (HF : Tx_takeInt a1 h = some r) : q_T d 123 [.inr (.inr (25, 6, 0)), .inl a1] h (none, r) := by
  obtain ⟨d, rfl⟩ : ∃ d', d = d' + 1 := ⟨d - 1, by omega⟩
  refine q_ent q_K123 rfl rfl rfl ?_
  unfold Tx_takeInt at HF
  refine q_blk (pc' := 3) (loc' := [some (.inr (.inr (25, 6, 0))), some (.inl a1), some (.inl (24 : Int32))]) (stk' := []) (h' := h) 2 (fun _ _ => rfl) ?_
  obtain ⟨r6, hl7, HK4⟩ := q_bind HF
  refine q_lpE (E := fun s1 => q_E d q_K123 3 [some (.inr (.inr (25, 6, 0))), some (.inl a1), some (.inl s1.1)] [] s1.2 (none, r)) r6 (fun s1 z8 HF H12 H23 => ?_) _ _ hl7
  refine q_br (P := s1.1 < 0) (pcT := 41) (pcF := 7) (loc' := [some (.inr (.inr (25, 6, 0))), some (.inl a1), some (.inl s1.1)]) (stk' := []) (h' := s1.2) 2 (fun _ _ => rfl) (fun c11 => ?_) (fun c11 => ?_)
  · rw [if_pos c11] at HF
    have hz := Option.some.inj HF
    subst hz
    replace HF := HK4
    rw [← H23 _ rfl] at HF
    have hz := Option.some.inj HF
    subst hz
    exact q_rtn 1 (fun _ _ => rfl)
  · rw [if_neg c11] at HF
    obtain ⟨x9, hx10, HF⟩ := q_bind HF
    refine q_cll (m' := 61) (av := [.inr (.inr (26, 6, 0)), .inl (s1.2.1 25 1 6 0), .inl ((a1 >>> (s1.1 &&& 31)) &&& (255 : Int32))]) (st' := []) (pc' := 25) (loc' := [some (.inr (.inr (25, 6, 0))), some (.inl a1), some (.inl s1.1)]) (h' := s1.2) 10 (fun _ _ => rfl) (eRp_put (by omega) hx10) ?_
    refine q_blk (pc' := 3) (loc' := [some (.inr (.inr (25, 6, 0))), some (.inl a1), some (.inl (s1.1 + (-8 : Int32)))]) (stk' := []) (h' := (q_si x9 25 1 6 0 ((x9.1 25 1 6 0) + (1 : Int32)))) 8 (fun _ _ => rfl) ?_
    have hz := Option.some.inj HF
    subst hz
    exact H12 ((s1.1 + (-8 : Int32)), (q_si x9 25 1 6 0 ((x9.1 25 1 6 0) + (1 : Int32)))) rfl
def Tx_told (a1 : Int32) (h : q_H) : Option Int32 :=
  (Rp_pick 27 6 a1 h).bind fun x1 => some (x1)
set_option maxRecDepth 100000 in
set_option maxHeartbeats 4000000 in
theorem eTx_told {d : Nat} (hd : 2 ≤ d) {a1 : Int32} {h : q_H} {r : Int32} (HF : Tx_told a1 h = some r) : q_T d 126 [.inr (.inr (25, 6, 0)), .inl a1] h (some (.inl r), h) := by
  obtain ⟨d, rfl⟩ : ∃ d', d = d' + 1 := ⟨d - 1, by omega⟩
  refine q_ent q_K126 rfl rfl rfl ?_
  unfold Tx_told at HF
  obtain ⟨x1, hx2, HF⟩ := q_bind HF
  refine q_cll (m' := 60) (av := [.inr (.inr (27, 6, 0)), .inl a1]) (st' := []) (pc' := 8) (loc' := [some (.inr (.inr (25, 6, 0))), some (.inl a1)]) (h' := h) 4 (fun _ _ => rfl) (eRp_pick (by omega) hx2) ?_
  have hz := Option.some.inj HF
  subst hz
  exact q_rtn 1 (fun _ _ => rfl)
def Tx_canBe (a1 : Int32) (h : q_H) : Option Int32 :=
  if (h.1 25 7 6 0) = 0 then ((Rp_isWithin (h.1 25 6 6 0) (32 : Int32) (96 : Int32) h).bind fun x1 => bif q_01 x1 then some (x1) else none) else (if (h.1 25 7 6 0) = 1 then ((Rp_isWithin (h.1 25 6 6 0) (1 : Int32) (8 : Int32) h).bind fun x4 => bif q_01 x4 then some (x4) else none) else (if (h.1 25 7 6 0) = 2 then ((Rp_isWithin (h.1 25 6 6 0) (0 : Int32) (30 : Int32) h).bind fun x7 => bif q_01 x7 then some (x7) else none) else (if (h.1 25 7 6 0) = 3 then (if ¬ a1 = 0 then (if a1 = (1 : Int32) then (some ((1 : Int32))) else ((Rp_isWithin (h.1 25 6 6 0) (1 : Int32) (20 : Int32) h).bind fun x10 => if x10 = 0 then (some ((0 : Int32))) else (some ((1 : Int32))))) else ((Rp_isWithin (h.1 25 6 6 0) (0 : Int32) (99 : Int32) h).bind fun x14 => bif q_01 x14 then some (x14) else none)) else (some ((1 : Int32))))))
set_option maxRecDepth 100000 in
set_option maxHeartbeats 4000000 in
theorem eTx_canBe {d : Nat} (hd : 2 ≤ d) {a1 : Int32} {h : q_H} {r : Int32} (HF : Tx_canBe a1 h = some r) : q_T d 131 [.inr (.inr (25, 6, 0)), .inl a1] h (some (.inl r), h) := by
  obtain ⟨d, rfl⟩ : ∃ d', d = d' + 1 := ⟨d - 1, by omega⟩
  refine q_ent q_K131 rfl rfl rfl ?_
  unfold Tx_canBe at HF
  by_cases c18 : (h.1 25 7 6 0) = 0
  · rw [if_pos c18] at HF
    refine q_sw (o1 := 32) (pcx := 4) (pc' := 36) (loc' := [some (.inr (.inr (25, 6, 0))), some (.inl a1)]) (stk' := []) (h' := h) 3 (fun _ _ => rfl) (q_tsI c18 rfl) rfl ?_
    obtain ⟨x1, hx2, HF⟩ := q_bind HF
    refine q_cll (m' := 55) (av := [.inl (h.1 25 6 6 0), .inl (32 : Int32), .inl (96 : Int32)]) (st' := []) (pc' := 47) (loc' := [some (.inr (.inr (25, 6, 0))), some (.inl a1)]) (h' := h) 5 (fun _ _ => rfl) (eRp_isWithin (by omega) hx2) ?_
    obtain ⟨g3, HF⟩ := q_gF HF
    have hz := Option.some.inj HF
    subst hz
    exact q_rtz 1 (fun _ _ => rfl) g3
  · rw [if_neg c18] at HF
    by_cases c19 : (h.1 25 7 6 0) = 1
    · rw [if_pos c19] at HF
      refine q_sw (o1 := 44) (pcx := 4) (pc' := 48) (loc' := [some (.inr (.inr (25, 6, 0))), some (.inl a1)]) (stk' := []) (h' := h) 3 (fun _ _ => rfl) (q_tsI c19 rfl) rfl ?_
      obtain ⟨x4, hx5, HF⟩ := q_bind HF
      refine q_cll (m' := 55) (av := [.inl (h.1 25 6 6 0), .inl (1 : Int32), .inl (8 : Int32)]) (st' := []) (pc' := 58) (loc' := [some (.inr (.inr (25, 6, 0))), some (.inl a1)]) (h' := h) 5 (fun _ _ => rfl) (eRp_isWithin (by omega) hx5) ?_
      obtain ⟨g6, HF⟩ := q_gF HF
      have hz := Option.some.inj HF
      subst hz
      exact q_rtz 1 (fun _ _ => rfl) g6
    · rw [if_neg c19] at HF
      by_cases c20 : (h.1 25 7 6 0) = 2
      · rw [if_pos c20] at HF
        refine q_sw (o1 := 55) (pcx := 4) (pc' := 59) (loc' := [some (.inr (.inr (25, 6, 0))), some (.inl a1)]) (stk' := []) (h' := h) 3 (fun _ _ => rfl) (q_tsI c20 rfl) rfl ?_
        obtain ⟨x7, hx8, HF⟩ := q_bind HF
        refine q_cll (m' := 55) (av := [.inl (h.1 25 6 6 0), .inl (0 : Int32), .inl (30 : Int32)]) (st' := []) (pc' := 69) (loc' := [some (.inr (.inr (25, 6, 0))), some (.inl a1)]) (h' := h) 5 (fun _ _ => rfl) (eRp_isWithin (by omega) hx8) ?_
        obtain ⟨g9, HF⟩ := q_gF HF
        have hz := Option.some.inj HF
        subst hz
        exact q_rtz 1 (fun _ _ => rfl) g9
      · rw [if_neg c20] at HF
        by_cases c21 : (h.1 25 7 6 0) = 3
        · rw [if_pos c21] at HF
          refine q_sw (o1 := 66) (pcx := 4) (pc' := 70) (loc' := [some (.inr (.inr (25, 6, 0))), some (.inl a1)]) (stk' := []) (h' := h) 3 (fun _ _ => rfl) (q_tsI c21 rfl) rfl ?_
          refine q_br (P := ¬ a1 = 0) (pcT := 87) (pcF := 74) (loc' := [some (.inr (.inr (25, 6, 0))), some (.inl a1)]) (stk' := []) (h' := h) 2 (fun _ _ => rfl) (fun c17 => ?_) (fun c17 => ?_)
          · rw [if_pos c17] at HF
            refine q_br (P := a1 = (1 : Int32)) (pcT := 105) (pcF := 92) (loc' := [some (.inr (.inr (25, 6, 0))), some (.inl a1)]) (stk' := []) (h' := h) 3 (fun _ _ => rfl) (fun c13 => ?_) (fun c13 => ?_)
            · rw [if_pos c13] at HF
              have hz := Option.some.inj HF
              subst hz
              exact q_rtn 3 (fun _ _ => rfl)
            · rw [if_neg c13] at HF
              obtain ⟨x10, hx11, HF⟩ := q_bind HF
              refine q_cll (m' := 55) (av := [.inl (h.1 25 6 6 0), .inl (1 : Int32), .inl (20 : Int32)]) (st' := []) (pc' := 102) (loc' := [some (.inr (.inr (25, 6, 0))), some (.inl a1)]) (h' := h) 5 (fun _ _ => rfl) (eRp_isWithin (by omega) hx11) ?_
              refine q_br (P := x10 = 0) (pcT := 109) (pcF := 105) (loc' := [some (.inr (.inr (25, 6, 0))), some (.inl a1)]) (stk' := []) (h' := h) 1 (fun _ _ => rfl) (fun c12 => ?_) (fun c12 => ?_)
              · rw [if_pos c12] at HF
                have hz := Option.some.inj HF
                subst hz
                exact q_rtn 2 (fun _ _ => rfl)
              · rw [if_neg c12] at HF
                have hz := Option.some.inj HF
                subst hz
                exact q_rtn 3 (fun _ _ => rfl)
          · rw [if_neg c17] at HF
            obtain ⟨x14, hx15, HF⟩ := q_bind HF
            refine q_cll (m' := 55) (av := [.inl (h.1 25 6 6 0), .inl (0 : Int32), .inl (99 : Int32)]) (st' := []) (pc' := 84) (loc' := [some (.inr (.inr (25, 6, 0))), some (.inl a1)]) (h' := h) 5 (fun _ _ => rfl) (eRp_isWithin (by omega) hx15) ?_
            obtain ⟨g16, HF⟩ := q_gF HF
            have hz := Option.some.inj HF
            subst hz
            exact q_rtz 2 (fun _ _ => rfl) g16
        · rw [if_neg c21] at HF
          refine q_sw (o1 := 107) (pcx := 4) (pc' := 111) (loc' := [some (.inr (.inr (25, 6, 0))), some (.inl a1)]) (stk' := []) (h' := h) 3 (fun _ _ => rfl) (q_tsD (a := (h.1 25 7 6 0)) (lo := 0) (hi := 3) (by have z0 := q_neI c18 (a := 0) rfl; have z1 := q_neI c19 (a := 1) rfl; have z2 := q_neI c20 (a := 2) rfl; have z3 := q_neI c21 (a := 3) rfl; omega)) rfl ?_
          have hz := Option.some.inj HF
          subst hz
          exact q_rtn 2 (fun _ _ => rfl)
