def Mo_sees (a1 : Int32) (a2 : Int32) (a3 : Int32) (h : q_H) : Option (Int32 × q_H) :=
  (Mo_isIn a3 (0 : Int32) (3 : Int32) h).bind fun x1 => Option.bind (α := Int32) (if ¬ x1 = 0 then ((Mo_isTxn a1 h).bind fun x7 => if x7 = 0 then (some ((2 : Int32))) else ((Mo_isRow a2 h).bind fun x9 => if ¬ x9 = 0 then (some ((0 : Int32))) else (some ((2 : Int32))))) else (some ((1 : Int32)))) (fun p14 => (Mo_is p14 h).bind fun x15 => if ¬ x15.1 = 0 then ((Mo_seenOf a1 a2 x15.2).bind fun x17 => if 0 ≤ x17 then (if ¬ a3 = 0 then (if ¬ a3 = (1 : Int32) then ((Mo_of x17 (((3 : Int32) + a3) - (2 : Int32)) x15.2).bind fun x19 => some ((x19, x15.2))) else (some (((x17 - x17 / (10 : Int32) * (10 : Int32)), x15.2)))) else (some (((x17 / (10 : Int32)), x15.2)))) else ((Mo_refuse (6 : Int32) x15.2).bind fun x23 => some ((x23.1, x23.2)))) else (some (((-1 : Int32), x15.2))))
set_option maxRecDepth 100000 in
set_option maxHeartbeats 4000000 in
theorem eMo_sees {d : Nat} (hd : 5 ≤ d) {a1 : Int32} {a2 : Int32} {a3 : Int32} {h : q_H} {r : (Int32 × q_H)} (HF : Mo_sees a1 a2 a3 h = some r) : q_T d 276 [.inr (.inr (30, 7, 0)), .inl a1, .inl a2, .inl a3] h (some (.inl r.1), r.2) := by
  obtain ⟨d, rfl⟩ : ∃ d', d = d' + 1 := ⟨d - 1, by omega⟩
  refine q_ent q_K276 rfl rfl rfl ?_
  unfold Mo_sees at HF
  obtain ⟨x1, hx2, HF⟩ := q_bind HF
  refine q_cll (m' := 184) (av := [.inl a3, .inl (0 : Int32), .inl (3 : Int32)]) (st' := [.inr (.inr (30, 7, 0))]) (pc' := 7) (loc' := [some (.inr (.inr (30, 7, 0))), some (.inl a1), some (.inl a2), some (.inl a3), none]) (h' := h) 5 (fun _ _ => rfl) (eMo_isIn (by omega) hx2) ?_
  obtain ⟨z3, HA4, HK5⟩ := q_bind HF
  have hP6 : ∀ p14 : Int32, ((Mo_is p14 h).bind fun x15 => if ¬ x15.1 = 0 then ((Mo_seenOf a1 a2 x15.2).bind fun x17 => if 0 ≤ x17 then (if ¬ a3 = 0 then (if ¬ a3 = (1 : Int32) then ((Mo_of x17 (((3 : Int32) + a3) - (2 : Int32)) x15.2).bind fun x19 => some ((x19, x15.2))) else (some (((x17 - x17 / (10 : Int32) * (10 : Int32)), x15.2)))) else (some (((x17 / (10 : Int32)), x15.2)))) else ((Mo_refuse (6 : Int32) x15.2).bind fun x23 => some ((x23.1, x23.2)))) else (some (((-1 : Int32), x15.2))) : Option (Int32 × q_H)) = some r → q_E d q_K276 35 [some (.inr (.inr (30, 7, 0))), some (.inl a1), some (.inl a2), some (.inl a3), none] [.inl p14, .inr (.inr (30, 7, 0))] h (some (.inl r.1), r.2) := by
    intro p14 HF
    obtain ⟨x15, hx16, HF⟩ := q_bind HF
    refine q_cll (m' := 183) (av := [.inr (.inr (30, 7, 0)), .inl p14]) (st' := []) (pc' := 38) (loc' := [some (.inr (.inr (30, 7, 0))), some (.inl a1), some (.inl a2), some (.inl a3), none]) (h' := h) 1 (fun _ _ => rfl) (eMo_is (by omega) hx16) ?_
    refine q_br (P := ¬ x15.1 = 0) (pcT := 43) (pcF := 41) (loc' := [some (.inr (.inr (30, 7, 0))), some (.inl a1), some (.inl a2), some (.inl a3), none]) (stk' := []) (h' := x15.2) 1 (fun _ _ => rfl) (fun c26 => ?_) (fun c26 => ?_)
    · rw [if_pos c26] at HF
      obtain ⟨x17, hx18, HF⟩ := q_bind HF
      refine q_cll (m' := 225) (av := [.inr (.inr (30, 7, 0)), .inl a1, .inl a2]) (st' := []) (pc' := 49) (loc' := [some (.inr (.inr (30, 7, 0))), some (.inl a1), some (.inl a2), some (.inl a3), none]) (h' := x15.2) 4 (fun _ _ => rfl) (eMo_seenOf (by omega) hx18) ?_
      refine q_br (P := 0 ≤ x17) (pcT := 63) (pcF := 56) (loc' := [some (.inr (.inr (30, 7, 0))), some (.inl a1), some (.inl a2), some (.inl a3), some (.inl x17)]) (stk' := []) (h' := x15.2) 3 (fun _ _ => rfl) (fun c25 => ?_) (fun c25 => ?_)
      · rw [if_pos c25] at HF
        refine q_br (P := ¬ a3 = 0) (pcT := 75) (pcF := 67) (loc' := [some (.inr (.inr (30, 7, 0))), some (.inl a1), some (.inl a2), some (.inl a3), some (.inl x17)]) (stk' := []) (h' := x15.2) 2 (fun _ _ => rfl) (fun c22 => ?_) (fun c22 => ?_)
        · rw [if_pos c22] at HF
          refine q_br (P := ¬ a3 = (1 : Int32)) (pcT := 88) (pcF := 80) (loc' := [some (.inr (.inr (30, 7, 0))), some (.inl a1), some (.inl a2), some (.inl a3), some (.inl x17)]) (stk' := []) (h' := x15.2) 3 (fun _ _ => rfl) (fun c21 => ?_) (fun c21 => ?_)
          · rw [if_pos c21] at HF
            obtain ⟨x19, hx20, HF⟩ := q_bind HF
            refine q_cll (m' := 187) (av := [.inr (.inr (30, 7, 0)), .inl x17, .inl (((3 : Int32) + a3) - (2 : Int32))]) (st' := []) (pc' := 99) (loc' := [some (.inr (.inr (30, 7, 0))), some (.inl a1), some (.inl a2), some (.inl a3), some (.inl x17)]) (h' := x15.2) 8 (fun _ _ => rfl) (eMo_of (by omega) hx20) ?_
            have hz := Option.some.inj HF
            subst hz
            exact q_rtn 1 (fun _ _ => rfl)
          · rw [if_neg c21] at HF
            have hz := Option.some.inj HF
            subst hz
            exact q_rtn 5 (fun _ _ => rfl)
        · rw [if_neg c22] at HF
          have hz := Option.some.inj HF
          subst hz
          exact q_rtn 5 (fun _ _ => rfl)
      · rw [if_neg c25] at HF
        obtain ⟨x23, hx24, HF⟩ := q_bind HF
        refine q_cll (m' := 182) (av := [.inr (.inr (30, 7, 0)), .inl (6 : Int32)]) (st' := []) (pc' := 62) (loc' := [some (.inr (.inr (30, 7, 0))), some (.inl a1), some (.inl a2), some (.inl a3), some (.inl x17)]) (h' := x15.2) 3 (fun _ _ => rfl) (eMo_refuse (by omega) hx24) ?_
        have hz := Option.some.inj HF
        subst hz
        exact q_rtn 1 (fun _ _ => rfl)
    · rw [if_neg c26] at HF
      have hz := Option.some.inj HF
      subst hz
      exact q_rtn 2 (fun _ _ => rfl)
  replace HF := HA4
  refine q_br (P := ¬ x1 = 0) (pcT := 14) (pcF := 10) (loc' := [some (.inr (.inr (30, 7, 0))), some (.inl a1), some (.inl a2), some (.inl a3), none]) (stk' := [.inr (.inr (30, 7, 0))]) (h' := h) 1 (fun _ _ => rfl) (fun c13 => ?_) (fun c13 => ?_)
  · rw [if_pos c13] at HF
    obtain ⟨x7, hx8, HF⟩ := q_bind HF
    refine q_cll (m' := 198) (av := [.inr (.inr (30, 7, 0)), .inl a1]) (st' := [.inr (.inr (30, 7, 0))]) (pc' := 19) (loc' := [some (.inr (.inr (30, 7, 0))), some (.inl a1), some (.inl a2), some (.inl a3), none]) (h' := h) 3 (fun _ _ => rfl) (eMo_isTxn (by omega) hx8) ?_
    refine q_br (P := x7 = 0) (pcT := 30) (pcF := 22) (loc' := [some (.inr (.inr (30, 7, 0))), some (.inl a1), some (.inl a2), some (.inl a3), none]) (stk' := [.inr (.inr (30, 7, 0))]) (h' := h) 1 (fun _ _ => rfl) (fun c12 => ?_) (fun c12 => ?_)
    · rw [if_pos c12] at HF
      refine q_blk (pc' := 35) (loc' := [some (.inr (.inr (30, 7, 0))), some (.inl a1), some (.inl a2), some (.inl a3), none]) (stk' := [.inl (2 : Int32), .inr (.inr (30, 7, 0))]) (h' := h) 2 (fun _ _ => rfl) ?_
      have hz := Option.some.inj HF
      subst hz
      exact hP6 (2 : Int32) HK5
    · rw [if_neg c12] at HF
      obtain ⟨x9, hx10, HF⟩ := q_bind HF
      refine q_cll (m' := 231) (av := [.inr (.inr (30, 7, 0)), .inl a2]) (st' := [.inr (.inr (30, 7, 0))]) (pc' := 27) (loc' := [some (.inr (.inr (30, 7, 0))), some (.inl a1), some (.inl a2), some (.inl a3), none]) (h' := h) 3 (fun _ _ => rfl) (eMo_isRow (by omega) hx10) ?_
      refine q_br (P := ¬ x9 = 0) (pcT := 34) (pcF := 30) (loc' := [some (.inr (.inr (30, 7, 0))), some (.inl a1), some (.inl a2), some (.inl a3), none]) (stk' := [.inr (.inr (30, 7, 0))]) (h' := h) 1 (fun _ _ => rfl) (fun c11 => ?_) (fun c11 => ?_)
      · rw [if_pos c11] at HF
        refine q_blk (pc' := 35) (loc' := [some (.inr (.inr (30, 7, 0))), some (.inl a1), some (.inl a2), some (.inl a3), none]) (stk' := [.inl (0 : Int32), .inr (.inr (30, 7, 0))]) (h' := h) 1 (fun _ _ => rfl) ?_
        have hz := Option.some.inj HF
        subst hz
        exact hP6 (0 : Int32) HK5
      · rw [if_neg c11] at HF
        refine q_blk (pc' := 35) (loc' := [some (.inr (.inr (30, 7, 0))), some (.inl a1), some (.inl a2), some (.inl a3), none]) (stk' := [.inl (2 : Int32), .inr (.inr (30, 7, 0))]) (h' := h) 2 (fun _ _ => rfl) ?_
        have hz := Option.some.inj HF
        subst hz
        exact hP6 (2 : Int32) HK5
  · rw [if_neg c13] at HF
    refine q_blk (pc' := 35) (loc' := [some (.inr (.inr (30, 7, 0))), some (.inl a1), some (.inl a2), some (.inl a3), none]) (stk' := [.inl (1 : Int32), .inr (.inr (30, 7, 0))]) (h' := h) 2 (fun _ _ => rfl) ?_
    have hz := Option.some.inj HF
    subst hz
    exact hP6 (1 : Int32) HK5
def Mo_versions (a1 : Int32) (h : q_H) : Option (Int32 × q_H) :=
  (Mo_isRow a1 h).bind fun x1 => Option.bind (α := Int32) (if x1 = 0 then (some ((2 : Int32))) else (some ((0 : Int32)))) (fun p8 => (Mo_is p8 h).bind fun x9 => if x9.1 = 0 then (some (((-1 : Int32), x9.2))) else ((Mo_versionsOf a1 x9.2).bind fun x11 => some ((x11, x9.2))))
set_option maxRecDepth 100000 in
set_option maxHeartbeats 4000000 in
theorem eMo_versions {d : Nat} (hd : 5 ≤ d) {a1 : Int32} {h : q_H} {r : (Int32 × q_H)} (HF : Mo_versions a1 h = some r) : q_T d 277 [.inr (.inr (30, 7, 0)), .inl a1] h (some (.inl r.1), r.2) := by
  obtain ⟨d, rfl⟩ : ∃ d', d = d' + 1 := ⟨d - 1, by omega⟩
  refine q_ent q_K277 rfl rfl rfl ?_
  unfold Mo_versions at HF
  obtain ⟨x1, hx2, HF⟩ := q_bind HF
  refine q_cll (m' := 231) (av := [.inr (.inr (30, 7, 0)), .inl a1]) (st' := [.inr (.inr (30, 7, 0))]) (pc' := 6) (loc' := [some (.inr (.inr (30, 7, 0))), some (.inl a1)]) (h' := h) 4 (fun _ _ => rfl) (eMo_isRow (by omega) hx2) ?_
  obtain ⟨z3, HA4, HK5⟩ := q_bind HF
  have hP6 : ∀ p8 : Int32, ((Mo_is p8 h).bind fun x9 => if x9.1 = 0 then (some (((-1 : Int32), x9.2))) else ((Mo_versionsOf a1 x9.2).bind fun x11 => some ((x11, x9.2))) : Option (Int32 × q_H)) = some r → q_E d q_K277 14 [some (.inr (.inr (30, 7, 0))), some (.inl a1)] [.inl p8, .inr (.inr (30, 7, 0))] h (some (.inl r.1), r.2) := by
    intro p8 HF
    obtain ⟨x9, hx10, HF⟩ := q_bind HF
    refine q_cll (m' := 183) (av := [.inr (.inr (30, 7, 0)), .inl p8]) (st' := []) (pc' := 17) (loc' := [some (.inr (.inr (30, 7, 0))), some (.inl a1)]) (h' := h) 1 (fun _ _ => rfl) (eMo_is (by omega) hx10) ?_
    refine q_br (P := x9.1 = 0) (pcT := 28) (pcF := 20) (loc' := [some (.inr (.inr (30, 7, 0))), some (.inl a1)]) (stk' := []) (h' := x9.2) 1 (fun _ _ => rfl) (fun c13 => ?_) (fun c13 => ?_)
    · rw [if_pos c13] at HF
      have hz := Option.some.inj HF
      subst hz
      exact q_rtn 2 (fun _ _ => rfl)
    · rw [if_neg c13] at HF
      obtain ⟨x11, hx12, HF⟩ := q_bind HF
      refine q_cll (m' := 234) (av := [.inr (.inr (30, 7, 0)), .inl a1]) (st' := []) (pc' := 25) (loc' := [some (.inr (.inr (30, 7, 0))), some (.inl a1)]) (h' := x9.2) 3 (fun _ _ => rfl) (eMo_versionsOf (by omega) hx12) ?_
      have hz := Option.some.inj HF
      subst hz
      exact q_rtn 2 (fun _ _ => rfl)
  replace HF := HA4
  refine q_br (P := x1 = 0) (pcT := 13) (pcF := 9) (loc' := [some (.inr (.inr (30, 7, 0))), some (.inl a1)]) (stk' := [.inr (.inr (30, 7, 0))]) (h' := h) 1 (fun _ _ => rfl) (fun c7 => ?_) (fun c7 => ?_)
  · rw [if_pos c7] at HF
    refine q_blk (pc' := 14) (loc' := [some (.inr (.inr (30, 7, 0))), some (.inl a1)]) (stk' := [.inl (2 : Int32), .inr (.inr (30, 7, 0))]) (h' := h) 1 (fun _ _ => rfl) ?_
    have hz := Option.some.inj HF
    subst hz
    exact hP6 (2 : Int32) HK5
  · rw [if_neg c7] at HF
    refine q_blk (pc' := 14) (loc' := [some (.inr (.inr (30, 7, 0))), some (.inl a1)]) (stk' := [.inl (0 : Int32), .inr (.inr (30, 7, 0))]) (h' := h) 2 (fun _ _ => rfl) ?_
    have hz := Option.some.inj HF
    subst hz
    exact hP6 (0 : Int32) HK5
def Mo_trail (a1 : Int32) (a2 : Int32) (a3 : Int32) (h : q_H) : Option (Int32 × q_H) :=
  Option.bind (α := Int32) (if a2 < 0 then (some ((1 : Int32))) else ((Mo_isIn a3 (0 : Int32) (1 : Int32) h).bind fun x5 => if ¬ x5 = 0 then ((Mo_isRow a1 h).bind fun x7 => if ¬ x7 = 0 then (some ((0 : Int32))) else (some ((2 : Int32)))) else (some ((1 : Int32))))) (fun p12 => (Mo_is p12 h).bind fun x13 => if ¬ x13.1 = 0 then ((Mo_madeAs a1 a2 x13.2).bind fun x15 => if 0 ≤ x15 then (if ¬ a3 = 0 then (some (((x15 - x15 / (10 : Int32) * (10 : Int32)), x13.2))) else (some (((x15 / (10 : Int32)), x13.2)))) else ((Mo_refuse (5 : Int32) x13.2).bind fun x18 => some ((x18.1, x18.2)))) else (some (((-1 : Int32), x13.2))))
set_option maxRecDepth 100000 in
set_option maxHeartbeats 4000000 in
theorem eMo_trail {d : Nat} (hd : 5 ≤ d) {a1 : Int32} {a2 : Int32} {a3 : Int32} {h : q_H} {r : (Int32 × q_H)} (HF : Mo_trail a1 a2 a3 h = some r) : q_T d 279 [.inr (.inr (30, 7, 0)), .inl a1, .inl a2, .inl a3] h (some (.inl r.1), r.2) := by
  obtain ⟨d, rfl⟩ : ∃ d', d = d' + 1 := ⟨d - 1, by omega⟩
  refine q_ent q_K279 rfl rfl rfl ?_
  unfold Mo_trail at HF
  obtain ⟨z1, HA2, HK3⟩ := q_bind HF
  have hP4 : ∀ p12 : Int32, ((Mo_is p12 h).bind fun x13 => if ¬ x13.1 = 0 then ((Mo_madeAs a1 a2 x13.2).bind fun x15 => if 0 ≤ x15 then (if ¬ a3 = 0 then (some (((x15 - x15 / (10 : Int32) * (10 : Int32)), x13.2))) else (some (((x15 / (10 : Int32)), x13.2)))) else ((Mo_refuse (5 : Int32) x13.2).bind fun x18 => some ((x18.1, x18.2)))) else (some (((-1 : Int32), x13.2))) : Option (Int32 × q_H)) = some r → q_E d q_K279 31 [some (.inr (.inr (30, 7, 0))), some (.inl a1), some (.inl a2), some (.inl a3), none] [.inl p12, .inr (.inr (30, 7, 0))] h (some (.inl r.1), r.2) := by
    intro p12 HF
    obtain ⟨x13, hx14, HF⟩ := q_bind HF
    refine q_cll (m' := 183) (av := [.inr (.inr (30, 7, 0)), .inl p12]) (st' := []) (pc' := 34) (loc' := [some (.inr (.inr (30, 7, 0))), some (.inl a1), some (.inl a2), some (.inl a3), none]) (h' := h) 1 (fun _ _ => rfl) (eMo_is (by omega) hx14) ?_
    refine q_br (P := ¬ x13.1 = 0) (pcT := 39) (pcF := 37) (loc' := [some (.inr (.inr (30, 7, 0))), some (.inl a1), some (.inl a2), some (.inl a3), none]) (stk' := []) (h' := x13.2) 1 (fun _ _ => rfl) (fun c21 => ?_) (fun c21 => ?_)
    · rw [if_pos c21] at HF
      obtain ⟨x15, hx16, HF⟩ := q_bind HF
      refine q_cll (m' := 278) (av := [.inr (.inr (30, 7, 0)), .inl a1, .inl a2]) (st' := []) (pc' := 45) (loc' := [some (.inr (.inr (30, 7, 0))), some (.inl a1), some (.inl a2), some (.inl a3), none]) (h' := x13.2) 4 (fun _ _ => rfl) (eMo_madeAs (by omega) hx16) ?_
      refine q_br (P := 0 ≤ x15) (pcT := 60) (pcF := 52) (loc' := [some (.inr (.inr (30, 7, 0))), some (.inl a1), some (.inl a2), some (.inl a3), some (.inl x15)]) (stk' := []) (h' := x13.2) 3 (fun _ _ => rfl) (fun c20 => ?_) (fun c20 => ?_)
      · rw [if_pos c20] at HF
        refine q_br (P := ¬ a3 = 0) (pcT := 72) (pcF := 64) (loc' := [some (.inr (.inr (30, 7, 0))), some (.inl a1), some (.inl a2), some (.inl a3), some (.inl x15)]) (stk' := []) (h' := x13.2) 2 (fun _ _ => rfl) (fun c17 => ?_) (fun c17 => ?_)
        · rw [if_pos c17] at HF
          have hz := Option.some.inj HF
          subst hz
          exact q_rtn 4 (fun _ _ => rfl)
        · rw [if_neg c17] at HF
          have hz := Option.some.inj HF
          subst hz
          exact q_rtn 5 (fun _ _ => rfl)
      · rw [if_neg c20] at HF
        obtain ⟨x18, hx19, HF⟩ := q_bind HF
        refine q_cll (m' := 182) (av := [.inr (.inr (30, 7, 0)), .inl (5 : Int32)]) (st' := []) (pc' := 57) (loc' := [some (.inr (.inr (30, 7, 0))), some (.inl a1), some (.inl a2), some (.inl a3), some (.inl x15)]) (h' := x13.2) 3 (fun _ _ => rfl) (eMo_refuse (by omega) hx19) ?_
        have hz := Option.some.inj HF
        subst hz
        exact q_rtn 2 (fun _ _ => rfl)
    · rw [if_neg c21] at HF
      have hz := Option.some.inj HF
      subst hz
      exact q_rtn 2 (fun _ _ => rfl)
  replace HF := HA2
  refine q_br (P := a2 < 0) (pcT := 14) (pcF := 5) (loc' := [some (.inr (.inr (30, 7, 0))), some (.inl a1), some (.inl a2), some (.inl a3), none]) (stk' := [.inr (.inr (30, 7, 0))]) (h' := h) 3 (fun _ _ => rfl) (fun c11 => ?_) (fun c11 => ?_)
  · rw [if_pos c11] at HF
    refine q_blk (pc' := 31) (loc' := [some (.inr (.inr (30, 7, 0))), some (.inl a1), some (.inl a2), some (.inl a3), none]) (stk' := [.inl (1 : Int32), .inr (.inr (30, 7, 0))]) (h' := h) 2 (fun _ _ => rfl) ?_
    have hz := Option.some.inj HF
    subst hz
    exact hP4 (1 : Int32) HK3
  · rw [if_neg c11] at HF
    obtain ⟨x5, hx6, HF⟩ := q_bind HF
    refine q_cll (m' := 184) (av := [.inl a3, .inl (0 : Int32), .inl (1 : Int32)]) (st' := [.inr (.inr (30, 7, 0))]) (pc' := 11) (loc' := [some (.inr (.inr (30, 7, 0))), some (.inl a1), some (.inl a2), some (.inl a3), none]) (h' := h) 4 (fun _ _ => rfl) (eMo_isIn (by omega) hx6) ?_
    refine q_br (P := ¬ x5 = 0) (pcT := 18) (pcF := 14) (loc' := [some (.inr (.inr (30, 7, 0))), some (.inl a1), some (.inl a2), some (.inl a3), none]) (stk' := [.inr (.inr (30, 7, 0))]) (h' := h) 1 (fun _ _ => rfl) (fun c10 => ?_) (fun c10 => ?_)
    · rw [if_pos c10] at HF
      obtain ⟨x7, hx8, HF⟩ := q_bind HF
      refine q_cll (m' := 231) (av := [.inr (.inr (30, 7, 0)), .inl a1]) (st' := [.inr (.inr (30, 7, 0))]) (pc' := 23) (loc' := [some (.inr (.inr (30, 7, 0))), some (.inl a1), some (.inl a2), some (.inl a3), none]) (h' := h) 3 (fun _ _ => rfl) (eMo_isRow (by omega) hx8) ?_
      refine q_br (P := ¬ x7 = 0) (pcT := 30) (pcF := 26) (loc' := [some (.inr (.inr (30, 7, 0))), some (.inl a1), some (.inl a2), some (.inl a3), none]) (stk' := [.inr (.inr (30, 7, 0))]) (h' := h) 1 (fun _ _ => rfl) (fun c9 => ?_) (fun c9 => ?_)
      · rw [if_pos c9] at HF
        refine q_blk (pc' := 31) (loc' := [some (.inr (.inr (30, 7, 0))), some (.inl a1), some (.inl a2), some (.inl a3), none]) (stk' := [.inl (0 : Int32), .inr (.inr (30, 7, 0))]) (h' := h) 1 (fun _ _ => rfl) ?_
        have hz := Option.some.inj HF
        subst hz
        exact hP4 (0 : Int32) HK3
      · rw [if_neg c9] at HF
        refine q_blk (pc' := 31) (loc' := [some (.inr (.inr (30, 7, 0))), some (.inl a1), some (.inl a2), some (.inl a3), none]) (stk' := [.inl (2 : Int32), .inr (.inr (30, 7, 0))]) (h' := h) 2 (fun _ _ => rfl) ?_
        have hz := Option.some.inj HF
        subst hz
        exact hP4 (2 : Int32) HK3
    · rw [if_neg c10] at HF
      refine q_blk (pc' := 31) (loc' := [some (.inr (.inr (30, 7, 0))), some (.inl a1), some (.inl a2), some (.inl a3), none]) (stk' := [.inl (1 : Int32), .inr (.inr (30, 7, 0))]) (h' := h) 2 (fun _ _ => rfl) ?_
      have hz := Option.some.inj HF
      subst hz
      exact hP4 (1 : Int32) HK3
def Mo_enderFor (a1 : Int32) (a2 : Int32) (h : q_H) : Option (Int32 × q_H) :=
  (Mo_isTxn a1 (q_si (q_si h 30 7 7 0 (0 : Int32)) 30 6 7 0 (0 : Int32))).bind fun x1 => if x1 = 0 then ((Mo_refuse (2 : Int32) (q_si (q_si h 30 7 7 0 (0 : Int32)) 30 6 7 0 (0 : Int32))).bind fun x3 => some ((x3.1, x3.2))) else ((Mo_isRow a2 (q_si (q_si h 30 7 7 0 (0 : Int32)) 30 6 7 0 (0 : Int32))).bind fun x5 => if ¬ x5 = 0 then ((Mo_isOpen a1 (q_si (q_si h 30 7 7 0 (0 : Int32)) 30 6 7 0 (0 : Int32))).bind fun x7 => if ¬ x7 = 0 then ((Mo_isWaiting a1 (q_si (q_si h 30 7 7 0 (0 : Int32)) 30 6 7 0 (0 : Int32))).bind fun x9 => if x9 = 0 then ((Mo_seenOf a1 a2 (q_si (q_si h 30 7 7 0 (0 : Int32)) 30 6 7 0 (0 : Int32))).bind fun x11 => if 0 ≤ x11 then ((Mo_enderOf x11 (q_si (q_si h 30 7 7 0 (0 : Int32)) 30 6 7 0 (0 : Int32))).bind fun x13 => if x13 < 0 then ((Mo_refuse (5 : Int32) (q_si (q_si h 30 7 7 0 (0 : Int32)) 30 6 7 0 (0 : Int32))).bind fun x15 => some ((x15.1, x15.2))) else ((Mo_isOpen x13 (q_si (q_si h 30 7 7 0 (0 : Int32)) 30 6 7 0 (0 : Int32))).bind fun x17 => if x17 = 0 then ((Mo_refuse (5 : Int32) (q_si (q_si h 30 7 7 0 (0 : Int32)) 30 6 7 0 (0 : Int32))).bind fun x19 => some ((x19.1, x19.2))) else (if ¬ x13 = a1 then (some ((x13, (q_si (q_si h 30 7 7 0 (0 : Int32)) 30 6 7 0 (0 : Int32))))) else ((Mo_refuse (5 : Int32) (q_si (q_si h 30 7 7 0 (0 : Int32)) 30 6 7 0 (0 : Int32))).bind fun x21 => some ((x21.1, x21.2)))))) else ((Mo_refuse (6 : Int32) (q_si (q_si h 30 7 7 0 (0 : Int32)) 30 6 7 0 (0 : Int32))).bind fun x26 => some ((x26.1, x26.2)))) else ((Mo_refuse (11 : Int32) (q_si (q_si h 30 7 7 0 (0 : Int32)) 30 6 7 0 (0 : Int32))).bind fun x29 => some ((x29.1, x29.2)))) else ((Mo_refuse (4 : Int32) (q_si (q_si h 30 7 7 0 (0 : Int32)) 30 6 7 0 (0 : Int32))).bind fun x32 => some ((x32.1, x32.2)))) else ((Mo_refuse (2 : Int32) (q_si (q_si h 30 7 7 0 (0 : Int32)) 30 6 7 0 (0 : Int32))).bind fun x35 => some ((x35.1, x35.2))))
set_option maxRecDepth 100000 in
set_option maxHeartbeats 4000000 in
theorem eMo_enderFor {d : Nat} (hd : 5 ≤ d) {a1 : Int32} {a2 : Int32} {h : q_H} {r : (Int32 × q_H)} (HF : Mo_enderFor a1 a2 h = some r) : q_T d 297 [.inr (.inr (30, 7, 0)), .inl a1, .inl a2] h (some (.inl r.1), r.2) := by
  obtain ⟨d, rfl⟩ : ∃ d', d = d' + 1 := ⟨d - 1, by omega⟩
  refine q_ent q_K297 rfl rfl rfl ?_
  unfold Mo_enderFor at HF
  obtain ⟨x1, hx2, HF⟩ := q_bind HF
  refine q_cll (m' := 198) (av := [.inr (.inr (30, 7, 0)), .inl a1]) (st' := []) (pc' := 15) (loc' := [some (.inr (.inr (30, 7, 0))), some (.inl a1), some (.inl a2), none, none]) (h' := (q_si (q_si h 30 7 7 0 (0 : Int32)) 30 6 7 0 (0 : Int32))) 9 (fun _ _ => rfl) (eMo_isTxn (by omega) hx2) ?_
  refine q_br (P := x1 = 0) (pcT := 26) (pcF := 18) (loc' := [some (.inr (.inr (30, 7, 0))), some (.inl a1), some (.inl a2), none, none]) (stk' := []) (h' := (q_si (q_si h 30 7 7 0 (0 : Int32)) 30 6 7 0 (0 : Int32))) 1 (fun _ _ => rfl) (fun c38 => ?_) (fun c38 => ?_)
  · rw [if_pos c38] at HF
    obtain ⟨x3, hx4, HF⟩ := q_bind HF
    refine q_cll (m' := 182) (av := [.inr (.inr (30, 7, 0)), .inl (2 : Int32)]) (st' := []) (pc' := 31) (loc' := [some (.inr (.inr (30, 7, 0))), some (.inl a1), some (.inl a2), none, none]) (h' := (q_si (q_si h 30 7 7 0 (0 : Int32)) 30 6 7 0 (0 : Int32))) 3 (fun _ _ => rfl) (eMo_refuse (by omega) hx4) ?_
    have hz := Option.some.inj HF
    subst hz
    exact q_rtn 1 (fun _ _ => rfl)
  · rw [if_neg c38] at HF
    obtain ⟨x5, hx6, HF⟩ := q_bind HF
    refine q_cll (m' := 231) (av := [.inr (.inr (30, 7, 0)), .inl a2]) (st' := []) (pc' := 23) (loc' := [some (.inr (.inr (30, 7, 0))), some (.inl a1), some (.inl a2), none, none]) (h' := (q_si (q_si h 30 7 7 0 (0 : Int32)) 30 6 7 0 (0 : Int32))) 3 (fun _ _ => rfl) (eMo_isRow (by omega) hx6) ?_
    refine q_br (P := ¬ x5 = 0) (pcT := 32) (pcF := 26) (loc' := [some (.inr (.inr (30, 7, 0))), some (.inl a1), some (.inl a2), none, none]) (stk' := []) (h' := (q_si (q_si h 30 7 7 0 (0 : Int32)) 30 6 7 0 (0 : Int32))) 1 (fun _ _ => rfl) (fun c37 => ?_) (fun c37 => ?_)
    · rw [if_pos c37] at HF
      obtain ⟨x7, hx8, HF⟩ := q_bind HF
      refine q_cll (m' := 197) (av := [.inr (.inr (30, 7, 0)), .inl a1]) (st' := []) (pc' := 37) (loc' := [some (.inr (.inr (30, 7, 0))), some (.inl a1), some (.inl a2), none, none]) (h' := (q_si (q_si h 30 7 7 0 (0 : Int32)) 30 6 7 0 (0 : Int32))) 3 (fun _ _ => rfl) (eMo_isOpen (by omega) hx8) ?_
      refine q_br (P := ¬ x7 = 0) (pcT := 46) (pcF := 40) (loc' := [some (.inr (.inr (30, 7, 0))), some (.inl a1), some (.inl a2), none, none]) (stk' := []) (h' := (q_si (q_si h 30 7 7 0 (0 : Int32)) 30 6 7 0 (0 : Int32))) 1 (fun _ _ => rfl) (fun c34 => ?_) (fun c34 => ?_)
      · rw [if_pos c34] at HF
        obtain ⟨x9, hx10, HF⟩ := q_bind HF
        refine q_cll (m' := 201) (av := [.inr (.inr (30, 7, 0)), .inl a1]) (st' := []) (pc' := 51) (loc' := [some (.inr (.inr (30, 7, 0))), some (.inl a1), some (.inl a2), none, none]) (h' := (q_si (q_si h 30 7 7 0 (0 : Int32)) 30 6 7 0 (0 : Int32))) 3 (fun _ _ => rfl) (eMo_isWaiting (by omega) hx10) ?_
        refine q_br (P := x9 = 0) (pcT := 61) (pcF := 54) (loc' := [some (.inr (.inr (30, 7, 0))), some (.inl a1), some (.inl a2), none, none]) (stk' := []) (h' := (q_si (q_si h 30 7 7 0 (0 : Int32)) 30 6 7 0 (0 : Int32))) 1 (fun _ _ => rfl) (fun c31 => ?_) (fun c31 => ?_)
        · rw [if_pos c31] at HF
          obtain ⟨x11, hx12, HF⟩ := q_bind HF
          refine q_cll (m' := 225) (av := [.inr (.inr (30, 7, 0)), .inl a1, .inl a2]) (st' := []) (pc' := 67) (loc' := [some (.inr (.inr (30, 7, 0))), some (.inl a1), some (.inl a2), none, none]) (h' := (q_si (q_si h 30 7 7 0 (0 : Int32)) 30 6 7 0 (0 : Int32))) 4 (fun _ _ => rfl) (eMo_seenOf (by omega) hx12) ?_
          refine q_br (P := 0 ≤ x11) (pcT := 79) (pcF := 72) (loc' := [some (.inr (.inr (30, 7, 0))), some (.inl a1), some (.inl a2), some (.inl x11), none]) (stk' := []) (h' := (q_si (q_si h 30 7 7 0 (0 : Int32)) 30 6 7 0 (0 : Int32))) 3 (fun _ _ => rfl) (fun c28 => ?_) (fun c28 => ?_)
          · rw [if_pos c28] at HF
            obtain ⟨x13, hx14, HF⟩ := q_bind HF
            refine q_cll (m' := 206) (av := [.inr (.inr (30, 7, 0)), .inl x11]) (st' := []) (pc' := 84) (loc' := [some (.inr (.inr (30, 7, 0))), some (.inl a1), some (.inl a2), some (.inl x11), none]) (h' := (q_si (q_si h 30 7 7 0 (0 : Int32)) 30 6 7 0 (0 : Int32))) 3 (fun _ _ => rfl) (eMo_enderOf (by omega) hx14) ?_
            refine q_br (P := x13 < 0) (pcT := 106) (pcF := 91) (loc' := [some (.inr (.inr (30, 7, 0))), some (.inl a1), some (.inl a2), some (.inl x11), some (.inl x13)]) (stk' := []) (h' := (q_si (q_si h 30 7 7 0 (0 : Int32)) 30 6 7 0 (0 : Int32))) 3 (fun _ _ => rfl) (fun c25 => ?_) (fun c25 => ?_)
            · rw [if_pos c25] at HF
              obtain ⟨x15, hx16, HF⟩ := q_bind HF
              refine q_cll (m' := 182) (av := [.inr (.inr (30, 7, 0)), .inl (5 : Int32)]) (st' := []) (pc' := 111) (loc' := [some (.inr (.inr (30, 7, 0))), some (.inl a1), some (.inl a2), some (.inl x11), some (.inl x13)]) (h' := (q_si (q_si h 30 7 7 0 (0 : Int32)) 30 6 7 0 (0 : Int32))) 3 (fun _ _ => rfl) (eMo_refuse (by omega) hx16) ?_
              have hz := Option.some.inj HF
              subst hz
              exact q_rtn 2 (fun _ _ => rfl)
            · rw [if_neg c25] at HF
              obtain ⟨x17, hx18, HF⟩ := q_bind HF
              refine q_cll (m' := 197) (av := [.inr (.inr (30, 7, 0)), .inl x13]) (st' := []) (pc' := 97) (loc' := [some (.inr (.inr (30, 7, 0))), some (.inl a1), some (.inl a2), some (.inl x11), some (.inl x13)]) (h' := (q_si (q_si h 30 7 7 0 (0 : Int32)) 30 6 7 0 (0 : Int32))) 3 (fun _ _ => rfl) (eMo_isOpen (by omega) hx18) ?_
              refine q_br (P := x17 = 0) (pcT := 106) (pcF := 100) (loc' := [some (.inr (.inr (30, 7, 0))), some (.inl a1), some (.inl a2), some (.inl x11), some (.inl x13)]) (stk' := []) (h' := (q_si (q_si h 30 7 7 0 (0 : Int32)) 30 6 7 0 (0 : Int32))) 1 (fun _ _ => rfl) (fun c24 => ?_) (fun c24 => ?_)
              · rw [if_pos c24] at HF
                obtain ⟨x19, hx20, HF⟩ := q_bind HF
                refine q_cll (m' := 182) (av := [.inr (.inr (30, 7, 0)), .inl (5 : Int32)]) (st' := []) (pc' := 111) (loc' := [some (.inr (.inr (30, 7, 0))), some (.inl a1), some (.inl a2), some (.inl x11), some (.inl x13)]) (h' := (q_si (q_si h 30 7 7 0 (0 : Int32)) 30 6 7 0 (0 : Int32))) 3 (fun _ _ => rfl) (eMo_refuse (by omega) hx20) ?_
                have hz := Option.some.inj HF
                subst hz
                exact q_rtn 2 (fun _ _ => rfl)
              · rw [if_neg c24] at HF
                refine q_br (P := ¬ x13 = a1) (pcT := 114) (pcF := 106) (loc' := [some (.inr (.inr (30, 7, 0))), some (.inl a1), some (.inl a2), some (.inl x11), some (.inl x13)]) (stk' := []) (h' := (q_si (q_si h 30 7 7 0 (0 : Int32)) 30 6 7 0 (0 : Int32))) 3 (fun _ _ => rfl) (fun c23 => ?_) (fun c23 => ?_)
                · rw [if_pos c23] at HF
                  have hz := Option.some.inj HF
                  subst hz
                  exact q_rtn 2 (fun _ _ => rfl)
                · rw [if_neg c23] at HF
                  obtain ⟨x21, hx22, HF⟩ := q_bind HF
                  refine q_cll (m' := 182) (av := [.inr (.inr (30, 7, 0)), .inl (5 : Int32)]) (st' := []) (pc' := 111) (loc' := [some (.inr (.inr (30, 7, 0))), some (.inl a1), some (.inl a2), some (.inl x11), some (.inl x13)]) (h' := (q_si (q_si h 30 7 7 0 (0 : Int32)) 30 6 7 0 (0 : Int32))) 3 (fun _ _ => rfl) (eMo_refuse (by omega) hx22) ?_
                  have hz := Option.some.inj HF
                  subst hz
                  exact q_rtn 2 (fun _ _ => rfl)
          · rw [if_neg c28] at HF
            obtain ⟨x26, hx27, HF⟩ := q_bind HF
            refine q_cll (m' := 182) (av := [.inr (.inr (30, 7, 0)), .inl (6 : Int32)]) (st' := []) (pc' := 78) (loc' := [some (.inr (.inr (30, 7, 0))), some (.inl a1), some (.inl a2), some (.inl x11), none]) (h' := (q_si (q_si h 30 7 7 0 (0 : Int32)) 30 6 7 0 (0 : Int32))) 3 (fun _ _ => rfl) (eMo_refuse (by omega) hx27) ?_
            have hz := Option.some.inj HF
            subst hz
            exact q_rtn 1 (fun _ _ => rfl)
        · rw [if_neg c31] at HF
          obtain ⟨x29, hx30, HF⟩ := q_bind HF
          refine q_cll (m' := 182) (av := [.inr (.inr (30, 7, 0)), .inl (11 : Int32)]) (st' := []) (pc' := 60) (loc' := [some (.inr (.inr (30, 7, 0))), some (.inl a1), some (.inl a2), none, none]) (h' := (q_si (q_si h 30 7 7 0 (0 : Int32)) 30 6 7 0 (0 : Int32))) 3 (fun _ _ => rfl) (eMo_refuse (by omega) hx30) ?_
          have hz := Option.some.inj HF
          subst hz
          exact q_rtn 1 (fun _ _ => rfl)
      · rw [if_neg c34] at HF
        obtain ⟨x32, hx33, HF⟩ := q_bind HF
        refine q_cll (m' := 182) (av := [.inr (.inr (30, 7, 0)), .inl (4 : Int32)]) (st' := []) (pc' := 45) (loc' := [some (.inr (.inr (30, 7, 0))), some (.inl a1), some (.inl a2), none, none]) (h' := (q_si (q_si h 30 7 7 0 (0 : Int32)) 30 6 7 0 (0 : Int32))) 3 (fun _ _ => rfl) (eMo_refuse (by omega) hx33) ?_
        have hz := Option.some.inj HF
        subst hz
        exact q_rtn 1 (fun _ _ => rfl)
    · rw [if_neg c37] at HF
      obtain ⟨x35, hx36, HF⟩ := q_bind HF
      refine q_cll (m' := 182) (av := [.inr (.inr (30, 7, 0)), .inl (2 : Int32)]) (st' := []) (pc' := 31) (loc' := [some (.inr (.inr (30, 7, 0))), some (.inl a1), some (.inl a2), none, none]) (h' := (q_si (q_si h 30 7 7 0 (0 : Int32)) 30 6 7 0 (0 : Int32))) 3 (fun _ _ => rfl) (eMo_refuse (by omega) hx36) ?_
      have hz := Option.some.inj HF
      subst hz
      exact q_rtn 1 (fun _ _ => rfl)
def Mo_holder  (h : q_H) : Option (Int32 × q_H) :=
  (Mo_is (0 : Int32) h).bind fun x1 => (q_lp (fun s3 : Int32 => (if (x1.2.1 31 0 7 4) ≤ s3 then ((Mo_refuse (5 : Int32) x1.2).bind fun x11 => some (.inr ((x11.1, x11.2)))) else ((Mo_isOpen s3 x1.2).bind fun x13 => Option.bind (α := (Unit) ⊕ ((Int32) ⊕ (Int32 × q_H))) (if x13 = 0 then (some (.inl ())) else ((Mo_lowOf s3 x1.2).bind fun x19 => (Mo_horizon x1.2).bind fun x21 => if ¬ x19 = x21 then (some (.inl ())) else (some (.inr (.inr ((s3, x1.2))))))) (fun z15 => match z15 with | .inl p25 => some (.inl (s3 + (1 : Int32))) | .inr z15 => some z15)) : Option ((Int32) ⊕ (Int32 × q_H)))) q_fu ((1 : Int32) : Int32)).bind fun z10 => some z10
set_option maxRecDepth 100000 in
set_option maxHeartbeats 4000000 in
theorem eMo_holder {d : Nat} (hd : 5 ≤ d)  {h : q_H} {r : (Int32 × q_H)} (HF : Mo_holder  h = some r) : q_T d 302 [.inr (.inr (30, 7, 0))] h (some (.inl r.1), r.2) := by
  obtain ⟨d, rfl⟩ : ∃ d', d = d' + 1 := ⟨d - 1, by omega⟩
  refine q_ent q_K302 rfl rfl rfl ?_
  unfold Mo_holder at HF
  obtain ⟨x1, hx2, HF⟩ := q_bind HF
  refine q_cll (m' := 183) (av := [.inr (.inr (30, 7, 0)), .inl (0 : Int32)]) (st' := []) (pc' := 5) (loc' := [some (.inr (.inr (30, 7, 0))), none]) (h' := h) 3 (fun _ _ => rfl) (eMo_is (by omega) hx2) ?_
  refine q_blk (pc' := 8) (loc' := [some (.inr (.inr (30, 7, 0))), some (.inl (1 : Int32))]) (stk' := []) (h' := x1.2) 3 (fun _ _ => rfl) ?_
  obtain ⟨r8, hl9, HK6⟩ := q_bind HF
  refine q_lpE (E := fun s3 => q_E d q_K302 8 [some (.inr (.inr (30, 7, 0))), some (.inl s3)] [] x1.2 (some (.inl r.1), r.2)) r8 (fun s3 z10 HF H14 H25 => ?_) _ _ hl9
  refine q_br (P := (x1.2.1 31 0 7 4) ≤ s3) (pcT := 46) (pcF := 18) (loc' := [some (.inr (.inr (30, 7, 0))), some (.inl s3)]) (stk' := []) (h' := x1.2) 6 (fun _ _ => rfl) (fun c27 => ?_) (fun c27 => ?_)
  · rw [if_pos c27] at HF
    obtain ⟨x11, hx12, HF⟩ := q_bind HF
    refine q_cll (m' := 182) (av := [.inr (.inr (30, 7, 0)), .inl (5 : Int32)]) (st' := []) (pc' := 51) (loc' := [some (.inr (.inr (30, 7, 0))), some (.inl s3)]) (h' := x1.2) 3 (fun _ _ => rfl) (eMo_refuse (by omega) hx12) ?_
    have hz := Option.some.inj HF
    subst hz
    replace HF := HK6
    rw [← H25 _ rfl] at HF
    have hz := Option.some.inj HF
    subst hz
    exact q_rtn 1 (fun _ _ => rfl)
  · rw [if_neg c27] at HF
    obtain ⟨x13, hx14, HF⟩ := q_bind HF
    refine q_cll (m' := 197) (av := [.inr (.inr (30, 7, 0)), .inl s3]) (st' := []) (pc' := 23) (loc' := [some (.inr (.inr (30, 7, 0))), some (.inl s3)]) (h' := x1.2) 3 (fun _ _ => rfl) (eMo_isOpen (by omega) hx14) ?_
    obtain ⟨z15, HA16, HK17⟩ := q_bind HF
    have hP18 : ∀ p25 : Unit, (some (.inl (s3 + (1 : Int32))) : Option ((Int32) ⊕ (Int32 × q_H))) = some z10 → q_E d q_K302 40 [some (.inr (.inr (30, 7, 0))), some (.inl s3)] [] x1.2 (some (.inl r.1), r.2) := by
      intro p25 HF
      refine q_blk (pc' := 8) (loc' := [some (.inr (.inr (30, 7, 0))), some (.inl (s3 + (1 : Int32)))]) (stk' := []) (h' := x1.2) 2 (fun _ _ => rfl) ?_
      have hz := Option.some.inj HF
      subst hz
      exact H14 (s3 + (1 : Int32)) rfl
    replace HF := HA16
    refine q_br (P := x13 = 0) (pcT := 40) (pcF := 26) (loc' := [some (.inr (.inr (30, 7, 0))), some (.inl s3)]) (stk' := []) (h' := x1.2) 1 (fun _ _ => rfl) (fun c24 => ?_) (fun c24 => ?_)
    · rw [if_pos c24] at HF
      have hz := Option.some.inj HF
      subst hz
      exact hP18 () HK17
    · rw [if_neg c24] at HF
      obtain ⟨x19, hx20, HF⟩ := q_bind HF
      refine q_cll (m' := 203) (av := [.inr (.inr (30, 7, 0)), .inl s3]) (st' := []) (pc' := 31) (loc' := [some (.inr (.inr (30, 7, 0))), some (.inl s3)]) (h' := x1.2) 3 (fun _ _ => rfl) (eMo_lowOf (by omega) hx20) ?_
      obtain ⟨x21, hx22, HF⟩ := q_bind HF
      refine q_cll (m' := 205) (av := [.inr (.inr (30, 7, 0))]) (st' := [.inl x19]) (pc' := 35) (loc' := [some (.inr (.inr (30, 7, 0))), some (.inl s3)]) (h' := x1.2) 2 (fun _ _ => rfl) (eMo_horizon (by omega) hx22) ?_
      refine q_br (P := ¬ x19 = x21) (pcT := 40) (pcF := 38) (loc' := [some (.inr (.inr (30, 7, 0))), some (.inl s3)]) (stk' := []) (h' := x1.2) 1 (fun _ _ => rfl) (fun c23 => ?_) (fun c23 => ?_)
      · rw [if_pos c23] at HF
        have hz := Option.some.inj HF
        subst hz
        exact hP18 () HK17
      · rw [if_neg c23] at HF
        have hz := Option.some.inj HF
        subst hz
        replace HF := HK17
        have hz := Option.some.inj HF
        subst hz
        replace HF := HK6
        rw [← H25 _ rfl] at HF
        have hz := Option.some.inj HF
        subst hz
        exact q_rtn 2 (fun _ _ => rfl)
def Mo_allDead  (h : q_H) : Option Int32 :=
  (Mo_horizon h).bind fun x1 => (Mo_deadUnits (0 : Int32) (6 : Int32) x1 h).bind fun x3 => some (x3)
set_option maxRecDepth 100000 in
set_option maxHeartbeats 4000000 in
theorem eMo_allDead {d : Nat} (hd : 5 ≤ d)  {h : q_H} {r : Int32} (HF : Mo_allDead  h = some r) : q_T d 303 [.inr (.inr (30, 7, 0))] h (some (.inl r), h) := by
  obtain ⟨d, rfl⟩ : ∃ d', d = d' + 1 := ⟨d - 1, by omega⟩
  refine q_ent q_K303 rfl rfl rfl ?_
  unfold Mo_allDead at HF
  obtain ⟨x1, hx2, HF⟩ := q_bind HF
  refine q_cll (m' := 205) (av := [.inr (.inr (30, 7, 0))]) (st' := [.inl (6 : Int32), .inl (0 : Int32), .inr (.inr (30, 7, 0))]) (pc' := 8) (loc' := [some (.inr (.inr (30, 7, 0)))]) (h' := h) 5 (fun _ _ => rfl) (eMo_horizon (by omega) hx2) ?_
  obtain ⟨x3, hx4, HF⟩ := q_bind HF
  refine q_cll (m' := 266) (av := [.inr (.inr (30, 7, 0)), .inl (0 : Int32), .inl (6 : Int32), .inl x1]) (st' := []) (pc' := 11) (loc' := [some (.inr (.inr (30, 7, 0)))]) (h' := h) 1 (fun _ _ => rfl) (eMo_deadUnits (by omega) hx4) ?_
  have hz := Option.some.inj HF
  subst hz
  exact q_rtn 1 (fun _ _ => rfl)
def Rp_many (a1 : Int32) (h : q_H) : Option (Int32 × q_H) :=
  if a1 = 0 then ((Rp_answer (h.1 1 4 0 0) h).bind fun x1 => some ((x1.1, x1.2))) else (if a1 = 1 then ((Rp_answer (h.1 0 5 0 0) h).bind fun x3 => some ((x3.1, x3.2))) else (if a1 = 2 then ((Rp_answer (h.1 0 6 0 0) h).bind fun x5 => some ((x5.1, x5.2))) else (if a1 = 3 then ((Rp_answer (h.1 0 7 0 0) h).bind fun x7 => some ((x7.1, x7.2))) else (if a1 = 4 then ((Rp_answer (h.1 6 4 0 0) h).bind fun x9 => some ((x9.1, x9.2))) else (if a1 = 5 then ((Rp_answer (h.1 6 5 0 0) h).bind fun x11 => some ((x11.1, x11.2))) else (if a1 = 6 then ((Rp_answer (h.1 11 3 0 0) h).bind fun x13 => some ((x13.1, x13.2))) else (if a1 = 7 then ((St_versionsThatAre 0 a1 h).bind fun x15 => (Rp_answer x15 h).bind fun x17 => some ((x17.1, x17.2))) else (if a1 = 8 then ((St_versionsThatAre 0 a1 h).bind fun x19 => (Rp_answer x19 h).bind fun x21 => some ((x21.1, x21.2))) else (if a1 = 9 then ((St_versionsThatAre 0 a1 h).bind fun x23 => (Rp_answer x23 h).bind fun x25 => some ((x25.1, x25.2))) else (if a1 = 10 then ((St_versionsThatAre 0 a1 h).bind fun x27 => (Rp_answer x27 h).bind fun x29 => some ((x29.1, x29.2))) else (if a1 = 11 then ((St_versionsThatAre 0 a1 h).bind fun x31 => (Rp_answer x31 h).bind fun x33 => some ((x33.1, x33.2))) else (if a1 = 12 then ((Pg_slotsThatAre 0 (3 : Int32) h).bind fun x35 => (Rp_answer x35 h).bind fun x37 => some ((x37.1, x37.2))) else (if a1 = 13 then ((Pg_slotsThatAre 0 (2 : Int32) h).bind fun x39 => (Rp_answer x39 h).bind fun x41 => some ((x41.1, x41.2))) else (if a1 = 14 then ((Rp_answer (h.1 24 5 6 0) h).bind fun x43 => some ((x43.1, x43.2))) else (if a1 = 15 then ((Tn_howManyOpen 0 h).bind fun x45 => (Rp_answer x45 h).bind fun x47 => some ((x47.1, x47.2))) else (if a1 = 16 then ((Tn_howManyWait 0 h).bind fun x49 => (Rp_answer x49 h).bind fun x51 => some ((x51.1, x51.2))) else ((Rp_refuse (1 : Int32) h).bind fun x53 => some ((x53.1, x53.2)))))))))))))))))))
set_option maxRecDepth 100000 in
set_option maxHeartbeats 4000000 in
theorem eRp_many {d : Nat} (hd : 6 ≤ d) {a1 : Int32} {h : q_H} {r : (Int32 × q_H)} (HF : Rp_many a1 h = some r) : q_T d 9 [.inr (.inr (24, 6, 0)), .inl a1] h (some (.inl r.1), r.2) := by
  obtain ⟨d, rfl⟩ : ∃ d', d = d' + 1 := ⟨d - 1, by omega⟩
  refine q_ent q_K9 rfl rfl rfl ?_
  unfold Rp_many at HF
  by_cases c55 : a1 = 0
  · rw [if_pos c55] at HF
    refine q_sw (o1 := 83) (pcx := 1) (pc' := 84) (loc' := [some (.inr (.inr (24, 6, 0))), some (.inl a1)]) (stk' := []) (h' := h) 2 (fun _ _ => rfl) (q_tsI c55 rfl) rfl ?_
    obtain ⟨x1, hx2, HF⟩ := q_bind HF
    refine q_cll (m' := 45) (av := [.inr (.inr (24, 6, 0)), .inl (h.1 1 4 0 0)]) (st' := []) (pc' := 98) (loc' := [some (.inr (.inr (24, 6, 0))), some (.inl a1)]) (h' := h) 6 (fun _ _ => rfl) (eRp_answer (by omega) hx2) ?_
    have hz := Option.some.inj HF
    subst hz
    exact q_rtn 1 (fun _ _ => rfl)
  · rw [if_neg c55] at HF
    by_cases c56 : a1 = 1
    · rw [if_pos c56] at HF
      refine q_sw (o1 := 98) (pcx := 1) (pc' := 99) (loc' := [some (.inr (.inr (24, 6, 0))), some (.inl a1)]) (stk' := []) (h' := h) 2 (fun _ _ => rfl) (q_tsI c56 rfl) rfl ?_
      obtain ⟨x3, hx4, HF⟩ := q_bind HF
      refine q_cll (m' := 45) (av := [.inr (.inr (24, 6, 0)), .inl (h.1 0 5 0 0)]) (st' := []) (pc' := 110) (loc' := [some (.inr (.inr (24, 6, 0))), some (.inl a1)]) (h' := h) 5 (fun _ _ => rfl) (eRp_answer (by omega) hx4) ?_
      have hz := Option.some.inj HF
      subst hz
      exact q_rtn 1 (fun _ _ => rfl)
    · rw [if_neg c56] at HF
      by_cases c57 : a1 = 2
      · rw [if_pos c57] at HF
        refine q_sw (o1 := 110) (pcx := 1) (pc' := 111) (loc' := [some (.inr (.inr (24, 6, 0))), some (.inl a1)]) (stk' := []) (h' := h) 2 (fun _ _ => rfl) (q_tsI c57 rfl) rfl ?_
        obtain ⟨x5, hx6, HF⟩ := q_bind HF
        refine q_cll (m' := 45) (av := [.inr (.inr (24, 6, 0)), .inl (h.1 0 6 0 0)]) (st' := []) (pc' := 122) (loc' := [some (.inr (.inr (24, 6, 0))), some (.inl a1)]) (h' := h) 5 (fun _ _ => rfl) (eRp_answer (by omega) hx6) ?_
        have hz := Option.some.inj HF
        subst hz
        exact q_rtn 1 (fun _ _ => rfl)
      · rw [if_neg c57] at HF
        by_cases c58 : a1 = 3
        · rw [if_pos c58] at HF
          refine q_sw (o1 := 122) (pcx := 1) (pc' := 123) (loc' := [some (.inr (.inr (24, 6, 0))), some (.inl a1)]) (stk' := []) (h' := h) 2 (fun _ _ => rfl) (q_tsI c58 rfl) rfl ?_
          obtain ⟨x7, hx8, HF⟩ := q_bind HF
          refine q_cll (m' := 45) (av := [.inr (.inr (24, 6, 0)), .inl (h.1 0 7 0 0)]) (st' := []) (pc' := 134) (loc' := [some (.inr (.inr (24, 6, 0))), some (.inl a1)]) (h' := h) 5 (fun _ _ => rfl) (eRp_answer (by omega) hx8) ?_
          have hz := Option.some.inj HF
          subst hz
          exact q_rtn 1 (fun _ _ => rfl)
        · rw [if_neg c58] at HF
          by_cases c59 : a1 = 4
          · rw [if_pos c59] at HF
            refine q_sw (o1 := 134) (pcx := 1) (pc' := 135) (loc' := [some (.inr (.inr (24, 6, 0))), some (.inl a1)]) (stk' := []) (h' := h) 2 (fun _ _ => rfl) (q_tsI c59 rfl) rfl ?_
            obtain ⟨x9, hx10, HF⟩ := q_bind HF
            refine q_cll (m' := 45) (av := [.inr (.inr (24, 6, 0)), .inl (h.1 6 4 0 0)]) (st' := []) (pc' := 149) (loc' := [some (.inr (.inr (24, 6, 0))), some (.inl a1)]) (h' := h) 6 (fun _ _ => rfl) (eRp_answer (by omega) hx10) ?_
            have hz := Option.some.inj HF
            subst hz
            exact q_rtn 1 (fun _ _ => rfl)
          · rw [if_neg c59] at HF
            by_cases c60 : a1 = 5
            · rw [if_pos c60] at HF
              refine q_sw (o1 := 149) (pcx := 1) (pc' := 150) (loc' := [some (.inr (.inr (24, 6, 0))), some (.inl a1)]) (stk' := []) (h' := h) 2 (fun _ _ => rfl) (q_tsI c60 rfl) rfl ?_
              obtain ⟨x11, hx12, HF⟩ := q_bind HF
              refine q_cll (m' := 45) (av := [.inr (.inr (24, 6, 0)), .inl (h.1 6 5 0 0)]) (st' := []) (pc' := 164) (loc' := [some (.inr (.inr (24, 6, 0))), some (.inl a1)]) (h' := h) 6 (fun _ _ => rfl) (eRp_answer (by omega) hx12) ?_
              have hz := Option.some.inj HF
              subst hz
              exact q_rtn 1 (fun _ _ => rfl)
            · rw [if_neg c60] at HF
              by_cases c61 : a1 = 6
              · rw [if_pos c61] at HF
                refine q_sw (o1 := 164) (pcx := 1) (pc' := 165) (loc' := [some (.inr (.inr (24, 6, 0))), some (.inl a1)]) (stk' := []) (h' := h) 2 (fun _ _ => rfl) (q_tsI c61 rfl) rfl ?_
                obtain ⟨x13, hx14, HF⟩ := q_bind HF
                refine q_cll (m' := 45) (av := [.inr (.inr (24, 6, 0)), .inl (h.1 11 3 0 0)]) (st' := []) (pc' := 179) (loc' := [some (.inr (.inr (24, 6, 0))), some (.inl a1)]) (h' := h) 6 (fun _ _ => rfl) (eRp_answer (by omega) hx14) ?_
                have hz := Option.some.inj HF
                subst hz
                exact q_rtn 1 (fun _ _ => rfl)
              · rw [if_neg c61] at HF
                by_cases c62 : a1 = 7
                · rw [if_pos c62] at HF
                  refine q_sw (o1 := 179) (pcx := 1) (pc' := 180) (loc' := [some (.inr (.inr (24, 6, 0))), some (.inl a1)]) (stk' := []) (h' := h) 2 (fun _ _ => rfl) (q_tsI c62 rfl) rfl ?_
                  obtain ⟨x15, hx16, HF⟩ := q_bind HF
                  refine q_cll (m' := 148) (av := [.inr (.inr (0, 0, 0)), .inl a1]) (st' := [.inr (.inr (24, 6, 0))]) (pc' := 189) (loc' := [some (.inr (.inr (24, 6, 0))), some (.inl a1)]) (h' := h) 5 (fun _ _ => rfl) (eSt_versionsThatAre (by omega) hx16) ?_
                  obtain ⟨x17, hx18, HF⟩ := q_bind HF
                  refine q_cll (m' := 45) (av := [.inr (.inr (24, 6, 0)), .inl x15]) (st' := []) (pc' := 192) (loc' := [some (.inr (.inr (24, 6, 0))), some (.inl a1)]) (h' := h) 1 (fun _ _ => rfl) (eRp_answer (by omega) hx18) ?_
                  have hz := Option.some.inj HF
                  subst hz
                  exact q_rtn 1 (fun _ _ => rfl)
                · rw [if_neg c62] at HF
                  by_cases c63 : a1 = 8
                  · rw [if_pos c63] at HF
                    refine q_sw (o1 := 179) (pcx := 1) (pc' := 180) (loc' := [some (.inr (.inr (24, 6, 0))), some (.inl a1)]) (stk' := []) (h' := h) 2 (fun _ _ => rfl) (q_tsI c63 rfl) rfl ?_
                    obtain ⟨x19, hx20, HF⟩ := q_bind HF
                    refine q_cll (m' := 148) (av := [.inr (.inr (0, 0, 0)), .inl a1]) (st' := [.inr (.inr (24, 6, 0))]) (pc' := 189) (loc' := [some (.inr (.inr (24, 6, 0))), some (.inl a1)]) (h' := h) 5 (fun _ _ => rfl) (eSt_versionsThatAre (by omega) hx20) ?_
                    obtain ⟨x21, hx22, HF⟩ := q_bind HF
                    refine q_cll (m' := 45) (av := [.inr (.inr (24, 6, 0)), .inl x19]) (st' := []) (pc' := 192) (loc' := [some (.inr (.inr (24, 6, 0))), some (.inl a1)]) (h' := h) 1 (fun _ _ => rfl) (eRp_answer (by omega) hx22) ?_
                    have hz := Option.some.inj HF
                    subst hz
                    exact q_rtn 1 (fun _ _ => rfl)
                  · rw [if_neg c63] at HF
                    by_cases c64 : a1 = 9
                    · rw [if_pos c64] at HF
                      refine q_sw (o1 := 179) (pcx := 1) (pc' := 180) (loc' := [some (.inr (.inr (24, 6, 0))), some (.inl a1)]) (stk' := []) (h' := h) 2 (fun _ _ => rfl) (q_tsI c64 rfl) rfl ?_
                      obtain ⟨x23, hx24, HF⟩ := q_bind HF
                      refine q_cll (m' := 148) (av := [.inr (.inr (0, 0, 0)), .inl a1]) (st' := [.inr (.inr (24, 6, 0))]) (pc' := 189) (loc' := [some (.inr (.inr (24, 6, 0))), some (.inl a1)]) (h' := h) 5 (fun _ _ => rfl) (eSt_versionsThatAre (by omega) hx24) ?_
                      obtain ⟨x25, hx26, HF⟩ := q_bind HF
                      refine q_cll (m' := 45) (av := [.inr (.inr (24, 6, 0)), .inl x23]) (st' := []) (pc' := 192) (loc' := [some (.inr (.inr (24, 6, 0))), some (.inl a1)]) (h' := h) 1 (fun _ _ => rfl) (eRp_answer (by omega) hx26) ?_
                      have hz := Option.some.inj HF
                      subst hz
                      exact q_rtn 1 (fun _ _ => rfl)
                    · rw [if_neg c64] at HF
                      by_cases c65 : a1 = 10
                      · rw [if_pos c65] at HF
                        refine q_sw (o1 := 179) (pcx := 1) (pc' := 180) (loc' := [some (.inr (.inr (24, 6, 0))), some (.inl a1)]) (stk' := []) (h' := h) 2 (fun _ _ => rfl) (q_tsI c65 rfl) rfl ?_
                        obtain ⟨x27, hx28, HF⟩ := q_bind HF
                        refine q_cll (m' := 148) (av := [.inr (.inr (0, 0, 0)), .inl a1]) (st' := [.inr (.inr (24, 6, 0))]) (pc' := 189) (loc' := [some (.inr (.inr (24, 6, 0))), some (.inl a1)]) (h' := h) 5 (fun _ _ => rfl) (eSt_versionsThatAre (by omega) hx28) ?_
                        obtain ⟨x29, hx30, HF⟩ := q_bind HF
                        refine q_cll (m' := 45) (av := [.inr (.inr (24, 6, 0)), .inl x27]) (st' := []) (pc' := 192) (loc' := [some (.inr (.inr (24, 6, 0))), some (.inl a1)]) (h' := h) 1 (fun _ _ => rfl) (eRp_answer (by omega) hx30) ?_
                        have hz := Option.some.inj HF
                        subst hz
                        exact q_rtn 1 (fun _ _ => rfl)
                      · rw [if_neg c65] at HF
                        by_cases c66 : a1 = 11
                        · rw [if_pos c66] at HF
                          refine q_sw (o1 := 179) (pcx := 1) (pc' := 180) (loc' := [some (.inr (.inr (24, 6, 0))), some (.inl a1)]) (stk' := []) (h' := h) 2 (fun _ _ => rfl) (q_tsI c66 rfl) rfl ?_
                          obtain ⟨x31, hx32, HF⟩ := q_bind HF
                          refine q_cll (m' := 148) (av := [.inr (.inr (0, 0, 0)), .inl a1]) (st' := [.inr (.inr (24, 6, 0))]) (pc' := 189) (loc' := [some (.inr (.inr (24, 6, 0))), some (.inl a1)]) (h' := h) 5 (fun _ _ => rfl) (eSt_versionsThatAre (by omega) hx32) ?_
                          obtain ⟨x33, hx34, HF⟩ := q_bind HF
                          refine q_cll (m' := 45) (av := [.inr (.inr (24, 6, 0)), .inl x31]) (st' := []) (pc' := 192) (loc' := [some (.inr (.inr (24, 6, 0))), some (.inl a1)]) (h' := h) 1 (fun _ _ => rfl) (eRp_answer (by omega) hx34) ?_
                          have hz := Option.some.inj HF
                          subst hz
                          exact q_rtn 1 (fun _ _ => rfl)
                        · rw [if_neg c66] at HF
                          by_cases c67 : a1 = 12
                          · rw [if_pos c67] at HF
                            refine q_sw (o1 := 192) (pcx := 1) (pc' := 193) (loc' := [some (.inr (.inr (24, 6, 0))), some (.inl a1)]) (stk' := []) (h' := h) 2 (fun _ _ => rfl) (q_tsI c67 rfl) rfl ?_
                            obtain ⟨x35, hx36, HF⟩ := q_bind HF
                            refine q_cll (m' := 97) (av := [.inr (.inr (1, 0, 0)), .inl (3 : Int32)]) (st' := [.inr (.inr (24, 6, 0))]) (pc' := 205) (loc' := [some (.inr (.inr (24, 6, 0))), some (.inl a1)]) (h' := h) 6 (fun _ _ => rfl) (ePg_slotsThatAre (by omega) hx36) ?_
                            obtain ⟨x37, hx38, HF⟩ := q_bind HF
                            refine q_cll (m' := 45) (av := [.inr (.inr (24, 6, 0)), .inl x35]) (st' := []) (pc' := 208) (loc' := [some (.inr (.inr (24, 6, 0))), some (.inl a1)]) (h' := h) 1 (fun _ _ => rfl) (eRp_answer (by omega) hx38) ?_
                            have hz := Option.some.inj HF
                            subst hz
                            exact q_rtn 1 (fun _ _ => rfl)
                          · rw [if_neg c67] at HF
                            by_cases c68 : a1 = 13
                            · rw [if_pos c68] at HF
                              refine q_sw (o1 := 208) (pcx := 1) (pc' := 209) (loc' := [some (.inr (.inr (24, 6, 0))), some (.inl a1)]) (stk' := []) (h' := h) 2 (fun _ _ => rfl) (q_tsI c68 rfl) rfl ?_
                              obtain ⟨x39, hx40, HF⟩ := q_bind HF
                              refine q_cll (m' := 97) (av := [.inr (.inr (1, 0, 0)), .inl (2 : Int32)]) (st' := [.inr (.inr (24, 6, 0))]) (pc' := 221) (loc' := [some (.inr (.inr (24, 6, 0))), some (.inl a1)]) (h' := h) 6 (fun _ _ => rfl) (ePg_slotsThatAre (by omega) hx40) ?_
                              obtain ⟨x41, hx42, HF⟩ := q_bind HF
                              refine q_cll (m' := 45) (av := [.inr (.inr (24, 6, 0)), .inl x39]) (st' := []) (pc' := 224) (loc' := [some (.inr (.inr (24, 6, 0))), some (.inl a1)]) (h' := h) 1 (fun _ _ => rfl) (eRp_answer (by omega) hx42) ?_
                              have hz := Option.some.inj HF
                              subst hz
                              exact q_rtn 1 (fun _ _ => rfl)
                            · rw [if_neg c68] at HF
                              by_cases c69 : a1 = 14
                              · rw [if_pos c69] at HF
                                refine q_sw (o1 := 224) (pcx := 1) (pc' := 225) (loc' := [some (.inr (.inr (24, 6, 0))), some (.inl a1)]) (stk' := []) (h' := h) 2 (fun _ _ => rfl) (q_tsI c69 rfl) rfl ?_
                                obtain ⟨x43, hx44, HF⟩ := q_bind HF
                                refine q_cll (m' := 45) (av := [.inr (.inr (24, 6, 0)), .inl (h.1 24 5 6 0)]) (st' := []) (pc' := 233) (loc' := [some (.inr (.inr (24, 6, 0))), some (.inl a1)]) (h' := h) 4 (fun _ _ => rfl) (eRp_answer (by omega) hx44) ?_
                                have hz := Option.some.inj HF
                                subst hz
                                exact q_rtn 1 (fun _ _ => rfl)
                              · rw [if_neg c69] at HF
                                by_cases c70 : a1 = 15
                                · rw [if_pos c70] at HF
                                  refine q_sw (o1 := 233) (pcx := 1) (pc' := 234) (loc' := [some (.inr (.inr (24, 6, 0))), some (.inl a1)]) (stk' := []) (h' := h) 2 (fun _ _ => rfl) (q_tsI c70 rfl) rfl ?_
                                  obtain ⟨x45, hx46, HF⟩ := q_bind HF
                                  refine q_cll (m' := 117) (av := [.inr (.inr (6, 0, 0))]) (st' := [.inr (.inr (24, 6, 0))]) (pc' := 245) (loc' := [some (.inr (.inr (24, 6, 0))), some (.inl a1)]) (h' := h) 5 (fun _ _ => rfl) (eTn_howManyOpen (by omega) hx46) ?_
                                  obtain ⟨x47, hx48, HF⟩ := q_bind HF
                                  refine q_cll (m' := 45) (av := [.inr (.inr (24, 6, 0)), .inl x45]) (st' := []) (pc' := 248) (loc' := [some (.inr (.inr (24, 6, 0))), some (.inl a1)]) (h' := h) 1 (fun _ _ => rfl) (eRp_answer (by omega) hx48) ?_
                                  have hz := Option.some.inj HF
                                  subst hz
                                  exact q_rtn 1 (fun _ _ => rfl)
                                · rw [if_neg c70] at HF
                                  by_cases c71 : a1 = 16
                                  · rw [if_pos c71] at HF
                                    refine q_sw (o1 := 248) (pcx := 1) (pc' := 249) (loc' := [some (.inr (.inr (24, 6, 0))), some (.inl a1)]) (stk' := []) (h' := h) 2 (fun _ _ => rfl) (q_tsI c71 rfl) rfl ?_
                                    obtain ⟨x49, hx50, HF⟩ := q_bind HF
                                    refine q_cll (m' := 118) (av := [.inr (.inr (6, 0, 0))]) (st' := [.inr (.inr (24, 6, 0))]) (pc' := 260) (loc' := [some (.inr (.inr (24, 6, 0))), some (.inl a1)]) (h' := h) 5 (fun _ _ => rfl) (eTn_howManyWait (by omega) hx50) ?_
                                    obtain ⟨x51, hx52, HF⟩ := q_bind HF
                                    refine q_cll (m' := 45) (av := [.inr (.inr (24, 6, 0)), .inl x49]) (st' := []) (pc' := 263) (loc' := [some (.inr (.inr (24, 6, 0))), some (.inl a1)]) (h' := h) 1 (fun _ _ => rfl) (eRp_answer (by omega) hx52) ?_
                                    have hz := Option.some.inj HF
                                    subst hz
                                    exact q_rtn 1 (fun _ _ => rfl)
                                  · rw [if_neg c71] at HF
                                    refine q_sw (o1 := 263) (pcx := 1) (pc' := 264) (loc' := [some (.inr (.inr (24, 6, 0))), some (.inl a1)]) (stk' := []) (h' := h) 2 (fun _ _ => rfl) (q_tsD (a := a1) (lo := 0) (hi := 16) (by have z0 := q_neI c55 (a := 0) rfl; have z1 := q_neI c56 (a := 1) rfl; have z2 := q_neI c57 (a := 2) rfl; have z3 := q_neI c58 (a := 3) rfl; have z4 := q_neI c59 (a := 4) rfl; have z5 := q_neI c60 (a := 5) rfl; have z6 := q_neI c61 (a := 6) rfl; have z7 := q_neI c62 (a := 7) rfl; have z8 := q_neI c63 (a := 8) rfl; have z9 := q_neI c64 (a := 9) rfl; have z10 := q_neI c65 (a := 10) rfl; have z11 := q_neI c66 (a := 11) rfl; have z12 := q_neI c67 (a := 12) rfl; have z13 := q_neI c68 (a := 13) rfl; have z14 := q_neI c69 (a := 14) rfl; have z15 := q_neI c70 (a := 15) rfl; have z16 := q_neI c71 (a := 16) rfl; omega)) rfl ?_
                                    obtain ⟨x53, hx54, HF⟩ := q_bind HF
                                    refine q_cll (m' := 46) (av := [.inr (.inr (24, 6, 0)), .inl (1 : Int32)]) (st' := []) (pc' := 269) (loc' := [some (.inr (.inr (24, 6, 0))), some (.inl a1)]) (h' := h) 3 (fun _ _ => rfl) (eRp_refuse (by omega) hx54) ?_
                                    have hz := Option.some.inj HF
                                    subst hz
                                    exact q_rtn 1 (fun _ _ => rfl)
def Rp_insert (a1 : Int32) (a2 : Int32) (a3 : Int32) (a4 : Int32) (h : q_H) : Option (Int32 × q_H) :=
  (Rp_isVersion a2 a3 a4 h).bind fun x1 => if ¬ x1 = 0 then ((Tn_has 0 a1 h).bind fun x3 => if ¬ x3 = 0 then (if (40 : Int32) ≤ (h.1 0 7 0 0) then ((Rp_refuse (3 : Int32) h).bind fun x5 => some ((x5.1, x5.2))) else (if (h.1 11 3 0 0) < (60 : Int32) then ((Rp_asFree a1 h).bind fun x7 => if x7 = 0 then ((Pg_firstPlace 0 a4 h).bind fun x9 => if ¬ x9 = (-1 : Int32) then ((St_addRow 0 x9 a2 a3 a4 a1 h).bind fun x11 => (Rp_answer x11.1 x11.2).bind fun x13 => some ((x13.1, x13.2))) else ((Rp_refuse (5 : Int32) h).bind fun x15 => some ((x15.1, x15.2)))) else ((Rp_refuse x7 h).bind fun x18 => some ((x18.1, x18.2)))) else ((Rp_refuse (3 : Int32) h).bind fun x21 => some ((x21.1, x21.2))))) else ((Rp_refuse (2 : Int32) h).bind fun x25 => some ((x25.1, x25.2)))) else ((Rp_refuse (1 : Int32) h).bind fun x28 => some ((x28.1, x28.2)))
set_option maxRecDepth 100000 in
set_option maxHeartbeats 4000000 in
theorem eRp_insert {d : Nat} (hd : 6 ≤ d) {a1 : Int32} {a2 : Int32} {a3 : Int32} {a4 : Int32} {h : q_H} {r : (Int32 × q_H)} (HF : Rp_insert a1 a2 a3 a4 h = some r) : q_T d 24 [.inr (.inr (24, 6, 0)), .inl a1, .inl a2, .inl a3, .inl a4] h (some (.inl r.1), r.2) := by
  obtain ⟨d, rfl⟩ : ∃ d', d = d' + 1 := ⟨d - 1, by omega⟩
  refine q_ent q_K24 rfl rfl rfl ?_
  unfold Rp_insert at HF
  obtain ⟨x1, hx2, HF⟩ := q_bind HF
  refine q_cll (m' := 57) (av := [.inl a2, .inl a3, .inl a4]) (st' := []) (pc' := 7) (loc' := [some (.inr (.inr (24, 6, 0))), some (.inl a1), some (.inl a2), some (.inl a3), some (.inl a4), none, none]) (h' := h) 4 (fun _ _ => rfl) (eRp_isVersion (by omega) hx2) ?_
  refine q_br (P := ¬ x1 = 0) (pcT := 16) (pcF := 10) (loc' := [some (.inr (.inr (24, 6, 0))), some (.inl a1), some (.inl a2), some (.inl a3), some (.inl a4), none, none]) (stk' := []) (h' := h) 1 (fun _ _ => rfl) (fun c30 => ?_) (fun c30 => ?_)
  · rw [if_pos c30] at HF
    obtain ⟨x3, hx4, HF⟩ := q_bind HF
    refine q_cll (m' := 105) (av := [.inr (.inr (6, 0, 0)), .inl a1]) (st' := []) (pc' := 27) (loc' := [some (.inr (.inr (24, 6, 0))), some (.inl a1), some (.inl a2), some (.inl a3), some (.inl a4), none, none]) (h' := h) 5 (fun _ _ => rfl) (eTn_has (by omega) hx4) ?_
    refine q_br (P := ¬ x3 = 0) (pcT := 36) (pcF := 30) (loc' := [some (.inr (.inr (24, 6, 0))), some (.inl a1), some (.inl a2), some (.inl a3), some (.inl a4), none, none]) (stk' := []) (h' := h) 1 (fun _ _ => rfl) (fun c27 => ?_) (fun c27 => ?_)
    · rw [if_pos c27] at HF
      refine q_br (P := (40 : Int32) ≤ (h.1 0 7 0 0)) (pcT := 63) (pcF := 48) (loc' := [some (.inr (.inr (24, 6, 0))), some (.inl a1), some (.inl a2), some (.inl a3), some (.inl a4), none, none]) (stk' := []) (h' := h) 5 (fun _ _ => rfl) (fun c24 => ?_) (fun c24 => ?_)
      · rw [if_pos c24] at HF
        obtain ⟨x5, hx6, HF⟩ := q_bind HF
        refine q_cll (m' := 46) (av := [.inr (.inr (24, 6, 0)), .inl (3 : Int32)]) (st' := []) (pc' := 68) (loc' := [some (.inr (.inr (24, 6, 0))), some (.inl a1), some (.inl a2), some (.inl a3), some (.inl a4), none, none]) (h' := h) 3 (fun _ _ => rfl) (eRp_refuse (by omega) hx6) ?_
        have hz := Option.some.inj HF
        subst hz
        exact q_rtn 1 (fun _ _ => rfl)
      · rw [if_neg c24] at HF
        refine q_br (P := (h.1 11 3 0 0) < (60 : Int32)) (pcT := 69) (pcF := 63) (loc' := [some (.inr (.inr (24, 6, 0))), some (.inl a1), some (.inl a2), some (.inl a3), some (.inl a4), none, none]) (stk' := []) (h' := h) 6 (fun _ _ => rfl) (fun c23 => ?_) (fun c23 => ?_)
        · rw [if_pos c23] at HF
          obtain ⟨x7, hx8, HF⟩ := q_bind HF
          refine q_cll (m' := 48) (av := [.inr (.inr (24, 6, 0)), .inl a1]) (st' := []) (pc' := 74) (loc' := [some (.inr (.inr (24, 6, 0))), some (.inl a1), some (.inl a2), some (.inl a3), some (.inl a4), none, none]) (h' := h) 3 (fun _ _ => rfl) (eRp_asFree (by omega) hx8) ?_
          refine q_br (P := x7 = 0) (pcT := 88) (pcF := 81) (loc' := [some (.inr (.inr (24, 6, 0))), some (.inl a1), some (.inl a2), some (.inl a3), some (.inl a4), some (.inl x7), none]) (stk' := []) (h' := h) 3 (fun _ _ => rfl) (fun c20 => ?_) (fun c20 => ?_)
          · rw [if_pos c20] at HF
            obtain ⟨x9, hx10, HF⟩ := q_bind HF
            refine q_cll (m' := 100) (av := [.inr (.inr (1, 0, 0)), .inl a4]) (st' := []) (pc' := 100) (loc' := [some (.inr (.inr (24, 6, 0))), some (.inl a1), some (.inl a2), some (.inl a3), some (.inl a4), some (.inl x7), none]) (h' := h) 5 (fun _ _ => rfl) (ePg_firstPlace (by omega) hx10) ?_
            refine q_br (P := ¬ x9 = (-1 : Int32)) (pcT := 114) (pcF := 108) (loc' := [some (.inr (.inr (24, 6, 0))), some (.inl a1), some (.inl a2), some (.inl a3), some (.inl a4), some (.inl x7), some (.inl x9)]) (stk' := []) (h' := h) 4 (fun _ _ => rfl) (fun c17 => ?_) (fun c17 => ?_)
            · rw [if_pos c17] at HF
              obtain ⟨x11, hx12, HF⟩ := q_bind HF
              refine q_cll (m' := 160) (av := [.inr (.inr (0, 0, 0)), .inl x9, .inl a2, .inl a3, .inl a4, .inl a1]) (st' := [.inr (.inr (24, 6, 0))]) (pc' := 129) (loc' := [some (.inr (.inr (24, 6, 0))), some (.inl a1), some (.inl a2), some (.inl a3), some (.inl a4), some (.inl x7), some (.inl x9)]) (h' := h) 9 (fun _ _ => rfl) (eSt_addRow (by omega) hx12) ?_
              obtain ⟨x13, hx14, HF⟩ := q_bind HF
              refine q_cll (m' := 45) (av := [.inr (.inr (24, 6, 0)), .inl x11.1]) (st' := []) (pc' := 132) (loc' := [some (.inr (.inr (24, 6, 0))), some (.inl a1), some (.inl a2), some (.inl a3), some (.inl a4), some (.inl x7), some (.inl x9)]) (h' := x11.2) 1 (fun _ _ => rfl) (eRp_answer (by omega) hx14) ?_
              have hz := Option.some.inj HF
              subst hz
              exact q_rtn 1 (fun _ _ => rfl)
            · rw [if_neg c17] at HF
              obtain ⟨x15, hx16, HF⟩ := q_bind HF
              refine q_cll (m' := 46) (av := [.inr (.inr (24, 6, 0)), .inl (5 : Int32)]) (st' := []) (pc' := 113) (loc' := [some (.inr (.inr (24, 6, 0))), some (.inl a1), some (.inl a2), some (.inl a3), some (.inl a4), some (.inl x7), some (.inl x9)]) (h' := h) 3 (fun _ _ => rfl) (eRp_refuse (by omega) hx16) ?_
              have hz := Option.some.inj HF
              subst hz
              exact q_rtn 1 (fun _ _ => rfl)
          · rw [if_neg c20] at HF
            obtain ⟨x18, hx19, HF⟩ := q_bind HF
            refine q_cll (m' := 46) (av := [.inr (.inr (24, 6, 0)), .inl x7]) (st' := []) (pc' := 87) (loc' := [some (.inr (.inr (24, 6, 0))), some (.inl a1), some (.inl a2), some (.inl a3), some (.inl a4), some (.inl x7), none]) (h' := h) 3 (fun _ _ => rfl) (eRp_refuse (by omega) hx19) ?_
            have hz := Option.some.inj HF
            subst hz
            exact q_rtn 1 (fun _ _ => rfl)
        · rw [if_neg c23] at HF
          obtain ⟨x21, hx22, HF⟩ := q_bind HF
          refine q_cll (m' := 46) (av := [.inr (.inr (24, 6, 0)), .inl (3 : Int32)]) (st' := []) (pc' := 68) (loc' := [some (.inr (.inr (24, 6, 0))), some (.inl a1), some (.inl a2), some (.inl a3), some (.inl a4), none, none]) (h' := h) 3 (fun _ _ => rfl) (eRp_refuse (by omega) hx22) ?_
          have hz := Option.some.inj HF
          subst hz
          exact q_rtn 1 (fun _ _ => rfl)
    · rw [if_neg c27] at HF
      obtain ⟨x25, hx26, HF⟩ := q_bind HF
      refine q_cll (m' := 46) (av := [.inr (.inr (24, 6, 0)), .inl (2 : Int32)]) (st' := []) (pc' := 35) (loc' := [some (.inr (.inr (24, 6, 0))), some (.inl a1), some (.inl a2), some (.inl a3), some (.inl a4), none, none]) (h' := h) 3 (fun _ _ => rfl) (eRp_refuse (by omega) hx26) ?_
      have hz := Option.some.inj HF
      subst hz
      exact q_rtn 1 (fun _ _ => rfl)
  · rw [if_neg c30] at HF
    obtain ⟨x28, hx29, HF⟩ := q_bind HF
    refine q_cll (m' := 46) (av := [.inr (.inr (24, 6, 0)), .inl (1 : Int32)]) (st' := []) (pc' := 15) (loc' := [some (.inr (.inr (24, 6, 0))), some (.inl a1), some (.inl a2), some (.inl a3), some (.inl a4), none, none]) (h' := h) 3 (fun _ _ => rfl) (eRp_refuse (by omega) hx29) ?_
    have hz := Option.some.inj HF
    subst hz
    exact q_rtn 1 (fun _ _ => rfl)
def Rp_update (a1 : Int32) (a2 : Int32) (a3 : Int32) (a4 : Int32) (a5 : Int32) (h : q_H) : Option (Int32 × q_H) :=
  (Rp_isVersion a3 a4 a5 h).bind fun x1 => if ¬ x1 = 0 then ((Rp_asChanger a1 a2 h).bind fun x3 => if x3 = 0 then ((St_copyFrom 1 0 h).bind fun x5 => (St_seenPlace 0 a1 a2 x5).bind fun x7 => (St_placeBehind 0 x7 a5 x5).bind fun x9 => (Rp_pageOf x9.1 x9.2).bind fun x11 => (Rp_pageOf x7 x9.2).bind fun x13 => Option.bind (α := Int32) (if ¬ x11 = x13 then (some ((0 : Int32))) else ((Pg_at 0 x7 x9.2).bind fun x19 => if ¬ (x9.2.1 3 3 0 x19) = a3 then (some ((0 : Int32))) else (some ((1 : Int32))))) (fun p23 => if x9.1 = (-1 : Int32) then ((St_copyFrom 0 1 x9.2).bind fun x24 => if ¬ x9.1 = (-1 : Int32) then ((Rp_refuse (3 : Int32) x24).bind fun x26 => some ((x26.1, x26.2))) else ((Rp_refuse (5 : Int32) x24).bind fun x28 => some ((x28.1, x28.2)))) else (if ¬ p23 = 0 then ((St_addVersion 0 x9.1 a2 a3 a4 a5 a1 p23 x9.2).bind fun x31 => (St_endVersion 0 x7 a1 x9.1 x31).bind fun x33 => if p23 = 0 then ((Rp_answer (0 : Int32) x33).bind fun x35 => some ((x35.1, x35.2))) else ((Rp_answer (1 : Int32) x33).bind fun x37 => some ((x37.1, x37.2)))) else (if (x9.2.1 11 3 0 0) < (60 : Int32) then ((St_addVersion 0 x9.1 a2 a3 a4 a5 a1 p23 x9.2).bind fun x40 => (St_endVersion 0 x7 a1 x9.1 x40).bind fun x42 => if p23 = 0 then ((Rp_answer (0 : Int32) x42).bind fun x44 => some ((x44.1, x44.2))) else ((Rp_answer (1 : Int32) x42).bind fun x46 => some ((x46.1, x46.2)))) else ((St_copyFrom 0 1 x9.2).bind fun x49 => if ¬ x9.1 = (-1 : Int32) then ((Rp_refuse (3 : Int32) x49).bind fun x51 => some ((x51.1, x51.2))) else ((Rp_refuse (5 : Int32) x49).bind fun x53 => some ((x53.1, x53.2)))))))) else ((Rp_refuse x3 h).bind fun x60 => some ((x60.1, x60.2)))) else ((Rp_refuse (1 : Int32) h).bind fun x63 => some ((x63.1, x63.2)))
set_option maxRecDepth 100000 in
set_option maxHeartbeats 4000000 in
theorem eRp_update {d : Nat} (hd : 6 ≤ d) {a1 : Int32} {a2 : Int32} {a3 : Int32} {a4 : Int32} {a5 : Int32} {h : q_H} {r : (Int32 × q_H)} (HF : Rp_update a1 a2 a3 a4 a5 h = some r) : q_T d 25 [.inr (.inr (24, 6, 0)), .inl a1, .inl a2, .inl a3, .inl a4, .inl a5] h (some (.inl r.1), r.2) := by
  obtain ⟨d, rfl⟩ : ∃ d', d = d' + 1 := ⟨d - 1, by omega⟩
  refine q_ent q_K25 rfl rfl rfl ?_
  unfold Rp_update at HF
  obtain ⟨x1, hx2, HF⟩ := q_bind HF
  refine q_cll (m' := 57) (av := [.inl a3, .inl a4, .inl a5]) (st' := []) (pc' := 8) (loc' := [some (.inr (.inr (24, 6, 0))), some (.inl a1), some (.inl a2), some (.inl a3), some (.inl a4), some (.inl a5), none, none, none, none]) (h' := h) 4 (fun _ _ => rfl) (eRp_isVersion (by omega) hx2) ?_
  refine q_br (P := ¬ x1 = 0) (pcT := 17) (pcF := 11) (loc' := [some (.inr (.inr (24, 6, 0))), some (.inl a1), some (.inl a2), some (.inl a3), some (.inl a4), some (.inl a5), none, none, none, none]) (stk' := []) (h' := h) 1 (fun _ _ => rfl) (fun c65 => ?_) (fun c65 => ?_)
  · rw [if_pos c65] at HF
    obtain ⟨x3, hx4, HF⟩ := q_bind HF
    refine q_cll (m' := 50) (av := [.inr (.inr (24, 6, 0)), .inl a1, .inl a2]) (st' := []) (pc' := 23) (loc' := [some (.inr (.inr (24, 6, 0))), some (.inl a1), some (.inl a2), some (.inl a3), some (.inl a4), some (.inl a5), none, none, none, none]) (h' := h) 4 (fun _ _ => rfl) (eRp_asChanger (by omega) hx4) ?_
    refine q_br (P := x3 = 0) (pcT := 37) (pcF := 30) (loc' := [some (.inr (.inr (24, 6, 0))), some (.inl a1), some (.inl a2), some (.inl a3), some (.inl a4), some (.inl a5), some (.inl x3), none, none, none]) (stk' := []) (h' := h) 3 (fun _ _ => rfl) (fun c62 => ?_) (fun c62 => ?_)
    · rw [if_pos c62] at HF
      obtain ⟨x5, hx6, HF⟩ := q_bind HF
      refine q_cll (m' := 142) (av := [.inr (.inr (0, 1, 0)), .inr (.inr (0, 0, 0))]) (st' := []) (pc' := 48) (loc' := [some (.inr (.inr (24, 6, 0))), some (.inl a1), some (.inl a2), some (.inl a3), some (.inl a4), some (.inl a5), some (.inl x3), none, none, none]) (h' := h) 5 (fun _ _ => rfl) (eSt_copyFrom (by omega) hx6) ?_
      obtain ⟨x7, hx8, HF⟩ := q_bind HF
      refine q_cll (m' := 156) (av := [.inr (.inr (0, 0, 0)), .inl a1, .inl a2]) (st' := []) (pc' := 57) (loc' := [some (.inr (.inr (24, 6, 0))), some (.inl a1), some (.inl a2), some (.inl a3), some (.inl a4), some (.inl a5), some (.inl x3), none, none, none]) (h' := x5) 5 (fun _ _ => rfl) (eSt_seenPlace (by omega) hx8) ?_
      obtain ⟨x9, hx10, HF⟩ := q_bind HF
      refine q_cll (m' := 163) (av := [.inr (.inr (0, 0, 0)), .inl x7, .inl a5]) (st' := []) (pc' := 70) (loc' := [some (.inr (.inr (24, 6, 0))), some (.inl a1), some (.inl a2), some (.inl a3), some (.inl a4), some (.inl a5), some (.inl x3), some (.inl x7), none, none]) (h' := x5) 6 (fun _ _ => rfl) (eSt_placeBehind (by omega) hx10) ?_
      obtain ⟨x11, hx12, HF⟩ := q_bind HF
      refine q_cll (m' := 58) (av := [.inl x9.1]) (st' := []) (pc' := 77) (loc' := [some (.inr (.inr (24, 6, 0))), some (.inl a1), some (.inl a2), some (.inl a3), some (.inl a4), some (.inl a5), some (.inl x3), some (.inl x7), some (.inl x9.1), none]) (h' := x9.2) 3 (fun _ _ => rfl) (eRp_pageOf (by omega) hx12) ?_
      obtain ⟨x13, hx14, HF⟩ := q_bind HF
      refine q_cll (m' := 58) (av := [.inl x7]) (st' := [.inl x11]) (pc' := 82) (loc' := [some (.inr (.inr (24, 6, 0))), some (.inl a1), some (.inl a2), some (.inl a3), some (.inl a4), some (.inl a5), some (.inl x3), some (.inl x7), some (.inl x9.1), none]) (h' := x9.2) 2 (fun _ _ => rfl) (eRp_pageOf (by omega) hx14) ?_
      obtain ⟨z15, HA16, HK17⟩ := q_bind HF
      have hP18 : ∀ p23 : Int32, (if x9.1 = (-1 : Int32) then ((St_copyFrom 0 1 x9.2).bind fun x24 => if ¬ x9.1 = (-1 : Int32) then ((Rp_refuse (3 : Int32) x24).bind fun x26 => some ((x26.1, x26.2))) else ((Rp_refuse (5 : Int32) x24).bind fun x28 => some ((x28.1, x28.2)))) else (if ¬ p23 = 0 then ((St_addVersion 0 x9.1 a2 a3 a4 a5 a1 p23 x9.2).bind fun x31 => (St_endVersion 0 x7 a1 x9.1 x31).bind fun x33 => if p23 = 0 then ((Rp_answer (0 : Int32) x33).bind fun x35 => some ((x35.1, x35.2))) else ((Rp_answer (1 : Int32) x33).bind fun x37 => some ((x37.1, x37.2)))) else (if (x9.2.1 11 3 0 0) < (60 : Int32) then ((St_addVersion 0 x9.1 a2 a3 a4 a5 a1 p23 x9.2).bind fun x40 => (St_endVersion 0 x7 a1 x9.1 x40).bind fun x42 => if p23 = 0 then ((Rp_answer (0 : Int32) x42).bind fun x44 => some ((x44.1, x44.2))) else ((Rp_answer (1 : Int32) x42).bind fun x46 => some ((x46.1, x46.2)))) else ((St_copyFrom 0 1 x9.2).bind fun x49 => if ¬ x9.1 = (-1 : Int32) then ((Rp_refuse (3 : Int32) x49).bind fun x51 => some ((x51.1, x51.2))) else ((Rp_refuse (5 : Int32) x49).bind fun x53 => some ((x53.1, x53.2)))))) : Option (Int32 × q_H)) = some r → q_E d q_K25 109 [some (.inr (.inr (24, 6, 0))), some (.inl a1), some (.inl a2), some (.inl a3), some (.inl a4), some (.inl a5), some (.inl x3), some (.inl x7), some (.inl x9.1), none] [.inl p23] x9.2 (some (.inl r.1), r.2) := by
        intro p23 HF
        refine q_br (P := x9.1 = (-1 : Int32)) (pcT := 137) (pcF := 117) (loc' := [some (.inr (.inr (24, 6, 0))), some (.inl a1), some (.inl a2), some (.inl a3), some (.inl a4), some (.inl a5), some (.inl x3), some (.inl x7), some (.inl x9.1), some (.inl p23)]) (stk' := []) (h' := x9.2) 4 (fun _ _ => rfl) (fun c58 => ?_) (fun c58 => ?_)
        · rw [if_pos c58] at HF
          obtain ⟨x24, hx25, HF⟩ := q_bind HF
          refine q_cll (m' := 142) (av := [.inr (.inr (0, 0, 0)), .inr (.inr (0, 1, 0))]) (st' := []) (pc' := 148) (loc' := [some (.inr (.inr (24, 6, 0))), some (.inl a1), some (.inl a2), some (.inl a3), some (.inl a4), some (.inl a5), some (.inl x3), some (.inl x7), some (.inl x9.1), some (.inl p23)]) (h' := x9.2) 5 (fun _ _ => rfl) (eSt_copyFrom (by omega) hx25) ?_
          refine q_br (P := ¬ x9.1 = (-1 : Int32)) (pcT := 159) (pcF := 155) (loc' := [some (.inr (.inr (24, 6, 0))), some (.inl a1), some (.inl a2), some (.inl a3), some (.inl a4), some (.inl a5), some (.inl x3), some (.inl x7), some (.inl x9.1), some (.inl p23)]) (stk' := [.inr (.inr (24, 6, 0))]) (h' := x24) 4 (fun _ _ => rfl) (fun c30 => ?_) (fun c30 => ?_)
          · rw [if_pos c30] at HF
            obtain ⟨x26, hx27, HF⟩ := q_bind HF
            refine q_cll (m' := 46) (av := [.inr (.inr (24, 6, 0)), .inl (3 : Int32)]) (st' := []) (pc' := 163) (loc' := [some (.inr (.inr (24, 6, 0))), some (.inl a1), some (.inl a2), some (.inl a3), some (.inl a4), some (.inl a5), some (.inl x3), some (.inl x7), some (.inl x9.1), some (.inl p23)]) (h' := x24) 2 (fun _ _ => rfl) (eRp_refuse (by omega) hx27) ?_
            have hz := Option.some.inj HF
            subst hz
            exact q_rtn 1 (fun _ _ => rfl)
          · rw [if_neg c30] at HF
            obtain ⟨x28, hx29, HF⟩ := q_bind HF
            refine q_cll (m' := 46) (av := [.inr (.inr (24, 6, 0)), .inl (5 : Int32)]) (st' := []) (pc' := 163) (loc' := [some (.inr (.inr (24, 6, 0))), some (.inl a1), some (.inl a2), some (.inl a3), some (.inl a4), some (.inl a5), some (.inl x3), some (.inl x7), some (.inl x9.1), some (.inl p23)]) (h' := x24) 3 (fun _ _ => rfl) (eRp_refuse (by omega) hx29) ?_
            have hz := Option.some.inj HF
            subst hz
            exact q_rtn 1 (fun _ _ => rfl)
        · rw [if_neg c58] at HF
          refine q_br (P := ¬ p23 = 0) (pcT := 164) (pcF := 122) (loc' := [some (.inr (.inr (24, 6, 0))), some (.inl a1), some (.inl a2), some (.inl a3), some (.inl a4), some (.inl a5), some (.inl x3), some (.inl x7), some (.inl x9.1), some (.inl p23)]) (stk' := []) (h' := x9.2) 2 (fun _ _ => rfl) (fun c57 => ?_) (fun c57 => ?_)
          · rw [if_pos c57] at HF
            obtain ⟨x31, hx32, HF⟩ := q_bind HF
            refine q_cll (m' := 161) (av := [.inr (.inr (0, 0, 0)), .inl x9.1, .inl a2, .inl a3, .inl a4, .inl a5, .inl a1, .inl p23]) (st' := []) (pc' := 182) (loc' := [some (.inr (.inr (24, 6, 0))), some (.inl a1), some (.inl a2), some (.inl a3), some (.inl a4), some (.inl a5), some (.inl x3), some (.inl x7), some (.inl x9.1), some (.inl p23)]) (h' := x9.2) 10 (fun _ _ => rfl) (eSt_addVersion (by omega) hx32) ?_
            obtain ⟨x33, hx34, HF⟩ := q_bind HF
            refine q_cll (m' := 162) (av := [.inr (.inr (0, 0, 0)), .inl x7, .inl a1, .inl x9.1]) (st' := []) (pc' := 194) (loc' := [some (.inr (.inr (24, 6, 0))), some (.inl a1), some (.inl a2), some (.inl a3), some (.inl a4), some (.inl a5), some (.inl x3), some (.inl x7), some (.inl x9.1), some (.inl p23)]) (h' := x31) 6 (fun _ _ => rfl) (eSt_endVersion (by omega) hx34) ?_
            refine q_br (P := p23 = 0) (pcT := 204) (pcF := 200) (loc' := [some (.inr (.inr (24, 6, 0))), some (.inl a1), some (.inl a2), some (.inl a3), some (.inl a4), some (.inl a5), some (.inl x3), some (.inl x7), some (.inl x9.1), some (.inl p23)]) (stk' := [.inr (.inr (24, 6, 0))]) (h' := x33) 3 (fun _ _ => rfl) (fun c39 => ?_) (fun c39 => ?_)
            · rw [if_pos c39] at HF
              obtain ⟨x35, hx36, HF⟩ := q_bind HF
              refine q_cll (m' := 45) (av := [.inr (.inr (24, 6, 0)), .inl (0 : Int32)]) (st' := []) (pc' := 208) (loc' := [some (.inr (.inr (24, 6, 0))), some (.inl a1), some (.inl a2), some (.inl a3), some (.inl a4), some (.inl a5), some (.inl x3), some (.inl x7), some (.inl x9.1), some (.inl p23)]) (h' := x33) 2 (fun _ _ => rfl) (eRp_answer (by omega) hx36) ?_
              have hz := Option.some.inj HF
              subst hz
              exact q_rtn 1 (fun _ _ => rfl)
            · rw [if_neg c39] at HF
              obtain ⟨x37, hx38, HF⟩ := q_bind HF
              refine q_cll (m' := 45) (av := [.inr (.inr (24, 6, 0)), .inl (1 : Int32)]) (st' := []) (pc' := 208) (loc' := [some (.inr (.inr (24, 6, 0))), some (.inl a1), some (.inl a2), some (.inl a3), some (.inl a4), some (.inl a5), some (.inl x3), some (.inl x7), some (.inl x9.1), some (.inl p23)]) (h' := x33) 3 (fun _ _ => rfl) (eRp_answer (by omega) hx38) ?_
              have hz := Option.some.inj HF
              subst hz
              exact q_rtn 1 (fun _ _ => rfl)
          · rw [if_neg c57] at HF
            refine q_br (P := (x9.2.1 11 3 0 0) < (60 : Int32)) (pcT := 164) (pcF := 137) (loc' := [some (.inr (.inr (24, 6, 0))), some (.inl a1), some (.inl a2), some (.inl a3), some (.inl a4), some (.inl a5), some (.inl x3), some (.inl x7), some (.inl x9.1), some (.inl p23)]) (stk' := []) (h' := x9.2) 6 (fun _ _ => rfl) (fun c56 => ?_) (fun c56 => ?_)
            · rw [if_pos c56] at HF
              obtain ⟨x40, hx41, HF⟩ := q_bind HF
              refine q_cll (m' := 161) (av := [.inr (.inr (0, 0, 0)), .inl x9.1, .inl a2, .inl a3, .inl a4, .inl a5, .inl a1, .inl p23]) (st' := []) (pc' := 182) (loc' := [some (.inr (.inr (24, 6, 0))), some (.inl a1), some (.inl a2), some (.inl a3), some (.inl a4), some (.inl a5), some (.inl x3), some (.inl x7), some (.inl x9.1), some (.inl p23)]) (h' := x9.2) 10 (fun _ _ => rfl) (eSt_addVersion (by omega) hx41) ?_
              obtain ⟨x42, hx43, HF⟩ := q_bind HF
              refine q_cll (m' := 162) (av := [.inr (.inr (0, 0, 0)), .inl x7, .inl a1, .inl x9.1]) (st' := []) (pc' := 194) (loc' := [some (.inr (.inr (24, 6, 0))), some (.inl a1), some (.inl a2), some (.inl a3), some (.inl a4), some (.inl a5), some (.inl x3), some (.inl x7), some (.inl x9.1), some (.inl p23)]) (h' := x40) 6 (fun _ _ => rfl) (eSt_endVersion (by omega) hx43) ?_
              refine q_br (P := p23 = 0) (pcT := 204) (pcF := 200) (loc' := [some (.inr (.inr (24, 6, 0))), some (.inl a1), some (.inl a2), some (.inl a3), some (.inl a4), some (.inl a5), some (.inl x3), some (.inl x7), some (.inl x9.1), some (.inl p23)]) (stk' := [.inr (.inr (24, 6, 0))]) (h' := x42) 3 (fun _ _ => rfl) (fun c48 => ?_) (fun c48 => ?_)
              · rw [if_pos c48] at HF
                obtain ⟨x44, hx45, HF⟩ := q_bind HF
                refine q_cll (m' := 45) (av := [.inr (.inr (24, 6, 0)), .inl (0 : Int32)]) (st' := []) (pc' := 208) (loc' := [some (.inr (.inr (24, 6, 0))), some (.inl a1), some (.inl a2), some (.inl a3), some (.inl a4), some (.inl a5), some (.inl x3), some (.inl x7), some (.inl x9.1), some (.inl p23)]) (h' := x42) 2 (fun _ _ => rfl) (eRp_answer (by omega) hx45) ?_
                have hz := Option.some.inj HF
                subst hz
                exact q_rtn 1 (fun _ _ => rfl)
              · rw [if_neg c48] at HF
                obtain ⟨x46, hx47, HF⟩ := q_bind HF
                refine q_cll (m' := 45) (av := [.inr (.inr (24, 6, 0)), .inl (1 : Int32)]) (st' := []) (pc' := 208) (loc' := [some (.inr (.inr (24, 6, 0))), some (.inl a1), some (.inl a2), some (.inl a3), some (.inl a4), some (.inl a5), some (.inl x3), some (.inl x7), some (.inl x9.1), some (.inl p23)]) (h' := x42) 3 (fun _ _ => rfl) (eRp_answer (by omega) hx47) ?_
                have hz := Option.some.inj HF
                subst hz
                exact q_rtn 1 (fun _ _ => rfl)
            · rw [if_neg c56] at HF
              obtain ⟨x49, hx50, HF⟩ := q_bind HF
              refine q_cll (m' := 142) (av := [.inr (.inr (0, 0, 0)), .inr (.inr (0, 1, 0))]) (st' := []) (pc' := 148) (loc' := [some (.inr (.inr (24, 6, 0))), some (.inl a1), some (.inl a2), some (.inl a3), some (.inl a4), some (.inl a5), some (.inl x3), some (.inl x7), some (.inl x9.1), some (.inl p23)]) (h' := x9.2) 5 (fun _ _ => rfl) (eSt_copyFrom (by omega) hx50) ?_
              refine q_br (P := ¬ x9.1 = (-1 : Int32)) (pcT := 159) (pcF := 155) (loc' := [some (.inr (.inr (24, 6, 0))), some (.inl a1), some (.inl a2), some (.inl a3), some (.inl a4), some (.inl a5), some (.inl x3), some (.inl x7), some (.inl x9.1), some (.inl p23)]) (stk' := [.inr (.inr (24, 6, 0))]) (h' := x49) 4 (fun _ _ => rfl) (fun c55 => ?_) (fun c55 => ?_)
              · rw [if_pos c55] at HF
                obtain ⟨x51, hx52, HF⟩ := q_bind HF
                refine q_cll (m' := 46) (av := [.inr (.inr (24, 6, 0)), .inl (3 : Int32)]) (st' := []) (pc' := 163) (loc' := [some (.inr (.inr (24, 6, 0))), some (.inl a1), some (.inl a2), some (.inl a3), some (.inl a4), some (.inl a5), some (.inl x3), some (.inl x7), some (.inl x9.1), some (.inl p23)]) (h' := x49) 2 (fun _ _ => rfl) (eRp_refuse (by omega) hx52) ?_
                have hz := Option.some.inj HF
                subst hz
                exact q_rtn 1 (fun _ _ => rfl)
              · rw [if_neg c55] at HF
                obtain ⟨x53, hx54, HF⟩ := q_bind HF
                refine q_cll (m' := 46) (av := [.inr (.inr (24, 6, 0)), .inl (5 : Int32)]) (st' := []) (pc' := 163) (loc' := [some (.inr (.inr (24, 6, 0))), some (.inl a1), some (.inl a2), some (.inl a3), some (.inl a4), some (.inl a5), some (.inl x3), some (.inl x7), some (.inl x9.1), some (.inl p23)]) (h' := x49) 3 (fun _ _ => rfl) (eRp_refuse (by omega) hx54) ?_
                have hz := Option.some.inj HF
                subst hz
                exact q_rtn 1 (fun _ _ => rfl)
      replace HF := HA16
      refine q_br (P := ¬ x11 = x13) (pcT := 108) (pcF := 85) (loc' := [some (.inr (.inr (24, 6, 0))), some (.inl a1), some (.inl a2), some (.inl a3), some (.inl a4), some (.inl a5), some (.inl x3), some (.inl x7), some (.inl x9.1), none]) (stk' := []) (h' := x9.2) 1 (fun _ _ => rfl) (fun c22 => ?_) (fun c22 => ?_)
      · rw [if_pos c22] at HF
        refine q_blk (pc' := 109) (loc' := [some (.inr (.inr (24, 6, 0))), some (.inl a1), some (.inl a2), some (.inl a3), some (.inl a4), some (.inl a5), some (.inl x3), some (.inl x7), some (.inl x9.1), none]) (stk' := [.inl (0 : Int32)]) (h' := x9.2) 1 (fun _ _ => rfl) ?_
        have hz := Option.some.inj HF
        subst hz
        exact hP18 (0 : Int32) HK17
      · rw [if_neg c22] at HF
        obtain ⟨x19, hx20, HF⟩ := q_bind HF
        refine q_cll (m' := 89) (av := [.inr (.inr (1, 0, 0)), .inl x7]) (st' := []) (pc' := 97) (loc' := [some (.inr (.inr (24, 6, 0))), some (.inl a1), some (.inl a2), some (.inl a3), some (.inl a4), some (.inl a5), some (.inl x3), some (.inl x7), some (.inl x9.1), none]) (h' := x9.2) 5 (fun _ _ => rfl) (ePg_at (by omega) hx20) ?_
        refine q_br (P := ¬ (x9.2.1 3 3 0 x19) = a3) (pcT := 108) (pcF := 104) (loc' := [some (.inr (.inr (24, 6, 0))), some (.inl a1), some (.inl a2), some (.inl a3), some (.inl a4), some (.inl a5), some (.inl x3), some (.inl x7), some (.inl x9.1), none]) (stk' := []) (h' := x9.2) 3 (fun _ _ => rfl) (fun c21 => ?_) (fun c21 => ?_)
        · rw [if_pos c21] at HF
          refine q_blk (pc' := 109) (loc' := [some (.inr (.inr (24, 6, 0))), some (.inl a1), some (.inl a2), some (.inl a3), some (.inl a4), some (.inl a5), some (.inl x3), some (.inl x7), some (.inl x9.1), none]) (stk' := [.inl (0 : Int32)]) (h' := x9.2) 1 (fun _ _ => rfl) ?_
          have hz := Option.some.inj HF
          subst hz
          exact hP18 (0 : Int32) HK17
        · rw [if_neg c21] at HF
          refine q_blk (pc' := 109) (loc' := [some (.inr (.inr (24, 6, 0))), some (.inl a1), some (.inl a2), some (.inl a3), some (.inl a4), some (.inl a5), some (.inl x3), some (.inl x7), some (.inl x9.1), none]) (stk' := [.inl (1 : Int32)]) (h' := x9.2) 2 (fun _ _ => rfl) ?_
          have hz := Option.some.inj HF
          subst hz
          exact hP18 (1 : Int32) HK17
    · rw [if_neg c62] at HF
      obtain ⟨x60, hx61, HF⟩ := q_bind HF
      refine q_cll (m' := 46) (av := [.inr (.inr (24, 6, 0)), .inl x3]) (st' := []) (pc' := 36) (loc' := [some (.inr (.inr (24, 6, 0))), some (.inl a1), some (.inl a2), some (.inl a3), some (.inl a4), some (.inl a5), some (.inl x3), none, none, none]) (h' := h) 3 (fun _ _ => rfl) (eRp_refuse (by omega) hx61) ?_
      have hz := Option.some.inj HF
      subst hz
      exact q_rtn 1 (fun _ _ => rfl)
  · rw [if_neg c65] at HF
    obtain ⟨x63, hx64, HF⟩ := q_bind HF
    refine q_cll (m' := 46) (av := [.inr (.inr (24, 6, 0)), .inl (1 : Int32)]) (st' := []) (pc' := 16) (loc' := [some (.inr (.inr (24, 6, 0))), some (.inl a1), some (.inl a2), some (.inl a3), some (.inl a4), some (.inl a5), none, none, none, none]) (h' := h) 3 (fun _ _ => rfl) (eRp_refuse (by omega) hx64) ?_
    have hz := Option.some.inj HF
    subst hz
    exact q_rtn 1 (fun _ _ => rfl)
def Rp_delete (a1 : Int32) (a2 : Int32) (h : q_H) : Option (Int32 × q_H) :=
  (Rp_asChanger a1 a2 h).bind fun x1 => if x1 = 0 then ((St_seenPlace 0 a1 a2 h).bind fun x3 => (St_endVersion 0 x3 a1 (-1 : Int32) h).bind fun x5 => (St_versionsOf 0 a2 x5).bind fun x7 => (Rp_answer x7 x5).bind fun x9 => some ((x9.1, x9.2))) else ((Rp_refuse x1 h).bind fun x11 => some ((x11.1, x11.2)))
set_option maxRecDepth 100000 in
set_option maxHeartbeats 4000000 in
theorem eRp_delete {d : Nat} (hd : 6 ≤ d) {a1 : Int32} {a2 : Int32} {h : q_H} {r : (Int32 × q_H)} (HF : Rp_delete a1 a2 h = some r) : q_T d 26 [.inr (.inr (24, 6, 0)), .inl a1, .inl a2] h (some (.inl r.1), r.2) := by
  obtain ⟨d, rfl⟩ : ∃ d', d = d' + 1 := ⟨d - 1, by omega⟩
  refine q_ent q_K26 rfl rfl rfl ?_
  unfold Rp_delete at HF
  obtain ⟨x1, hx2, HF⟩ := q_bind HF
  refine q_cll (m' := 50) (av := [.inr (.inr (24, 6, 0)), .inl a1, .inl a2]) (st' := []) (pc' := 6) (loc' := [some (.inr (.inr (24, 6, 0))), some (.inl a1), some (.inl a2), none]) (h' := h) 4 (fun _ _ => rfl) (eRp_asChanger (by omega) hx2) ?_
  refine q_br (P := x1 = 0) (pcT := 17) (pcF := 11) (loc' := [some (.inr (.inr (24, 6, 0))), some (.inl a1), some (.inl a2), some (.inl x1)]) (stk' := []) (h' := h) 3 (fun _ _ => rfl) (fun c13 => ?_) (fun c13 => ?_)
  · rw [if_pos c13] at HF
    obtain ⟨x3, hx4, HF⟩ := q_bind HF
    refine q_cll (m' := 156) (av := [.inr (.inr (0, 0, 0)), .inl a1, .inl a2]) (st' := [.inr (.inr (0, 0, 0))]) (pc' := 30) (loc' := [some (.inr (.inr (24, 6, 0))), some (.inl a1), some (.inl a2), some (.inl x1)]) (h' := h) 7 (fun _ _ => rfl) (eSt_seenPlace (by omega) hx4) ?_
    obtain ⟨x5, hx6, HF⟩ := q_bind HF
    refine q_cll (m' := 162) (av := [.inr (.inr (0, 0, 0)), .inl x3, .inl a1, .inl (-1 : Int32)]) (st' := []) (pc' := 35) (loc' := [some (.inr (.inr (24, 6, 0))), some (.inl a1), some (.inl a2), some (.inl x1)]) (h' := h) 3 (fun _ _ => rfl) (eSt_endVersion (by omega) hx6) ?_
    obtain ⟨x7, hx8, HF⟩ := q_bind HF
    refine q_cll (m' := 150) (av := [.inr (.inr (0, 0, 0)), .inl a2]) (st' := [.inr (.inr (24, 6, 0))]) (pc' := 44) (loc' := [some (.inr (.inr (24, 6, 0))), some (.inl a1), some (.inl a2), some (.inl x1)]) (h' := x5) 5 (fun _ _ => rfl) (eSt_versionsOf (by omega) hx8) ?_
    obtain ⟨x9, hx10, HF⟩ := q_bind HF
    refine q_cll (m' := 45) (av := [.inr (.inr (24, 6, 0)), .inl x7]) (st' := []) (pc' := 47) (loc' := [some (.inr (.inr (24, 6, 0))), some (.inl a1), some (.inl a2), some (.inl x1)]) (h' := x5) 1 (fun _ _ => rfl) (eRp_answer (by omega) hx10) ?_
    have hz := Option.some.inj HF
    subst hz
    exact q_rtn 1 (fun _ _ => rfl)
  · rw [if_neg c13] at HF
    obtain ⟨x11, hx12, HF⟩ := q_bind HF
    refine q_cll (m' := 46) (av := [.inr (.inr (24, 6, 0)), .inl x1]) (st' := []) (pc' := 16) (loc' := [some (.inr (.inr (24, 6, 0))), some (.inl a1), some (.inl a2), some (.inl x1)]) (h' := h) 3 (fun _ _ => rfl) (eRp_refuse (by omega) hx12) ?_
    have hz := Option.some.inj HF
    subst hz
    exact q_rtn 1 (fun _ _ => rfl)
def Rp_vacuum  (h : q_H) : Option (Int32 × q_H) :=
  (St_vacuumAll 0 h).bind fun x1 => (Rp_answer x1.1 x1.2).bind fun x3 => some ((x3.1, x3.2))
set_option maxRecDepth 100000 in
set_option maxHeartbeats 4000000 in
theorem eRp_vacuum {d : Nat} (hd : 6 ≤ d)  {h : q_H} {r : (Int32 × q_H)} (HF : Rp_vacuum  h = some r) : q_T d 29 [.inr (.inr (24, 6, 0))] h (some (.inl r.1), r.2) := by
  obtain ⟨d, rfl⟩ : ∃ d', d = d' + 1 := ⟨d - 1, by omega⟩
  refine q_ent q_K29 rfl rfl rfl ?_
  unfold Rp_vacuum at HF
  obtain ⟨x1, hx2, HF⟩ := q_bind HF
  refine q_cll (m' := 166) (av := [.inr (.inr (0, 0, 0))]) (st' := [.inr (.inr (24, 6, 0))]) (pc' := 8) (loc' := [some (.inr (.inr (24, 6, 0)))]) (h' := h) 4 (fun _ _ => rfl) (eSt_vacuumAll (by omega) hx2) ?_
  obtain ⟨x3, hx4, HF⟩ := q_bind HF
  refine q_cll (m' := 45) (av := [.inr (.inr (24, 6, 0)), .inl x1.1]) (st' := []) (pc' := 11) (loc' := [some (.inr (.inr (24, 6, 0)))]) (h' := x1.2) 1 (fun _ _ => rfl) (eRp_answer (by omega) hx4) ?_
  have hz := Option.some.inj HF
  subst hz
  exact q_rtn 1 (fun _ _ => rfl)
def Rp_repack  (h : q_H) : Option (Int32 × q_H) :=
  (Tn_howManyOpen 0 h).bind fun x1 => if x1 ≤ 0 then ((St_copyFrom 1 0 h).bind fun x3 => (St_layAnew 0 1 x3).bind fun x5 => if ¬ x5.1 = 0 then ((Pg_howManyHaveSlots 0 x5.2).bind fun x7 => (Rp_answer x7 x5.2).bind fun x9 => some ((x9.1, x9.2))) else ((St_copyFrom 0 1 x5.2).bind fun x11 => (Rp_refuse (5 : Int32) x11).bind fun x13 => some ((x13.1, x13.2)))) else ((Rp_refuse (10 : Int32) h).bind fun x16 => some ((x16.1, x16.2)))
set_option maxRecDepth 100000 in
set_option maxHeartbeats 4000000 in
theorem eRp_repack {d : Nat} (hd : 6 ≤ d)  {h : q_H} {r : (Int32 × q_H)} (HF : Rp_repack  h = some r) : q_T d 32 [.inr (.inr (24, 6, 0))] h (some (.inl r.1), r.2) := by
  obtain ⟨d, rfl⟩ : ∃ d', d = d' + 1 := ⟨d - 1, by omega⟩
  refine q_ent q_K32 rfl rfl rfl ?_
  unfold Rp_repack at HF
  obtain ⟨x1, hx2, HF⟩ := q_bind HF
  refine q_cll (m' := 117) (av := [.inr (.inr (6, 0, 0))]) (st' := []) (pc' := 10) (loc' := [some (.inr (.inr (24, 6, 0)))]) (h' := h) 4 (fun _ _ => rfl) (eTn_howManyOpen (by omega) hx2) ?_
  refine q_br (P := x1 ≤ 0) (pcT := 20) (pcF := 13) (loc' := [some (.inr (.inr (24, 6, 0)))]) (stk' := []) (h' := h) 1 (fun _ _ => rfl) (fun c18 => ?_) (fun c18 => ?_)
  · rw [if_pos c18] at HF
    obtain ⟨x3, hx4, HF⟩ := q_bind HF
    refine q_cll (m' := 142) (av := [.inr (.inr (0, 1, 0)), .inr (.inr (0, 0, 0))]) (st' := []) (pc' := 31) (loc' := [some (.inr (.inr (24, 6, 0)))]) (h' := h) 5 (fun _ _ => rfl) (eSt_copyFrom (by omega) hx4) ?_
    obtain ⟨x5, hx6, HF⟩ := q_bind HF
    refine q_cll (m' := 176) (av := [.inr (.inr (0, 0, 0)), .inr (.inr (0, 1, 0))]) (st' := []) (pc' := 42) (loc' := [some (.inr (.inr (24, 6, 0)))]) (h' := x3) 5 (fun _ _ => rfl) (eSt_layAnew (by omega) hx6) ?_
    refine q_br (P := ¬ x5.1 = 0) (pcT := 62) (pcF := 45) (loc' := [some (.inr (.inr (24, 6, 0)))]) (stk' := []) (h' := x5.2) 1 (fun _ _ => rfl) (fun c15 => ?_) (fun c15 => ?_)
    · rw [if_pos c15] at HF
      obtain ⟨x7, hx8, HF⟩ := q_bind HF
      refine q_cll (m' := 98) (av := [.inr (.inr (1, 0, 0))]) (st' := [.inr (.inr (24, 6, 0))]) (pc' := 73) (loc' := [some (.inr (.inr (24, 6, 0)))]) (h' := x5.2) 5 (fun _ _ => rfl) (ePg_howManyHaveSlots (by omega) hx8) ?_
      obtain ⟨x9, hx10, HF⟩ := q_bind HF
      refine q_cll (m' := 45) (av := [.inr (.inr (24, 6, 0)), .inl x7]) (st' := []) (pc' := 76) (loc' := [some (.inr (.inr (24, 6, 0)))]) (h' := x5.2) 1 (fun _ _ => rfl) (eRp_answer (by omega) hx10) ?_
      have hz := Option.some.inj HF
      subst hz
      exact q_rtn 1 (fun _ _ => rfl)
    · rw [if_neg c15] at HF
      obtain ⟨x11, hx12, HF⟩ := q_bind HF
      refine q_cll (m' := 142) (av := [.inr (.inr (0, 0, 0)), .inr (.inr (0, 1, 0))]) (st' := []) (pc' := 56) (loc' := [some (.inr (.inr (24, 6, 0)))]) (h' := x5.2) 5 (fun _ _ => rfl) (eSt_copyFrom (by omega) hx12) ?_
      obtain ⟨x13, hx14, HF⟩ := q_bind HF
      refine q_cll (m' := 46) (av := [.inr (.inr (24, 6, 0)), .inl (5 : Int32)]) (st' := []) (pc' := 61) (loc' := [some (.inr (.inr (24, 6, 0)))]) (h' := x11) 3 (fun _ _ => rfl) (eRp_refuse (by omega) hx14) ?_
      have hz := Option.some.inj HF
      subst hz
      exact q_rtn 1 (fun _ _ => rfl)
  · rw [if_neg c18] at HF
    obtain ⟨x16, hx17, HF⟩ := q_bind HF
    refine q_cll (m' := 46) (av := [.inr (.inr (24, 6, 0)), .inl (10 : Int32)]) (st' := []) (pc' := 19) (loc' := [some (.inr (.inr (24, 6, 0)))]) (h' := h) 3 (fun _ _ => rfl) (eRp_refuse (by omega) hx17) ?_
    have hz := Option.some.inj HF
    subst hz
    exact q_rtn 1 (fun _ _ => rfl)
