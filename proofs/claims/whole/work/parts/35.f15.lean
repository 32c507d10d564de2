def Mo_insertNow (a1 : Int32) (a2 : Int32) (a3 : Int32) (a4 : Int32) (h : q_H) : Option (Int32 × q_H) :=
  (Mo_isValue a2 a3 a4 h).bind fun x1 => if ¬ x1 = 0 then ((Mo_isTxn a1 h).bind fun x3 => if ¬ x3 = 0 then (if (h.1 31 0 7 3) = (40 : Int32) then ((Mo_refuse (3 : Int32) h).bind fun x5 => some ((x5.1, x5.2))) else (if ¬ (h.1 31 0 7 5) = (60 : Int32) then ((Mo_isOpen a1 h).bind fun x7 => if ¬ x7 = 0 then ((Mo_isWaiting a1 h).bind fun x9 => if x9 = 0 then ((Mo_firstPlace a4 h).bind fun x11 => if 0 ≤ x11 then ((Mo_inserts a1 a2 a3 a4 h).bind fun x13 => some ((x13.1, x13.2))) else ((Mo_refuse (5 : Int32) h).bind fun x15 => some ((x15.1, x15.2)))) else ((Mo_refuse (11 : Int32) h).bind fun x18 => some ((x18.1, x18.2)))) else ((Mo_refuse (4 : Int32) h).bind fun x21 => some ((x21.1, x21.2)))) else ((Mo_refuse (3 : Int32) h).bind fun x24 => some ((x24.1, x24.2))))) else ((Mo_refuse (2 : Int32) h).bind fun x28 => some ((x28.1, x28.2)))) else ((Mo_refuse (1 : Int32) h).bind fun x31 => some ((x31.1, x31.2)))
set_option maxRecDepth 100000 in
set_option maxHeartbeats 4000000 in
theorem eMo_insertNow {d : Nat} (hd : 7 ≤ d) {a1 : Int32} {a2 : Int32} {a3 : Int32} {a4 : Int32} {h : q_H} {r : (Int32 × q_H)} (HF : Mo_insertNow a1 a2 a3 a4 h = some r) : q_T d 230 [.inr (.inr (30, 7, 0)), .inl a1, .inl a2, .inl a3, .inl a4] h (some (.inl r.1), r.2) := by
  obtain ⟨d, rfl⟩ : ∃ d', d = d' + 1 := ⟨d - 1, by omega⟩
  refine q_ent q_K230 rfl rfl rfl ?_
  unfold Mo_insertNow at HF
  obtain ⟨x1, hx2, HF⟩ := q_bind HF
  refine q_cll (m' := 229) (av := [.inr (.inr (30, 7, 0)), .inl a2, .inl a3, .inl a4]) (st' := []) (pc' := 8) (loc' := [some (.inr (.inr (30, 7, 0))), some (.inl a1), some (.inl a2), some (.inl a3), some (.inl a4)]) (h' := h) 5 (fun _ _ => rfl) (eMo_isValue (by omega) hx2) ?_
  refine q_br (P := ¬ x1 = 0) (pcT := 17) (pcF := 11) (loc' := [some (.inr (.inr (30, 7, 0))), some (.inl a1), some (.inl a2), some (.inl a3), some (.inl a4)]) (stk' := []) (h' := h) 1 (fun _ _ => rfl) (fun c33 => ?_) (fun c33 => ?_)
  · rw [if_pos c33] at HF
    obtain ⟨x3, hx4, HF⟩ := q_bind HF
    refine q_cll (m' := 198) (av := [.inr (.inr (30, 7, 0)), .inl a1]) (st' := []) (pc' := 22) (loc' := [some (.inr (.inr (30, 7, 0))), some (.inl a1), some (.inl a2), some (.inl a3), some (.inl a4)]) (h' := h) 3 (fun _ _ => rfl) (eMo_isTxn (by omega) hx4) ?_
    refine q_br (P := ¬ x3 = 0) (pcT := 31) (pcF := 25) (loc' := [some (.inr (.inr (30, 7, 0))), some (.inl a1), some (.inl a2), some (.inl a3), some (.inl a4)]) (stk' := []) (h' := h) 1 (fun _ _ => rfl) (fun c30 => ?_) (fun c30 => ?_)
    · rw [if_pos c30] at HF
      refine q_br (P := (h.1 31 0 7 3) = (40 : Int32)) (pcT := 53) (pcF := 42) (loc' := [some (.inr (.inr (30, 7, 0))), some (.inl a1), some (.inl a2), some (.inl a3), some (.inl a4)]) (stk' := []) (h' := h) 6 (fun _ _ => rfl) (fun c27 => ?_) (fun c27 => ?_)
      · rw [if_pos c27] at HF
        obtain ⟨x5, hx6, HF⟩ := q_bind HF
        refine q_cll (m' := 182) (av := [.inr (.inr (30, 7, 0)), .inl (3 : Int32)]) (st' := []) (pc' := 58) (loc' := [some (.inr (.inr (30, 7, 0))), some (.inl a1), some (.inl a2), some (.inl a3), some (.inl a4)]) (h' := h) 3 (fun _ _ => rfl) (eMo_refuse (by omega) hx6) ?_
        have hz := Option.some.inj HF
        subst hz
        exact q_rtn 1 (fun _ _ => rfl)
      · rw [if_neg c27] at HF
        refine q_br (P := ¬ (h.1 31 0 7 5) = (60 : Int32)) (pcT := 59) (pcF := 53) (loc' := [some (.inr (.inr (30, 7, 0))), some (.inl a1), some (.inl a2), some (.inl a3), some (.inl a4)]) (stk' := []) (h' := h) 6 (fun _ _ => rfl) (fun c26 => ?_) (fun c26 => ?_)
        · rw [if_pos c26] at HF
          obtain ⟨x7, hx8, HF⟩ := q_bind HF
          refine q_cll (m' := 197) (av := [.inr (.inr (30, 7, 0)), .inl a1]) (st' := []) (pc' := 64) (loc' := [some (.inr (.inr (30, 7, 0))), some (.inl a1), some (.inl a2), some (.inl a3), some (.inl a4)]) (h' := h) 3 (fun _ _ => rfl) (eMo_isOpen (by omega) hx8) ?_
          refine q_br (P := ¬ x7 = 0) (pcT := 73) (pcF := 67) (loc' := [some (.inr (.inr (30, 7, 0))), some (.inl a1), some (.inl a2), some (.inl a3), some (.inl a4)]) (stk' := []) (h' := h) 1 (fun _ _ => rfl) (fun c23 => ?_) (fun c23 => ?_)
          · rw [if_pos c23] at HF
            obtain ⟨x9, hx10, HF⟩ := q_bind HF
            refine q_cll (m' := 201) (av := [.inr (.inr (30, 7, 0)), .inl a1]) (st' := []) (pc' := 78) (loc' := [some (.inr (.inr (30, 7, 0))), some (.inl a1), some (.inl a2), some (.inl a3), some (.inl a4)]) (h' := h) 3 (fun _ _ => rfl) (eMo_isWaiting (by omega) hx10) ?_
            refine q_br (P := x9 = 0) (pcT := 88) (pcF := 81) (loc' := [some (.inr (.inr (30, 7, 0))), some (.inl a1), some (.inl a2), some (.inl a3), some (.inl a4)]) (stk' := []) (h' := h) 1 (fun _ _ => rfl) (fun c20 => ?_) (fun c20 => ?_)
            · rw [if_pos c20] at HF
              obtain ⟨x11, hx12, HF⟩ := q_bind HF
              refine q_cll (m' := 194) (av := [.inr (.inr (30, 7, 0)), .inl a4]) (st' := []) (pc' := 94) (loc' := [some (.inr (.inr (30, 7, 0))), some (.inl a1), some (.inl a2), some (.inl a3), some (.inl a4)]) (h' := h) 3 (fun _ _ => rfl) (eMo_firstPlace (by omega) hx12) ?_
              refine q_br (P := 0 ≤ x11) (pcT := 105) (pcF := 97) (loc' := [some (.inr (.inr (30, 7, 0))), some (.inl a1), some (.inl a2), some (.inl a3), some (.inl a4)]) (stk' := []) (h' := h) 1 (fun _ _ => rfl) (fun c17 => ?_) (fun c17 => ?_)
              · rw [if_pos c17] at HF
                obtain ⟨x13, hx14, HF⟩ := q_bind HF
                refine q_cll (m' := 226) (av := [.inr (.inr (30, 7, 0)), .inl a1, .inl a2, .inl a3, .inl a4]) (st' := []) (pc' := 114) (loc' := [some (.inr (.inr (30, 7, 0))), some (.inl a1), some (.inl a2), some (.inl a3), some (.inl a4)]) (h' := h) 6 (fun _ _ => rfl) (eMo_inserts (by omega) hx14) ?_
                have hz := Option.some.inj HF
                subst hz
                exact q_rtn 1 (fun _ _ => rfl)
              · rw [if_neg c17] at HF
                obtain ⟨x15, hx16, HF⟩ := q_bind HF
                refine q_cll (m' := 182) (av := [.inr (.inr (30, 7, 0)), .inl (5 : Int32)]) (st' := []) (pc' := 102) (loc' := [some (.inr (.inr (30, 7, 0))), some (.inl a1), some (.inl a2), some (.inl a3), some (.inl a4)]) (h' := h) 3 (fun _ _ => rfl) (eMo_refuse (by omega) hx16) ?_
                have hz := Option.some.inj HF
                subst hz
                exact q_rtn 2 (fun _ _ => rfl)
            · rw [if_neg c20] at HF
              obtain ⟨x18, hx19, HF⟩ := q_bind HF
              refine q_cll (m' := 182) (av := [.inr (.inr (30, 7, 0)), .inl (11 : Int32)]) (st' := []) (pc' := 87) (loc' := [some (.inr (.inr (30, 7, 0))), some (.inl a1), some (.inl a2), some (.inl a3), some (.inl a4)]) (h' := h) 3 (fun _ _ => rfl) (eMo_refuse (by omega) hx19) ?_
              have hz := Option.some.inj HF
              subst hz
              exact q_rtn 1 (fun _ _ => rfl)
          · rw [if_neg c23] at HF
            obtain ⟨x21, hx22, HF⟩ := q_bind HF
            refine q_cll (m' := 182) (av := [.inr (.inr (30, 7, 0)), .inl (4 : Int32)]) (st' := []) (pc' := 72) (loc' := [some (.inr (.inr (30, 7, 0))), some (.inl a1), some (.inl a2), some (.inl a3), some (.inl a4)]) (h' := h) 3 (fun _ _ => rfl) (eMo_refuse (by omega) hx22) ?_
            have hz := Option.some.inj HF
            subst hz
            exact q_rtn 1 (fun _ _ => rfl)
        · rw [if_neg c26] at HF
          obtain ⟨x24, hx25, HF⟩ := q_bind HF
          refine q_cll (m' := 182) (av := [.inr (.inr (30, 7, 0)), .inl (3 : Int32)]) (st' := []) (pc' := 58) (loc' := [some (.inr (.inr (30, 7, 0))), some (.inl a1), some (.inl a2), some (.inl a3), some (.inl a4)]) (h' := h) 3 (fun _ _ => rfl) (eMo_refuse (by omega) hx25) ?_
          have hz := Option.some.inj HF
          subst hz
          exact q_rtn 1 (fun _ _ => rfl)
    · rw [if_neg c30] at HF
      obtain ⟨x28, hx29, HF⟩ := q_bind HF
      refine q_cll (m' := 182) (av := [.inr (.inr (30, 7, 0)), .inl (2 : Int32)]) (st' := []) (pc' := 30) (loc' := [some (.inr (.inr (30, 7, 0))), some (.inl a1), some (.inl a2), some (.inl a3), some (.inl a4)]) (h' := h) 3 (fun _ _ => rfl) (eMo_refuse (by omega) hx29) ?_
      have hz := Option.some.inj HF
      subst hz
      exact q_rtn 1 (fun _ _ => rfl)
  · rw [if_neg c33] at HF
    obtain ⟨x31, hx32, HF⟩ := q_bind HF
    refine q_cll (m' := 182) (av := [.inr (.inr (30, 7, 0)), .inl (1 : Int32)]) (st' := []) (pc' := 16) (loc' := [some (.inr (.inr (30, 7, 0))), some (.inl a1), some (.inl a2), some (.inl a3), some (.inl a4)]) (h' := h) 3 (fun _ _ => rfl) (eMo_refuse (by omega) hx32) ?_
    have hz := Option.some.inj HF
    subst hz
    exact q_rtn 1 (fun _ _ => rfl)
def Mo_updateNow (a1 : Int32) (a2 : Int32) (a3 : Int32) (a4 : Int32) (a5 : Int32) (h : q_H) : Option (Int32 × q_H) :=
  (Mo_isValue a3 a4 a5 h).bind fun x1 => if ¬ x1 = 0 then ((Mo_touched a1 a2 h).bind fun x3 => if 0 ≤ x3.1 then ((Mo_copy 31 7 32 7 x3.2).bind fun x5 => (Mo_placeIn (x3.1 / (10 : Int32)) a5 x5).bind fun x7 => Option.bind (α := Int32 × q_H) (if 0 ≤ x7 then (some ((x7, x5))) else ((Mo_prunes (x3.1 / (10 : Int32)) x5).bind fun x13 => (Mo_placeIn (x3.1 / (10 : Int32)) a5 x13.2).bind fun x15 => some ((x15, x13.2)))) (fun p18 => Option.bind (α := Int32) (if 0 ≤ p18.1 then (some (p18.1)) else ((Mo_firstPlace a5 p18.2).bind fun x23 => some (x23))) (fun p26 => Option.bind (α := Int32) (if p26 < 0 then (some ((0 : Int32))) else (if ¬ (p26 / (10 : Int32)) = (x3.1 / (10 : Int32)) then (some ((0 : Int32))) else ((Mo_of x3.1 (3 : Int32) p18.2).bind fun x31 => if ¬ x31 = a3 then (some ((0 : Int32))) else (some ((1 : Int32)))))) (fun p36 => Option.bind (α := Int32) (if 0 ≤ p26 then (if ¬ p36 = 0 then (some ((0 : Int32))) else (if ¬ (p18.2.1 31 0 7 5) = (60 : Int32) then (some ((0 : Int32))) else (some ((3 : Int32))))) else (some ((5 : Int32)))) (fun p44 => if p44 ≤ 0 then ((Mo_fills p26 a2 a3 a4 a5 a1 p36 p18.2).bind fun x45 => Option.bind (α := q_H) (if ¬ p36 = 0 then (some (x45)) else ((Mo_enters a3 p26 x45).bind fun x51 => some (x51))) (fun p54 => (Mo_endsAt x3.1 a1 (p26 / (10 : Int32)) (p26 - p26 / (10 : Int32) * (10 : Int32)) p54).bind fun x55 => if p36 = 0 then (some (((0 : Int32), x55))) else (some (((1 : Int32), x55))))) else ((Mo_copy 32 7 31 7 p18.2).bind fun x59 => (Mo_refuse p44 x59).bind fun x61 => some ((x61.1, x61.2)))))))) else (some (((-1 : Int32), x3.2)))) else ((Mo_refuse (1 : Int32) h).bind fun x69 => some ((x69.1, x69.2)))
set_option maxRecDepth 100000 in
set_option maxHeartbeats 4000000 in
theorem eMo_updateNow {d : Nat} (hd : 7 ≤ d) {a1 : Int32} {a2 : Int32} {a3 : Int32} {a4 : Int32} {a5 : Int32} {h : q_H} {r : (Int32 × q_H)} (HF : Mo_updateNow a1 a2 a3 a4 a5 h = some r) : q_T d 233 [.inr (.inr (30, 7, 0)), .inl a1, .inl a2, .inl a3, .inl a4, .inl a5] h (some (.inl r.1), r.2) := by
  obtain ⟨d, rfl⟩ : ∃ d', d = d' + 1 := ⟨d - 1, by omega⟩
  refine q_ent q_K233 rfl rfl rfl ?_
  unfold Mo_updateNow at HF
  obtain ⟨x1, hx2, HF⟩ := q_bind HF
  refine q_cll (m' := 229) (av := [.inr (.inr (30, 7, 0)), .inl a3, .inl a4, .inl a5]) (st' := []) (pc' := 9) (loc' := [some (.inr (.inr (30, 7, 0))), some (.inl a1), some (.inl a2), some (.inl a3), some (.inl a4), some (.inl a5), none, none, none, none, none]) (h' := h) 5 (fun _ _ => rfl) (eMo_isValue (by omega) hx2) ?_
  refine q_br (P := ¬ x1 = 0) (pcT := 18) (pcF := 12) (loc' := [some (.inr (.inr (30, 7, 0))), some (.inl a1), some (.inl a2), some (.inl a3), some (.inl a4), some (.inl a5), none, none, none, none, none]) (stk' := []) (h' := h) 1 (fun _ _ => rfl) (fun c71 => ?_) (fun c71 => ?_)
  · rw [if_pos c71] at HF
    obtain ⟨x3, hx4, HF⟩ := q_bind HF
    refine q_cll (m' := 232) (av := [.inr (.inr (30, 7, 0)), .inl a1, .inl a2]) (st' := []) (pc' := 24) (loc' := [some (.inr (.inr (30, 7, 0))), some (.inl a1), some (.inl a2), some (.inl a3), some (.inl a4), some (.inl a5), none, none, none, none, none]) (h' := h) 4 (fun _ _ => rfl) (eMo_touched (by omega) hx4) ?_
    refine q_br (P := 0 ≤ x3.1) (pcT := 33) (pcF := 31) (loc' := [some (.inr (.inr (30, 7, 0))), some (.inl a1), some (.inl a2), some (.inl a3), some (.inl a4), some (.inl a5), some (.inl x3.1), none, none, none, none]) (stk' := []) (h' := x3.2) 3 (fun _ _ => rfl) (fun c68 => ?_) (fun c68 => ?_)
    · rw [if_pos c68] at HF
      obtain ⟨x5, hx6, HF⟩ := q_bind HF
      refine q_cll (m' := 186) (av := [.inr (.inr (31, 7, 0)), .inr (.inr (32, 7, 0))]) (st' := []) (pc' := 44) (loc' := [some (.inr (.inr (30, 7, 0))), some (.inl a1), some (.inl a2), some (.inl a3), some (.inl a4), some (.inl a5), some (.inl x3.1), none, none, none, none]) (h' := x3.2) 5 (fun _ _ => rfl) (eMo_copy (by omega) hx6) ?_
      obtain ⟨x7, hx8, HF⟩ := q_bind HF
      refine q_cll (m' := 193) (av := [.inr (.inr (30, 7, 0)), .inl (x3.1 / (10 : Int32)), .inl a5]) (st' := []) (pc' := 59) (loc' := [some (.inr (.inr (30, 7, 0))), some (.inl a1), some (.inl a2), some (.inl a3), some (.inl a4), some (.inl a5), some (.inl x3.1), some (.inl (x3.1 / (10 : Int32))), none, none, none]) (h' := x5) 8 (fun _ _ => rfl) (eMo_placeIn (by omega) hx8) ?_
      obtain ⟨z9, HA10, HK11⟩ := q_bind HF
      have hP12 : ∀ p18 : Int32 × q_H, (Option.bind (α := Int32) (if 0 ≤ p18.1 then (some (p18.1)) else ((Mo_firstPlace a5 p18.2).bind fun x23 => some (x23))) (fun p26 => Option.bind (α := Int32) (if p26 < 0 then (some ((0 : Int32))) else (if ¬ (p26 / (10 : Int32)) = (x3.1 / (10 : Int32)) then (some ((0 : Int32))) else ((Mo_of x3.1 (3 : Int32) p18.2).bind fun x31 => if ¬ x31 = a3 then (some ((0 : Int32))) else (some ((1 : Int32)))))) (fun p36 => Option.bind (α := Int32) (if 0 ≤ p26 then (if ¬ p36 = 0 then (some ((0 : Int32))) else (if ¬ (p18.2.1 31 0 7 5) = (60 : Int32) then (some ((0 : Int32))) else (some ((3 : Int32))))) else (some ((5 : Int32)))) (fun p44 => if p44 ≤ 0 then ((Mo_fills p26 a2 a3 a4 a5 a1 p36 p18.2).bind fun x45 => Option.bind (α := q_H) (if ¬ p36 = 0 then (some (x45)) else ((Mo_enters a3 p26 x45).bind fun x51 => some (x51))) (fun p54 => (Mo_endsAt x3.1 a1 (p26 / (10 : Int32)) (p26 - p26 / (10 : Int32) * (10 : Int32)) p54).bind fun x55 => if p36 = 0 then (some (((0 : Int32), x55))) else (some (((1 : Int32), x55))))) else ((Mo_copy 32 7 31 7 p18.2).bind fun x59 => (Mo_refuse p44 x59).bind fun x61 => some ((x61.1, x61.2)))))) : Option (Int32 × q_H)) = some r → q_E d q_K233 83 [some (.inr (.inr (30, 7, 0))), some (.inl a1), some (.inl a2), some (.inl a3), some (.inl a4), some (.inl a5), some (.inl x3.1), some (.inl (x3.1 / (10 : Int32))), some (.inl p18.1), none, none] [] p18.2 (some (.inl r.1), r.2) := by
        intro p18 HF
        obtain ⟨z19, HA20, HK21⟩ := q_bind HF
        have hP22 : ∀ p26 : Int32, (Option.bind (α := Int32) (if p26 < 0 then (some ((0 : Int32))) else (if ¬ (p26 / (10 : Int32)) = (x3.1 / (10 : Int32)) then (some ((0 : Int32))) else ((Mo_of x3.1 (3 : Int32) p18.2).bind fun x31 => if ¬ x31 = a3 then (some ((0 : Int32))) else (some ((1 : Int32)))))) (fun p36 => Option.bind (α := Int32) (if 0 ≤ p26 then (if ¬ p36 = 0 then (some ((0 : Int32))) else (if ¬ (p18.2.1 31 0 7 5) = (60 : Int32) then (some ((0 : Int32))) else (some ((3 : Int32))))) else (some ((5 : Int32)))) (fun p44 => if p44 ≤ 0 then ((Mo_fills p26 a2 a3 a4 a5 a1 p36 p18.2).bind fun x45 => Option.bind (α := q_H) (if ¬ p36 = 0 then (some (x45)) else ((Mo_enters a3 p26 x45).bind fun x51 => some (x51))) (fun p54 => (Mo_endsAt x3.1 a1 (p26 / (10 : Int32)) (p26 - p26 / (10 : Int32) * (10 : Int32)) p54).bind fun x55 => if p36 = 0 then (some (((0 : Int32), x55))) else (some (((1 : Int32), x55))))) else ((Mo_copy 32 7 31 7 p18.2).bind fun x59 => (Mo_refuse p44 x59).bind fun x61 => some ((x61.1, x61.2))))) : Option (Int32 × q_H)) = some r → q_E d q_K233 96 [some (.inr (.inr (30, 7, 0))), some (.inl a1), some (.inl a2), some (.inl a3), some (.inl a4), some (.inl a5), some (.inl x3.1), some (.inl (x3.1 / (10 : Int32))), some (.inl p26), none, none] [] p18.2 (some (.inl r.1), r.2) := by
          intro p26 HF
          obtain ⟨z27, HA28, HK29⟩ := q_bind HF
          have hP30 : ∀ p36 : Int32, (Option.bind (α := Int32) (if 0 ≤ p26 then (if ¬ p36 = 0 then (some ((0 : Int32))) else (if ¬ (p18.2.1 31 0 7 5) = (60 : Int32) then (some ((0 : Int32))) else (some ((3 : Int32))))) else (some ((5 : Int32)))) (fun p44 => if p44 ≤ 0 then ((Mo_fills p26 a2 a3 a4 a5 a1 p36 p18.2).bind fun x45 => Option.bind (α := q_H) (if ¬ p36 = 0 then (some (x45)) else ((Mo_enters a3 p26 x45).bind fun x51 => some (x51))) (fun p54 => (Mo_endsAt x3.1 a1 (p26 / (10 : Int32)) (p26 - p26 / (10 : Int32) * (10 : Int32)) p54).bind fun x55 => if p36 = 0 then (some (((0 : Int32), x55))) else (some (((1 : Int32), x55))))) else ((Mo_copy 32 7 31 7 p18.2).bind fun x59 => (Mo_refuse p44 x59).bind fun x61 => some ((x61.1, x61.2)))) : Option (Int32 × q_H)) = some r → q_E d q_K233 127 [some (.inr (.inr (30, 7, 0))), some (.inl a1), some (.inl a2), some (.inl a3), some (.inl a4), some (.inl a5), some (.inl x3.1), some (.inl (x3.1 / (10 : Int32))), some (.inl p26), none, none] [.inl p36] p18.2 (some (.inl r.1), r.2) := by
            intro p36 HF
            obtain ⟨z37, HA38, HK39⟩ := q_bind HF
            have hP40 : ∀ p44 : Int32, (if p44 ≤ 0 then ((Mo_fills p26 a2 a3 a4 a5 a1 p36 p18.2).bind fun x45 => Option.bind (α := q_H) (if ¬ p36 = 0 then (some (x45)) else ((Mo_enters a3 p26 x45).bind fun x51 => some (x51))) (fun p54 => (Mo_endsAt x3.1 a1 (p26 / (10 : Int32)) (p26 - p26 / (10 : Int32) * (10 : Int32)) p54).bind fun x55 => if p36 = 0 then (some (((0 : Int32), x55))) else (some (((1 : Int32), x55))))) else ((Mo_copy 32 7 31 7 p18.2).bind fun x59 => (Mo_refuse p44 x59).bind fun x61 => some ((x61.1, x61.2))) : Option (Int32 × q_H)) = some r → q_E d q_K233 159 [some (.inr (.inr (30, 7, 0))), some (.inl a1), some (.inl a2), some (.inl a3), some (.inl a4), some (.inl a5), some (.inl x3.1), some (.inl (x3.1 / (10 : Int32))), some (.inl p26), some (.inl p36), none] [.inl p44] p18.2 (some (.inl r.1), r.2) := by
              intro p44 HF
              refine q_br (P := p44 ≤ 0) (pcT := 184) (pcF := 166) (loc' := [some (.inr (.inr (30, 7, 0))), some (.inl a1), some (.inl a2), some (.inl a3), some (.inl a4), some (.inl a5), some (.inl x3.1), some (.inl (x3.1 / (10 : Int32))), some (.inl p26), some (.inl p36), some (.inl p44)]) (stk' := []) (h' := p18.2) 3 (fun _ _ => rfl) (fun c63 => ?_) (fun c63 => ?_)
              · rw [if_pos c63] at HF
                obtain ⟨x45, hx46, HF⟩ := q_bind HF
                refine q_cll (m' := 195) (av := [.inr (.inr (30, 7, 0)), .inl p26, .inl a2, .inl a3, .inl a4, .inl a5, .inl a1, .inl p36]) (st' := []) (pc' := 199) (loc' := [some (.inr (.inr (30, 7, 0))), some (.inl a1), some (.inl a2), some (.inl a3), some (.inl a4), some (.inl a5), some (.inl x3.1), some (.inl (x3.1 / (10 : Int32))), some (.inl p26), some (.inl p36), some (.inl p44)]) (h' := p18.2) 9 (fun _ _ => rfl) (eMo_fills (by omega) hx46) ?_
                obtain ⟨z47, HA48, HK49⟩ := q_bind HF
                have hP50 : ∀ p54 : q_H, ((Mo_endsAt x3.1 a1 (p26 / (10 : Int32)) (p26 - p26 / (10 : Int32) * (10 : Int32)) p54).bind fun x55 => if p36 = 0 then (some (((0 : Int32), x55))) else (some (((1 : Int32), x55))) : Option (Int32 × q_H)) = some r → q_E d q_K233 211 [some (.inr (.inr (30, 7, 0))), some (.inl a1), some (.inl a2), some (.inl a3), some (.inl a4), some (.inl a5), some (.inl x3.1), some (.inl (x3.1 / (10 : Int32))), some (.inl p26), some (.inl p36), some (.inl p44)] [] p54 (some (.inl r.1), r.2) := by
                  intro p54 HF
                  obtain ⟨x55, hx56, HF⟩ := q_bind HF
                  refine q_cll (m' := 227) (av := [.inr (.inr (30, 7, 0)), .inl x3.1, .inl a1, .inl (p26 / (10 : Int32)), .inl (p26 - p26 / (10 : Int32) * (10 : Int32))]) (st' := []) (pc' := 228) (loc' := [some (.inr (.inr (30, 7, 0))), some (.inl a1), some (.inl a2), some (.inl a3), some (.inl a4), some (.inl a5), some (.inl x3.1), some (.inl (x3.1 / (10 : Int32))), some (.inl p26), some (.inl p36), some (.inl p44)]) (h' := p54) 10 (fun _ _ => rfl) (eMo_endsAt (by omega) hx56) ?_
                  refine q_br (P := p36 = 0) (pcT := 237) (pcF := 233) (loc' := [some (.inr (.inr (30, 7, 0))), some (.inl a1), some (.inl a2), some (.inl a3), some (.inl a4), some (.inl a5), some (.inl x3.1), some (.inl (x3.1 / (10 : Int32))), some (.inl p26), some (.inl p36), some (.inl p44)]) (stk' := []) (h' := x55) 2 (fun _ _ => rfl) (fun c57 => ?_) (fun c57 => ?_)
                  · rw [if_pos c57] at HF
                    have hz := Option.some.inj HF
                    subst hz
                    exact q_rtn 2 (fun _ _ => rfl)
                  · rw [if_neg c57] at HF
                    have hz := Option.some.inj HF
                    subst hz
                    exact q_rtn 3 (fun _ _ => rfl)
                replace HF := HA48
                refine q_br (P := ¬ p36 = 0) (pcT := 211) (pcF := 204) (loc' := [some (.inr (.inr (30, 7, 0))), some (.inl a1), some (.inl a2), some (.inl a3), some (.inl a4), some (.inl a5), some (.inl x3.1), some (.inl (x3.1 / (10 : Int32))), some (.inl p26), some (.inl p36), some (.inl p44)]) (stk' := []) (h' := x45) 2 (fun _ _ => rfl) (fun c53 => ?_) (fun c53 => ?_)
                · rw [if_pos c53] at HF
                  have hz := Option.some.inj HF
                  subst hz
                  exact hP50 (x45) HK49
                · rw [if_neg c53] at HF
                  obtain ⟨x51, hx52, HF⟩ := q_bind HF
                  refine q_cll (m' := 218) (av := [.inr (.inr (30, 7, 0)), .inl a3, .inl p26]) (st' := []) (pc' := 211) (loc' := [some (.inr (.inr (30, 7, 0))), some (.inl a1), some (.inl a2), some (.inl a3), some (.inl a4), some (.inl a5), some (.inl x3.1), some (.inl (x3.1 / (10 : Int32))), some (.inl p26), some (.inl p36), some (.inl p44)]) (h' := x45) 4 (fun _ _ => rfl) (eMo_enters (by omega) hx52) ?_
                  have hz := Option.some.inj HF
                  subst hz
                  exact hP50 (x51) HK49
              · rw [if_neg c63] at HF
                obtain ⟨x59, hx60, HF⟩ := q_bind HF
                refine q_cll (m' := 186) (av := [.inr (.inr (32, 7, 0)), .inr (.inr (31, 7, 0))]) (st' := []) (pc' := 177) (loc' := [some (.inr (.inr (30, 7, 0))), some (.inl a1), some (.inl a2), some (.inl a3), some (.inl a4), some (.inl a5), some (.inl x3.1), some (.inl (x3.1 / (10 : Int32))), some (.inl p26), some (.inl p36), some (.inl p44)]) (h' := p18.2) 5 (fun _ _ => rfl) (eMo_copy (by omega) hx60) ?_
                obtain ⟨x61, hx62, HF⟩ := q_bind HF
                refine q_cll (m' := 182) (av := [.inr (.inr (30, 7, 0)), .inl p44]) (st' := []) (pc' := 183) (loc' := [some (.inr (.inr (30, 7, 0))), some (.inl a1), some (.inl a2), some (.inl a3), some (.inl a4), some (.inl a5), some (.inl x3.1), some (.inl (x3.1 / (10 : Int32))), some (.inl p26), some (.inl p36), some (.inl p44)]) (h' := x59) 3 (fun _ _ => rfl) (eMo_refuse (by omega) hx62) ?_
                have hz := Option.some.inj HF
                subst hz
                exact q_rtn 1 (fun _ _ => rfl)
            replace HF := HA38
            refine q_br (P := 0 ≤ p26) (pcT := 138) (pcF := 134) (loc' := [some (.inr (.inr (30, 7, 0))), some (.inl a1), some (.inl a2), some (.inl a3), some (.inl a4), some (.inl a5), some (.inl x3.1), some (.inl (x3.1 / (10 : Int32))), some (.inl p26), some (.inl p36), none]) (stk' := []) (h' := p18.2) 3 (fun _ _ => rfl) (fun c43 => ?_) (fun c43 => ?_)
            · rw [if_pos c43] at HF
              refine q_br (P := ¬ p36 = 0) (pcT := 158) (pcF := 143) (loc' := [some (.inr (.inr (30, 7, 0))), some (.inl a1), some (.inl a2), some (.inl a3), some (.inl a4), some (.inl a5), some (.inl x3.1), some (.inl (x3.1 / (10 : Int32))), some (.inl p26), some (.inl p36), none]) (stk' := []) (h' := p18.2) 2 (fun _ _ => rfl) (fun c42 => ?_) (fun c42 => ?_)
              · rw [if_pos c42] at HF
                refine q_blk (pc' := 159) (loc' := [some (.inr (.inr (30, 7, 0))), some (.inl a1), some (.inl a2), some (.inl a3), some (.inl a4), some (.inl a5), some (.inl x3.1), some (.inl (x3.1 / (10 : Int32))), some (.inl p26), some (.inl p36), none]) (stk' := [.inl (0 : Int32)]) (h' := p18.2) 1 (fun _ _ => rfl) ?_
                have hz := Option.some.inj HF
                subst hz
                exact hP40 (0 : Int32) HK39
              · rw [if_neg c42] at HF
                refine q_br (P := ¬ (p18.2.1 31 0 7 5) = (60 : Int32)) (pcT := 158) (pcF := 154) (loc' := [some (.inr (.inr (30, 7, 0))), some (.inl a1), some (.inl a2), some (.inl a3), some (.inl a4), some (.inl a5), some (.inl x3.1), some (.inl (x3.1 / (10 : Int32))), some (.inl p26), some (.inl p36), none]) (stk' := []) (h' := p18.2) 6 (fun _ _ => rfl) (fun c41 => ?_) (fun c41 => ?_)
                · rw [if_pos c41] at HF
                  refine q_blk (pc' := 159) (loc' := [some (.inr (.inr (30, 7, 0))), some (.inl a1), some (.inl a2), some (.inl a3), some (.inl a4), some (.inl a5), some (.inl x3.1), some (.inl (x3.1 / (10 : Int32))), some (.inl p26), some (.inl p36), none]) (stk' := [.inl (0 : Int32)]) (h' := p18.2) 1 (fun _ _ => rfl) ?_
                  have hz := Option.some.inj HF
                  subst hz
                  exact hP40 (0 : Int32) HK39
                · rw [if_neg c41] at HF
                  refine q_blk (pc' := 159) (loc' := [some (.inr (.inr (30, 7, 0))), some (.inl a1), some (.inl a2), some (.inl a3), some (.inl a4), some (.inl a5), some (.inl x3.1), some (.inl (x3.1 / (10 : Int32))), some (.inl p26), some (.inl p36), none]) (stk' := [.inl (3 : Int32)]) (h' := p18.2) 2 (fun _ _ => rfl) ?_
                  have hz := Option.some.inj HF
                  subst hz
                  exact hP40 (3 : Int32) HK39
            · rw [if_neg c43] at HF
              refine q_blk (pc' := 159) (loc' := [some (.inr (.inr (30, 7, 0))), some (.inl a1), some (.inl a2), some (.inl a3), some (.inl a4), some (.inl a5), some (.inl x3.1), some (.inl (x3.1 / (10 : Int32))), some (.inl p26), some (.inl p36), none]) (stk' := [.inl (5 : Int32)]) (h' := p18.2) 2 (fun _ _ => rfl) ?_
              have hz := Option.some.inj HF
              subst hz
              exact hP40 (5 : Int32) HK39
          replace HF := HA28
          refine q_br (P := p26 < 0) (pcT := 126) (pcF := 101) (loc' := [some (.inr (.inr (30, 7, 0))), some (.inl a1), some (.inl a2), some (.inl a3), some (.inl a4), some (.inl a5), some (.inl x3.1), some (.inl (x3.1 / (10 : Int32))), some (.inl p26), none, none]) (stk' := []) (h' := p18.2) 2 (fun _ _ => rfl) (fun c35 => ?_) (fun c35 => ?_)
          · rw [if_pos c35] at HF
            refine q_blk (pc' := 127) (loc' := [some (.inr (.inr (30, 7, 0))), some (.inl a1), some (.inl a2), some (.inl a3), some (.inl a4), some (.inl a5), some (.inl x3.1), some (.inl (x3.1 / (10 : Int32))), some (.inl p26), none, none]) (stk' := [.inl (0 : Int32)]) (h' := p18.2) 1 (fun _ _ => rfl) ?_
            have hz := Option.some.inj HF
            subst hz
            exact hP30 (0 : Int32) HK29
          · rw [if_neg c35] at HF
            refine q_br (P := ¬ (p26 / (10 : Int32)) = (x3.1 / (10 : Int32))) (pcT := 126) (pcF := 111) (loc' := [some (.inr (.inr (30, 7, 0))), some (.inl a1), some (.inl a2), some (.inl a3), some (.inl a4), some (.inl a5), some (.inl x3.1), some (.inl (x3.1 / (10 : Int32))), some (.inl p26), none, none]) (stk' := []) (h' := p18.2) 5 (fun _ _ => rfl) (fun c34 => ?_) (fun c34 => ?_)
            · rw [if_pos c34] at HF
              refine q_blk (pc' := 127) (loc' := [some (.inr (.inr (30, 7, 0))), some (.inl a1), some (.inl a2), some (.inl a3), some (.inl a4), some (.inl a5), some (.inl x3.1), some (.inl (x3.1 / (10 : Int32))), some (.inl p26), none, none]) (stk' := [.inl (0 : Int32)]) (h' := p18.2) 1 (fun _ _ => rfl) ?_
              have hz := Option.some.inj HF
              subst hz
              exact hP30 (0 : Int32) HK29
            · rw [if_neg c34] at HF
              obtain ⟨x31, hx32, HF⟩ := q_bind HF
              refine q_cll (m' := 187) (av := [.inr (.inr (30, 7, 0)), .inl x3.1, .inl (3 : Int32)]) (st' := []) (pc' := 118) (loc' := [some (.inr (.inr (30, 7, 0))), some (.inl a1), some (.inl a2), some (.inl a3), some (.inl a4), some (.inl a5), some (.inl x3.1), some (.inl (x3.1 / (10 : Int32))), some (.inl p26), none, none]) (h' := p18.2) 4 (fun _ _ => rfl) (eMo_of (by omega) hx32) ?_
              refine q_br (P := ¬ x31 = a3) (pcT := 126) (pcF := 122) (loc' := [some (.inr (.inr (30, 7, 0))), some (.inl a1), some (.inl a2), some (.inl a3), some (.inl a4), some (.inl a5), some (.inl x3.1), some (.inl (x3.1 / (10 : Int32))), some (.inl p26), none, none]) (stk' := []) (h' := p18.2) 2 (fun _ _ => rfl) (fun c33 => ?_) (fun c33 => ?_)
              · rw [if_pos c33] at HF
                refine q_blk (pc' := 127) (loc' := [some (.inr (.inr (30, 7, 0))), some (.inl a1), some (.inl a2), some (.inl a3), some (.inl a4), some (.inl a5), some (.inl x3.1), some (.inl (x3.1 / (10 : Int32))), some (.inl p26), none, none]) (stk' := [.inl (0 : Int32)]) (h' := p18.2) 1 (fun _ _ => rfl) ?_
                have hz := Option.some.inj HF
                subst hz
                exact hP30 (0 : Int32) HK29
              · rw [if_neg c33] at HF
                refine q_blk (pc' := 127) (loc' := [some (.inr (.inr (30, 7, 0))), some (.inl a1), some (.inl a2), some (.inl a3), some (.inl a4), some (.inl a5), some (.inl x3.1), some (.inl (x3.1 / (10 : Int32))), some (.inl p26), none, none]) (stk' := [.inl (1 : Int32)]) (h' := p18.2) 2 (fun _ _ => rfl) ?_
                have hz := Option.some.inj HF
                subst hz
                exact hP30 (1 : Int32) HK29
        replace HF := HA20
        refine q_br (P := 0 ≤ p18.1) (pcT := 96) (pcF := 88) (loc' := [some (.inr (.inr (30, 7, 0))), some (.inl a1), some (.inl a2), some (.inl a3), some (.inl a4), some (.inl a5), some (.inl x3.1), some (.inl (x3.1 / (10 : Int32))), some (.inl p18.1), none, none]) (stk' := []) (h' := p18.2) 2 (fun _ _ => rfl) (fun c25 => ?_) (fun c25 => ?_)
        · rw [if_pos c25] at HF
          have hz := Option.some.inj HF
          subst hz
          exact hP22 (p18.1) HK21
        · rw [if_neg c25] at HF
          obtain ⟨x23, hx24, HF⟩ := q_bind HF
          refine q_cll (m' := 194) (av := [.inr (.inr (30, 7, 0)), .inl a5]) (st' := []) (pc' := 94) (loc' := [some (.inr (.inr (30, 7, 0))), some (.inl a1), some (.inl a2), some (.inl a3), some (.inl a4), some (.inl a5), some (.inl x3.1), some (.inl (x3.1 / (10 : Int32))), some (.inl p18.1), none, none]) (h' := p18.2) 3 (fun _ _ => rfl) (eMo_firstPlace (by omega) hx24) ?_
          refine q_blk (pc' := 96) (loc' := [some (.inr (.inr (30, 7, 0))), some (.inl a1), some (.inl a2), some (.inl a3), some (.inl a4), some (.inl a5), some (.inl x3.1), some (.inl (x3.1 / (10 : Int32))), some (.inl x23), none, none]) (stk' := []) (h' := p18.2) 1 (fun _ _ => rfl) ?_
          have hz := Option.some.inj HF
          subst hz
          exact hP22 (x23) HK21
      replace HF := HA10
      refine q_br (P := 0 ≤ x7) (pcT := 83) (pcF := 66) (loc' := [some (.inr (.inr (30, 7, 0))), some (.inl a1), some (.inl a2), some (.inl a3), some (.inl a4), some (.inl a5), some (.inl x3.1), some (.inl (x3.1 / (10 : Int32))), some (.inl x7), none, none]) (stk' := []) (h' := x5) 3 (fun _ _ => rfl) (fun c17 => ?_) (fun c17 => ?_)
      · rw [if_pos c17] at HF
        have hz := Option.some.inj HF
        subst hz
        exact hP12 (x7, x5) HK11
      · rw [if_neg c17] at HF
        obtain ⟨x13, hx14, HF⟩ := q_bind HF
        refine q_cll (m' := 215) (av := [.inr (.inr (30, 7, 0)), .inl (x3.1 / (10 : Int32))]) (st' := []) (pc' := 72) (loc' := [some (.inr (.inr (30, 7, 0))), some (.inl a1), some (.inl a2), some (.inl a3), some (.inl a4), some (.inl a5), some (.inl x3.1), some (.inl (x3.1 / (10 : Int32))), some (.inl x7), none, none]) (h' := x5) 3 (fun _ _ => rfl) (eMo_prunes (by omega) hx14) ?_
        obtain ⟨x15, hx16, HF⟩ := q_bind HF
        refine q_cll (m' := 193) (av := [.inr (.inr (30, 7, 0)), .inl (x3.1 / (10 : Int32)), .inl a5]) (st' := []) (pc' := 81) (loc' := [some (.inr (.inr (30, 7, 0))), some (.inl a1), some (.inl a2), some (.inl a3), some (.inl a4), some (.inl a5), some (.inl x3.1), some (.inl (x3.1 / (10 : Int32))), some (.inl x7), none, none]) (h' := x13.2) 5 (fun _ _ => rfl) (eMo_placeIn (by omega) hx16) ?_
        refine q_blk (pc' := 83) (loc' := [some (.inr (.inr (30, 7, 0))), some (.inl a1), some (.inl a2), some (.inl a3), some (.inl a4), some (.inl a5), some (.inl x3.1), some (.inl (x3.1 / (10 : Int32))), some (.inl x15), none, none]) (stk' := []) (h' := x13.2) 1 (fun _ _ => rfl) ?_
        have hz := Option.some.inj HF
        subst hz
        exact hP12 (x15, x13.2) HK11
    · rw [if_neg c68] at HF
      have hz := Option.some.inj HF
      subst hz
      exact q_rtn 2 (fun _ _ => rfl)
  · rw [if_neg c71] at HF
    obtain ⟨x69, hx70, HF⟩ := q_bind HF
    refine q_cll (m' := 182) (av := [.inr (.inr (30, 7, 0)), .inl (1 : Int32)]) (st' := []) (pc' := 17) (loc' := [some (.inr (.inr (30, 7, 0))), some (.inl a1), some (.inl a2), some (.inl a3), some (.inl a4), some (.inl a5), none, none, none, none, none]) (h' := h) 3 (fun _ _ => rfl) (eMo_refuse (by omega) hx70) ?_
    have hz := Option.some.inj HF
    subst hz
    exact q_rtn 1 (fun _ _ => rfl)
def Mo_pruneNow (a1 : Int32) (h : q_H) : Option (Int32 × q_H) :=
  (Mo_isIn a1 (0 : Int32) (5 : Int32) h).bind fun x1 => if x1 = 0 then ((Mo_refuse (2 : Int32) h).bind fun x3 => some ((x3.1, x3.2))) else ((Mo_prunes a1 h).bind fun x5 => some ((x5.1, x5.2)))
set_option maxRecDepth 100000 in
set_option maxHeartbeats 4000000 in
theorem eMo_pruneNow {d : Nat} (hd : 7 ≤ d) {a1 : Int32} {h : q_H} {r : (Int32 × q_H)} (HF : Mo_pruneNow a1 h = some r) : q_T d 238 [.inr (.inr (30, 7, 0)), .inl a1] h (some (.inl r.1), r.2) := by
  obtain ⟨d, rfl⟩ : ∃ d', d = d' + 1 := ⟨d - 1, by omega⟩
  refine q_ent q_K238 rfl rfl rfl ?_
  unfold Mo_pruneNow at HF
  obtain ⟨x1, hx2, HF⟩ := q_bind HF
  refine q_cll (m' := 184) (av := [.inl a1, .inl (0 : Int32), .inl (5 : Int32)]) (st' := []) (pc' := 6) (loc' := [some (.inr (.inr (30, 7, 0))), some (.inl a1)]) (h' := h) 4 (fun _ _ => rfl) (eMo_isIn (by omega) hx2) ?_
  refine q_br (P := x1 = 0) (pcT := 17) (pcF := 9) (loc' := [some (.inr (.inr (30, 7, 0))), some (.inl a1)]) (stk' := []) (h' := h) 1 (fun _ _ => rfl) (fun c7 => ?_) (fun c7 => ?_)
  · rw [if_pos c7] at HF
    obtain ⟨x3, hx4, HF⟩ := q_bind HF
    refine q_cll (m' := 182) (av := [.inr (.inr (30, 7, 0)), .inl (2 : Int32)]) (st' := []) (pc' := 22) (loc' := [some (.inr (.inr (30, 7, 0))), some (.inl a1)]) (h' := h) 3 (fun _ _ => rfl) (eMo_refuse (by omega) hx4) ?_
    have hz := Option.some.inj HF
    subst hz
    exact q_rtn 1 (fun _ _ => rfl)
  · rw [if_neg c7] at HF
    obtain ⟨x5, hx6, HF⟩ := q_bind HF
    refine q_cll (m' := 215) (av := [.inr (.inr (30, 7, 0)), .inl a1]) (st' := []) (pc' := 14) (loc' := [some (.inr (.inr (30, 7, 0))), some (.inl a1)]) (h' := h) 3 (fun _ _ => rfl) (eMo_prunes (by omega) hx6) ?_
    have hz := Option.some.inj HF
    subst hz
    exact q_rtn 2 (fun _ _ => rfl)
def Mo_lookNow (a1 : Int32) (a2 : Int32) (h : q_H) : Option (Int32 × q_H) :=
  (Mo_isIn a2 (0 : Int32) (99 : Int32) h).bind fun x1 => if ¬ x1 = 0 then ((Mo_isTxn a1 h).bind fun x3 => if ¬ x3 = 0 then ((Mo_isOpen a1 h).bind fun x5 => if ¬ x5 = 0 then ((Mo_isWaiting a1 h).bind fun x7 => if x7 = 0 then ((Mo_looks a1 a2 h).bind fun x9 => some ((x9.1, x9.2))) else ((Mo_refuse (11 : Int32) h).bind fun x11 => some ((x11.1, x11.2)))) else ((Mo_refuse (4 : Int32) h).bind fun x14 => some ((x14.1, x14.2)))) else ((Mo_refuse (2 : Int32) h).bind fun x17 => some ((x17.1, x17.2)))) else ((Mo_refuse (1 : Int32) h).bind fun x20 => some ((x20.1, x20.2)))
set_option maxRecDepth 100000 in
set_option maxHeartbeats 4000000 in
theorem eMo_lookNow {d : Nat} (hd : 7 ≤ d) {a1 : Int32} {a2 : Int32} {h : q_H} {r : (Int32 × q_H)} (HF : Mo_lookNow a1 a2 h = some r) : q_T d 239 [.inr (.inr (30, 7, 0)), .inl a1, .inl a2] h (some (.inl r.1), r.2) := by
  obtain ⟨d, rfl⟩ : ∃ d', d = d' + 1 := ⟨d - 1, by omega⟩
  refine q_ent q_K239 rfl rfl rfl ?_
  unfold Mo_lookNow at HF
  obtain ⟨x1, hx2, HF⟩ := q_bind HF
  refine q_cll (m' := 184) (av := [.inl a2, .inl (0 : Int32), .inl (99 : Int32)]) (st' := []) (pc' := 7) (loc' := [some (.inr (.inr (30, 7, 0))), some (.inl a1), some (.inl a2)]) (h' := h) 4 (fun _ _ => rfl) (eMo_isIn (by omega) hx2) ?_
  refine q_br (P := ¬ x1 = 0) (pcT := 16) (pcF := 10) (loc' := [some (.inr (.inr (30, 7, 0))), some (.inl a1), some (.inl a2)]) (stk' := []) (h' := h) 1 (fun _ _ => rfl) (fun c22 => ?_) (fun c22 => ?_)
  · rw [if_pos c22] at HF
    obtain ⟨x3, hx4, HF⟩ := q_bind HF
    refine q_cll (m' := 198) (av := [.inr (.inr (30, 7, 0)), .inl a1]) (st' := []) (pc' := 21) (loc' := [some (.inr (.inr (30, 7, 0))), some (.inl a1), some (.inl a2)]) (h' := h) 3 (fun _ _ => rfl) (eMo_isTxn (by omega) hx4) ?_
    refine q_br (P := ¬ x3 = 0) (pcT := 30) (pcF := 24) (loc' := [some (.inr (.inr (30, 7, 0))), some (.inl a1), some (.inl a2)]) (stk' := []) (h' := h) 1 (fun _ _ => rfl) (fun c19 => ?_) (fun c19 => ?_)
    · rw [if_pos c19] at HF
      obtain ⟨x5, hx6, HF⟩ := q_bind HF
      refine q_cll (m' := 197) (av := [.inr (.inr (30, 7, 0)), .inl a1]) (st' := []) (pc' := 35) (loc' := [some (.inr (.inr (30, 7, 0))), some (.inl a1), some (.inl a2)]) (h' := h) 3 (fun _ _ => rfl) (eMo_isOpen (by omega) hx6) ?_
      refine q_br (P := ¬ x5 = 0) (pcT := 44) (pcF := 38) (loc' := [some (.inr (.inr (30, 7, 0))), some (.inl a1), some (.inl a2)]) (stk' := []) (h' := h) 1 (fun _ _ => rfl) (fun c16 => ?_) (fun c16 => ?_)
      · rw [if_pos c16] at HF
        obtain ⟨x7, hx8, HF⟩ := q_bind HF
        refine q_cll (m' := 201) (av := [.inr (.inr (30, 7, 0)), .inl a1]) (st' := []) (pc' := 49) (loc' := [some (.inr (.inr (30, 7, 0))), some (.inl a1), some (.inl a2)]) (h' := h) 3 (fun _ _ => rfl) (eMo_isWaiting (by omega) hx8) ?_
        refine q_br (P := x7 = 0) (pcT := 61) (pcF := 52) (loc' := [some (.inr (.inr (30, 7, 0))), some (.inl a1), some (.inl a2)]) (stk' := []) (h' := h) 1 (fun _ _ => rfl) (fun c13 => ?_) (fun c13 => ?_)
        · rw [if_pos c13] at HF
          obtain ⟨x9, hx10, HF⟩ := q_bind HF
          refine q_cll (m' := 240) (av := [.inr (.inr (30, 7, 0)), .inl a1, .inl a2]) (st' := []) (pc' := 67) (loc' := [some (.inr (.inr (30, 7, 0))), some (.inl a1), some (.inl a2)]) (h' := h) 4 (fun _ _ => rfl) (eMo_looks (by omega) hx10) ?_
          have hz := Option.some.inj HF
          subst hz
          exact q_rtn 1 (fun _ _ => rfl)
        · rw [if_neg c13] at HF
          obtain ⟨x11, hx12, HF⟩ := q_bind HF
          refine q_cll (m' := 182) (av := [.inr (.inr (30, 7, 0)), .inl (11 : Int32)]) (st' := []) (pc' := 58) (loc' := [some (.inr (.inr (30, 7, 0))), some (.inl a1), some (.inl a2)]) (h' := h) 3 (fun _ _ => rfl) (eMo_refuse (by omega) hx12) ?_
          have hz := Option.some.inj HF
          subst hz
          exact q_rtn 2 (fun _ _ => rfl)
      · rw [if_neg c16] at HF
        obtain ⟨x14, hx15, HF⟩ := q_bind HF
        refine q_cll (m' := 182) (av := [.inr (.inr (30, 7, 0)), .inl (4 : Int32)]) (st' := []) (pc' := 43) (loc' := [some (.inr (.inr (30, 7, 0))), some (.inl a1), some (.inl a2)]) (h' := h) 3 (fun _ _ => rfl) (eMo_refuse (by omega) hx15) ?_
        have hz := Option.some.inj HF
        subst hz
        exact q_rtn 1 (fun _ _ => rfl)
    · rw [if_neg c19] at HF
      obtain ⟨x17, hx18, HF⟩ := q_bind HF
      refine q_cll (m' := 182) (av := [.inr (.inr (30, 7, 0)), .inl (2 : Int32)]) (st' := []) (pc' := 29) (loc' := [some (.inr (.inr (30, 7, 0))), some (.inl a1), some (.inl a2)]) (h' := h) 3 (fun _ _ => rfl) (eMo_refuse (by omega) hx18) ?_
      have hz := Option.some.inj HF
      subst hz
      exact q_rtn 1 (fun _ _ => rfl)
  · rw [if_neg c22] at HF
    obtain ⟨x20, hx21, HF⟩ := q_bind HF
    refine q_cll (m' := 182) (av := [.inr (.inr (30, 7, 0)), .inl (1 : Int32)]) (st' := []) (pc' := 15) (loc' := [some (.inr (.inr (30, 7, 0))), some (.inl a1), some (.inl a2)]) (h' := h) 3 (fun _ _ => rfl) (eMo_refuse (by omega) hx21) ?_
    have hz := Option.some.inj HF
    subst hz
    exact q_rtn 1 (fun _ _ => rfl)
def Mo_many (a1 : Int32) (h : q_H) : Option (Int32 × q_H) :=
  (Mo_isIn a1 (0 : Int32) (16 : Int32) h).bind fun x1 => Option.bind (α := Int32) (if x1 = 0 then (some ((1 : Int32))) else (some ((0 : Int32)))) (fun p8 => (Mo_is p8 h).bind fun x9 => if ¬ x9.1 = 0 then (if (5 : Int32) ≤ a1 then (if a1 = 5 then ((Mo_horizon x9.2).bind fun x11 => some ((x11, x9.2))) else (if a1 = 6 then (some (((x9.2.1 31 0 7 5), x9.2))) else (if a1 = 7 then ((Mo_manyOf a1 x9.2).bind fun x13 => some ((x13, x9.2))) else (if a1 = 8 then ((Mo_manyOf a1 x9.2).bind fun x15 => some ((x15, x9.2))) else (if a1 = 9 then ((Mo_manyOf a1 x9.2).bind fun x17 => some ((x17, x9.2))) else (if a1 = 10 then ((Mo_manyOf a1 x9.2).bind fun x19 => some ((x19, x9.2))) else (if a1 = 11 then ((Mo_manyOf a1 x9.2).bind fun x21 => some ((x21, x9.2))) else (if a1 = 12 then ((Mo_manyOf a1 x9.2).bind fun x23 => some ((x23, x9.2))) else (if a1 = 13 then ((Mo_manyOf a1 x9.2).bind fun x25 => some ((x25, x9.2))) else (if a1 = 14 then (some (((x9.2.1 30 5 7 0), x9.2))) else (if a1 = 15 then ((Mo_openMany x9.2).bind fun x27 => some ((x27, x9.2))) else (if a1 = 16 then ((Mo_waitMany x9.2).bind fun x29 => some ((x29, x9.2))) else ((Mo_manyOf a1 x9.2).bind fun x31 => some ((x31, x9.2))))))))))))))) else (bif q_in a1 1644 then (some (((x9.2.1 31 0 7 a1.toNatClampNeg), x9.2))) else none)) else (some (((-1 : Int32), x9.2))))
set_option maxRecDepth 100000 in
set_option maxHeartbeats 4000000 in
theorem eMo_many {d : Nat} (hd : 7 ≤ d) {a1 : Int32} {h : q_H} {r : (Int32 × q_H)} (HF : Mo_many a1 h = some r) : q_T d 263 [.inr (.inr (30, 7, 0)), .inl a1] h (some (.inl r.1), r.2) := by
  obtain ⟨d, rfl⟩ : ∃ d', d = d' + 1 := ⟨d - 1, by omega⟩
  refine q_ent q_K263 rfl rfl rfl ?_
  unfold Mo_many at HF
  obtain ⟨x1, hx2, HF⟩ := q_bind HF
  refine q_cll (m' := 184) (av := [.inl a1, .inl (0 : Int32), .inl (16 : Int32)]) (st' := [.inr (.inr (30, 7, 0))]) (pc' := 8) (loc' := [some (.inr (.inr (30, 7, 0))), some (.inl a1)]) (h' := h) 5 (fun _ _ => rfl) (eMo_isIn (by omega) hx2) ?_
  obtain ⟨z3, HA4, HK5⟩ := q_bind HF
  have hP6 : ∀ p8 : Int32, ((Mo_is p8 h).bind fun x9 => if ¬ x9.1 = 0 then (if (5 : Int32) ≤ a1 then (if a1 = 5 then ((Mo_horizon x9.2).bind fun x11 => some ((x11, x9.2))) else (if a1 = 6 then (some (((x9.2.1 31 0 7 5), x9.2))) else (if a1 = 7 then ((Mo_manyOf a1 x9.2).bind fun x13 => some ((x13, x9.2))) else (if a1 = 8 then ((Mo_manyOf a1 x9.2).bind fun x15 => some ((x15, x9.2))) else (if a1 = 9 then ((Mo_manyOf a1 x9.2).bind fun x17 => some ((x17, x9.2))) else (if a1 = 10 then ((Mo_manyOf a1 x9.2).bind fun x19 => some ((x19, x9.2))) else (if a1 = 11 then ((Mo_manyOf a1 x9.2).bind fun x21 => some ((x21, x9.2))) else (if a1 = 12 then ((Mo_manyOf a1 x9.2).bind fun x23 => some ((x23, x9.2))) else (if a1 = 13 then ((Mo_manyOf a1 x9.2).bind fun x25 => some ((x25, x9.2))) else (if a1 = 14 then (some (((x9.2.1 30 5 7 0), x9.2))) else (if a1 = 15 then ((Mo_openMany x9.2).bind fun x27 => some ((x27, x9.2))) else (if a1 = 16 then ((Mo_waitMany x9.2).bind fun x29 => some ((x29, x9.2))) else ((Mo_manyOf a1 x9.2).bind fun x31 => some ((x31, x9.2))))))))))))))) else (bif q_in a1 1644 then (some (((x9.2.1 31 0 7 a1.toNatClampNeg), x9.2))) else none)) else (some (((-1 : Int32), x9.2))) : Option (Int32 × q_H)) = some r → q_E d q_K263 16 [some (.inr (.inr (30, 7, 0))), some (.inl a1)] [.inl p8, .inr (.inr (30, 7, 0))] h (some (.inl r.1), r.2) := by
    intro p8 HF
    obtain ⟨x9, hx10, HF⟩ := q_bind HF
    refine q_cll (m' := 183) (av := [.inr (.inr (30, 7, 0)), .inl p8]) (st' := []) (pc' := 19) (loc' := [some (.inr (.inr (30, 7, 0))), some (.inl a1)]) (h' := h) 1 (fun _ _ => rfl) (eMo_is (by omega) hx10) ?_
    refine q_br (P := ¬ x9.1 = 0) (pcT := 24) (pcF := 22) (loc' := [some (.inr (.inr (30, 7, 0))), some (.inl a1)]) (stk' := []) (h' := x9.2) 1 (fun _ _ => rfl) (fun c47 => ?_) (fun c47 => ?_)
    · rw [if_pos c47] at HF
      refine q_br (P := (5 : Int32) ≤ a1) (pcT := 36) (pcF := 29) (loc' := [some (.inr (.inr (30, 7, 0))), some (.inl a1)]) (stk' := []) (h' := x9.2) 3 (fun _ _ => rfl) (fun c46 => ?_) (fun c46 => ?_)
      · rw [if_pos c46] at HF
        by_cases c33 : a1 = 5
        · rw [if_pos c33] at HF
          refine q_sw (o1 := 63) (pcx := 37) (pc' := 100) (loc' := [some (.inr (.inr (30, 7, 0))), some (.inl a1)]) (stk' := []) (h' := x9.2) 2 (fun _ _ => rfl) (q_tsI c33 rfl) rfl ?_
          obtain ⟨x11, hx12, HF⟩ := q_bind HF
          refine q_cll (m' := 205) (av := [.inr (.inr (30, 7, 0))]) (st' := []) (pc' := 104) (loc' := [some (.inr (.inr (30, 7, 0))), some (.inl a1)]) (h' := x9.2) 2 (fun _ _ => rfl) (eMo_horizon (by omega) hx12) ?_
          have hz := Option.some.inj HF
          subst hz
          exact q_rtn 1 (fun _ _ => rfl)
        · rw [if_neg c33] at HF
          by_cases c34 : a1 = 6
          · rw [if_pos c34] at HF
            refine q_sw (o1 := 68) (pcx := 37) (pc' := 105) (loc' := [some (.inr (.inr (30, 7, 0))), some (.inl a1)]) (stk' := []) (h' := x9.2) 2 (fun _ _ => rfl) (q_tsI c34 rfl) rfl ?_
            have hz := Option.some.inj HF
            subst hz
            exact q_rtn 5 (fun _ _ => rfl)
          · rw [if_neg c34] at HF
            by_cases c35 : a1 = 7
            · rw [if_pos c35] at HF
              refine q_sw (o1 := 90) (pcx := 37) (pc' := 127) (loc' := [some (.inr (.inr (30, 7, 0))), some (.inl a1)]) (stk' := []) (h' := x9.2) 2 (fun _ _ => rfl) (q_tsI c35 rfl) rfl ?_
              obtain ⟨x13, hx14, HF⟩ := q_bind HF
              refine q_cll (m' := 260) (av := [.inr (.inr (30, 7, 0)), .inl a1]) (st' := []) (pc' := 132) (loc' := [some (.inr (.inr (30, 7, 0))), some (.inl a1)]) (h' := x9.2) 3 (fun _ _ => rfl) (eMo_manyOf (by omega) hx14) ?_
              have hz := Option.some.inj HF
              subst hz
              exact q_rtn 1 (fun _ _ => rfl)
            · rw [if_neg c35] at HF
              by_cases c36 : a1 = 8
              · rw [if_pos c36] at HF
                refine q_sw (o1 := 90) (pcx := 37) (pc' := 127) (loc' := [some (.inr (.inr (30, 7, 0))), some (.inl a1)]) (stk' := []) (h' := x9.2) 2 (fun _ _ => rfl) (q_tsI c36 rfl) rfl ?_
                obtain ⟨x15, hx16, HF⟩ := q_bind HF
                refine q_cll (m' := 260) (av := [.inr (.inr (30, 7, 0)), .inl a1]) (st' := []) (pc' := 132) (loc' := [some (.inr (.inr (30, 7, 0))), some (.inl a1)]) (h' := x9.2) 3 (fun _ _ => rfl) (eMo_manyOf (by omega) hx16) ?_
                have hz := Option.some.inj HF
                subst hz
                exact q_rtn 1 (fun _ _ => rfl)
              · rw [if_neg c36] at HF
                by_cases c37 : a1 = 9
                · rw [if_pos c37] at HF
                  refine q_sw (o1 := 90) (pcx := 37) (pc' := 127) (loc' := [some (.inr (.inr (30, 7, 0))), some (.inl a1)]) (stk' := []) (h' := x9.2) 2 (fun _ _ => rfl) (q_tsI c37 rfl) rfl ?_
                  obtain ⟨x17, hx18, HF⟩ := q_bind HF
                  refine q_cll (m' := 260) (av := [.inr (.inr (30, 7, 0)), .inl a1]) (st' := []) (pc' := 132) (loc' := [some (.inr (.inr (30, 7, 0))), some (.inl a1)]) (h' := x9.2) 3 (fun _ _ => rfl) (eMo_manyOf (by omega) hx18) ?_
                  have hz := Option.some.inj HF
                  subst hz
                  exact q_rtn 1 (fun _ _ => rfl)
                · rw [if_neg c37] at HF
                  by_cases c38 : a1 = 10
                  · rw [if_pos c38] at HF
                    refine q_sw (o1 := 90) (pcx := 37) (pc' := 127) (loc' := [some (.inr (.inr (30, 7, 0))), some (.inl a1)]) (stk' := []) (h' := x9.2) 2 (fun _ _ => rfl) (q_tsI c38 rfl) rfl ?_
                    obtain ⟨x19, hx20, HF⟩ := q_bind HF
                    refine q_cll (m' := 260) (av := [.inr (.inr (30, 7, 0)), .inl a1]) (st' := []) (pc' := 132) (loc' := [some (.inr (.inr (30, 7, 0))), some (.inl a1)]) (h' := x9.2) 3 (fun _ _ => rfl) (eMo_manyOf (by omega) hx20) ?_
                    have hz := Option.some.inj HF
                    subst hz
                    exact q_rtn 1 (fun _ _ => rfl)
                  · rw [if_neg c38] at HF
                    by_cases c39 : a1 = 11
                    · rw [if_pos c39] at HF
                      refine q_sw (o1 := 90) (pcx := 37) (pc' := 127) (loc' := [some (.inr (.inr (30, 7, 0))), some (.inl a1)]) (stk' := []) (h' := x9.2) 2 (fun _ _ => rfl) (q_tsI c39 rfl) rfl ?_
                      obtain ⟨x21, hx22, HF⟩ := q_bind HF
                      refine q_cll (m' := 260) (av := [.inr (.inr (30, 7, 0)), .inl a1]) (st' := []) (pc' := 132) (loc' := [some (.inr (.inr (30, 7, 0))), some (.inl a1)]) (h' := x9.2) 3 (fun _ _ => rfl) (eMo_manyOf (by omega) hx22) ?_
                      have hz := Option.some.inj HF
                      subst hz
                      exact q_rtn 1 (fun _ _ => rfl)
                    · rw [if_neg c39] at HF
                      by_cases c40 : a1 = 12
                      · rw [if_pos c40] at HF
                        refine q_sw (o1 := 90) (pcx := 37) (pc' := 127) (loc' := [some (.inr (.inr (30, 7, 0))), some (.inl a1)]) (stk' := []) (h' := x9.2) 2 (fun _ _ => rfl) (q_tsI c40 rfl) rfl ?_
                        obtain ⟨x23, hx24, HF⟩ := q_bind HF
                        refine q_cll (m' := 260) (av := [.inr (.inr (30, 7, 0)), .inl a1]) (st' := []) (pc' := 132) (loc' := [some (.inr (.inr (30, 7, 0))), some (.inl a1)]) (h' := x9.2) 3 (fun _ _ => rfl) (eMo_manyOf (by omega) hx24) ?_
                        have hz := Option.some.inj HF
                        subst hz
                        exact q_rtn 1 (fun _ _ => rfl)
                      · rw [if_neg c40] at HF
                        by_cases c41 : a1 = 13
                        · rw [if_pos c41] at HF
                          refine q_sw (o1 := 90) (pcx := 37) (pc' := 127) (loc' := [some (.inr (.inr (30, 7, 0))), some (.inl a1)]) (stk' := []) (h' := x9.2) 2 (fun _ _ => rfl) (q_tsI c41 rfl) rfl ?_
                          obtain ⟨x25, hx26, HF⟩ := q_bind HF
                          refine q_cll (m' := 260) (av := [.inr (.inr (30, 7, 0)), .inl a1]) (st' := []) (pc' := 132) (loc' := [some (.inr (.inr (30, 7, 0))), some (.inl a1)]) (h' := x9.2) 3 (fun _ _ => rfl) (eMo_manyOf (by omega) hx26) ?_
                          have hz := Option.some.inj HF
                          subst hz
                          exact q_rtn 1 (fun _ _ => rfl)
                        · rw [if_neg c41] at HF
                          by_cases c42 : a1 = 14
                          · rw [if_pos c42] at HF
                            refine q_sw (o1 := 75) (pcx := 37) (pc' := 112) (loc' := [some (.inr (.inr (30, 7, 0))), some (.inl a1)]) (stk' := []) (h' := x9.2) 2 (fun _ _ => rfl) (q_tsI c42 rfl) rfl ?_
                            have hz := Option.some.inj HF
                            subst hz
                            exact q_rtn 3 (fun _ _ => rfl)
                          · rw [if_neg c42] at HF
                            by_cases c43 : a1 = 15
                            · rw [if_pos c43] at HF
                              refine q_sw (o1 := 80) (pcx := 37) (pc' := 117) (loc' := [some (.inr (.inr (30, 7, 0))), some (.inl a1)]) (stk' := []) (h' := x9.2) 2 (fun _ _ => rfl) (q_tsI c43 rfl) rfl ?_
                              obtain ⟨x27, hx28, HF⟩ := q_bind HF
                              refine q_cll (m' := 262) (av := [.inr (.inr (30, 7, 0))]) (st' := []) (pc' := 121) (loc' := [some (.inr (.inr (30, 7, 0))), some (.inl a1)]) (h' := x9.2) 2 (fun _ _ => rfl) (eMo_openMany (by omega) hx28) ?_
                              have hz := Option.some.inj HF
                              subst hz
                              exact q_rtn 1 (fun _ _ => rfl)
                            · rw [if_neg c43] at HF
                              by_cases c44 : a1 = 16
                              · rw [if_pos c44] at HF
                                refine q_sw (o1 := 85) (pcx := 37) (pc' := 122) (loc' := [some (.inr (.inr (30, 7, 0))), some (.inl a1)]) (stk' := []) (h' := x9.2) 2 (fun _ _ => rfl) (q_tsI c44 rfl) rfl ?_
                                obtain ⟨x29, hx30, HF⟩ := q_bind HF
                                refine q_cll (m' := 261) (av := [.inr (.inr (30, 7, 0))]) (st' := []) (pc' := 126) (loc' := [some (.inr (.inr (30, 7, 0))), some (.inl a1)]) (h' := x9.2) 2 (fun _ _ => rfl) (eMo_waitMany (by omega) hx30) ?_
                                have hz := Option.some.inj HF
                                subst hz
                                exact q_rtn 1 (fun _ _ => rfl)
                              · rw [if_neg c44] at HF
                                refine q_sw (o1 := 90) (pcx := 37) (pc' := 127) (loc' := [some (.inr (.inr (30, 7, 0))), some (.inl a1)]) (stk' := []) (h' := x9.2) 2 (fun _ _ => rfl) (q_tsD (a := a1) (lo := 5) (hi := 16) (by have z0 := q_neI c33 (a := 5) rfl; have z1 := q_neI c34 (a := 6) rfl; have z2 := q_neI c35 (a := 7) rfl; have z3 := q_neI c36 (a := 8) rfl; have z4 := q_neI c37 (a := 9) rfl; have z5 := q_neI c38 (a := 10) rfl; have z6 := q_neI c39 (a := 11) rfl; have z7 := q_neI c40 (a := 12) rfl; have z8 := q_neI c41 (a := 13) rfl; have z9 := q_neI c42 (a := 14) rfl; have z10 := q_neI c43 (a := 15) rfl; have z11 := q_neI c44 (a := 16) rfl; omega)) rfl ?_
                                obtain ⟨x31, hx32, HF⟩ := q_bind HF
                                refine q_cll (m' := 260) (av := [.inr (.inr (30, 7, 0)), .inl a1]) (st' := []) (pc' := 132) (loc' := [some (.inr (.inr (30, 7, 0))), some (.inl a1)]) (h' := x9.2) 3 (fun _ _ => rfl) (eMo_manyOf (by omega) hx32) ?_
                                have hz := Option.some.inj HF
                                subst hz
                                exact q_rtn 1 (fun _ _ => rfl)
      · rw [if_neg c46] at HF
        obtain ⟨g45, HF⟩ := q_gF HF
        refine q_gd (pc' := 35) (loc' := [some (.inr (.inr (30, 7, 0))), some (.inl a1)]) (stk' := [.inl (x9.2.1 31 0 7 a1.toNatClampNeg)]) (h' := x9.2) 4 (fun _ _ => rfl) g45 ?_
        have hz := Option.some.inj HF
        subst hz
        exact q_rtn 1 (fun _ _ => rfl)
    · rw [if_neg c47] at HF
      have hz := Option.some.inj HF
      subst hz
      exact q_rtn 2 (fun _ _ => rfl)
  replace HF := HA4
  refine q_br (P := x1 = 0) (pcT := 15) (pcF := 11) (loc' := [some (.inr (.inr (30, 7, 0))), some (.inl a1)]) (stk' := [.inr (.inr (30, 7, 0))]) (h' := h) 1 (fun _ _ => rfl) (fun c7 => ?_) (fun c7 => ?_)
  · rw [if_pos c7] at HF
    refine q_blk (pc' := 16) (loc' := [some (.inr (.inr (30, 7, 0))), some (.inl a1)]) (stk' := [.inl (1 : Int32), .inr (.inr (30, 7, 0))]) (h' := h) 1 (fun _ _ => rfl) ?_
    have hz := Option.some.inj HF
    subst hz
    exact hP6 (1 : Int32) HK5
  · rw [if_neg c7] at HF
    refine q_blk (pc' := 16) (loc' := [some (.inr (.inr (30, 7, 0))), some (.inl a1)]) (stk' := [.inl (0 : Int32), .inr (.inr (30, 7, 0))]) (h' := h) 2 (fun _ _ => rfl) ?_
    have hz := Option.some.inj HF
    subst hz
    exact hP6 (0 : Int32) HK5
def Mo_delete (a1 : Int32) (a2 : Int32) (h : q_H) : Option (Int32 × q_H) :=
  (Mo_is (0 : Int32) h).bind fun x1 => (Mo_deleteNow a1 a2 x1.2).bind fun x3 => some ((x3.1, x3.2))
set_option maxRecDepth 100000 in
set_option maxHeartbeats 4000000 in
theorem eMo_delete {d : Nat} (hd : 7 ≤ d) {a1 : Int32} {a2 : Int32} {h : q_H} {r : (Int32 × q_H)} (HF : Mo_delete a1 a2 h = some r) : q_T d 286 [.inr (.inr (30, 7, 0)), .inl a1, .inl a2] h (some (.inl r.1), r.2) := by
  obtain ⟨d, rfl⟩ : ∃ d', d = d' + 1 := ⟨d - 1, by omega⟩
  refine q_ent q_K286 rfl rfl rfl ?_
  unfold Mo_delete at HF
  obtain ⟨x1, hx2, HF⟩ := q_bind HF
  refine q_cll (m' := 183) (av := [.inr (.inr (30, 7, 0)), .inl (0 : Int32)]) (st' := []) (pc' := 5) (loc' := [some (.inr (.inr (30, 7, 0))), some (.inl a1), some (.inl a2)]) (h' := h) 3 (fun _ _ => rfl) (eMo_is (by omega) hx2) ?_
  obtain ⟨x3, hx4, HF⟩ := q_bind HF
  refine q_cll (m' := 235) (av := [.inr (.inr (30, 7, 0)), .inl a1, .inl a2]) (st' := []) (pc' := 12) (loc' := [some (.inr (.inr (30, 7, 0))), some (.inl a1), some (.inl a2)]) (h' := x1.2) 5 (fun _ _ => rfl) (eMo_deleteNow (by omega) hx4) ?_
  have hz := Option.some.inj HF
  subst hz
  exact q_rtn 1 (fun _ _ => rfl)
def Mo_repack  (h : q_H) : Option (Int32 × q_H) :=
  (Mo_is (0 : Int32) h).bind fun x1 => (Mo_repackNow x1.2).bind fun x3 => some ((x3.1, x3.2))
set_option maxRecDepth 100000 in
set_option maxHeartbeats 4000000 in
theorem eMo_repack {d : Nat} (hd : 7 ≤ d)  {h : q_H} {r : (Int32 × q_H)} (HF : Mo_repack  h = some r) : q_T d 291 [.inr (.inr (30, 7, 0))] h (some (.inl r.1), r.2) := by
  obtain ⟨d, rfl⟩ : ∃ d', d = d' + 1 := ⟨d - 1, by omega⟩
  refine q_ent q_K291 rfl rfl rfl ?_
  unfold Mo_repack at HF
  obtain ⟨x1, hx2, HF⟩ := q_bind HF
  refine q_cll (m' := 183) (av := [.inr (.inr (30, 7, 0)), .inl (0 : Int32)]) (st' := []) (pc' := 5) (loc' := [some (.inr (.inr (30, 7, 0)))]) (h' := h) 3 (fun _ _ => rfl) (eMo_is (by omega) hx2) ?_
  obtain ⟨x3, hx4, HF⟩ := q_bind HF
  refine q_cll (m' := 248) (av := [.inr (.inr (30, 7, 0))]) (st' := []) (pc' := 10) (loc' := [some (.inr (.inr (30, 7, 0)))]) (h' := x1.2) 3 (fun _ _ => rfl) (eMo_repackNow (by omega) hx4) ?_
  have hz := Option.some.inj HF
  subst hz
  exact q_rtn 1 (fun _ _ => rfl)
def Mo_best  (h : q_H) : Option (Int32 × q_H) :=
  (Mo_is (0 : Int32) h).bind fun x1 => (q_lp (fun s3 : Int32 × Int32 × Int32 × q_H => (if (6 : Int32) ≤ s3.2.2.1 then (some (.inr ((s3.1, s3.2.2.2)))) else ((Mo_copy 31 7 33 7 s3.2.2.2).bind fun x11 => (Mo_freeIn s3.2.2.1 x11).bind fun x13 => (Mo_prunes s3.2.2.1 x11).bind fun x15 => (Mo_freeIn s3.2.2.1 x15.2).bind fun x17 => (Mo_copy 33 7 31 7 x15.2).bind fun x19 => Option.bind (α := Int32 × Int32) (if s3.2.1 < (x17 - x13) then (some ((s3.2.2.1, (x17 - x13)))) else (some ((s3.1, s3.2.1)))) (fun p26 => some (.inl (p26.1, p26.2, (s3.2.2.1 + (1 : Int32)), x19)))) : Option ((Int32 × Int32 × Int32 × q_H) ⊕ (Int32 × q_H)))) q_fu (((-1 : Int32), (0 : Int32), (0 : Int32), x1.2) : Int32 × Int32 × Int32 × q_H)).bind fun p29 => if 0 ≤ p29.1 then (some ((p29.1, p29.2))) else ((Mo_refuse (5 : Int32) p29.2).bind fun x30 => some ((x30.1, x30.2)))
set_option maxRecDepth 100000 in
set_option maxHeartbeats 4000000 in
theorem eMo_best {d : Nat} (hd : 7 ≤ d)  {h : q_H} {r : (Int32 × q_H)} (HF : Mo_best  h = some r) : q_T d 307 [.inr (.inr (30, 7, 0))] h (some (.inl r.1), r.2) := by
  obtain ⟨d, rfl⟩ : ∃ d', d = d' + 1 := ⟨d - 1, by omega⟩
  refine q_ent q_K307 rfl rfl rfl ?_
  unfold Mo_best at HF
  obtain ⟨x1, hx2, HF⟩ := q_bind HF
  refine q_cll (m' := 183) (av := [.inr (.inr (30, 7, 0)), .inl (0 : Int32)]) (st' := []) (pc' := 5) (loc' := [some (.inr (.inr (30, 7, 0))), none, none, none, none, none]) (h' := h) 3 (fun _ _ => rfl) (eMo_is (by omega) hx2) ?_
  refine q_blk (pc' := 12) (loc' := [some (.inr (.inr (30, 7, 0))), some (.inl (-1 : Int32)), some (.inl (0 : Int32)), some (.inl (0 : Int32)), none, none]) (stk' := []) (h' := x1.2) 7 (fun _ _ => rfl) ?_
  obtain ⟨r8, hl9, HK6⟩ := q_bind HF
  have hP7 : ∀ p29 : Int32 × q_H, (if 0 ≤ p29.1 then (some ((p29.1, p29.2))) else ((Mo_refuse (5 : Int32) p29.2).bind fun x30 => some ((x30.1, x30.2))) : Option (Int32 × q_H)) = some r → q_E d q_K307 83 [some (.inr (.inr (30, 7, 0))), some (.inl p29.1), none, none, none, none] [] p29.2 (some (.inl r.1), r.2) := by
    intro p29 HF
    refine q_br (P := 0 ≤ p29.1) (pcT := 95) (pcF := 87) (loc' := [some (.inr (.inr (30, 7, 0))), some (.inl p29.1), none, none, none, none]) (stk' := []) (h' := p29.2) 2 (fun _ _ => rfl) (fun c32 => ?_) (fun c32 => ?_)
    · rw [if_pos c32] at HF
      have hz := Option.some.inj HF
      subst hz
      exact q_rtn 2 (fun _ _ => rfl)
    · rw [if_neg c32] at HF
      obtain ⟨x30, hx31, HF⟩ := q_bind HF
      refine q_cll (m' := 182) (av := [.inr (.inr (30, 7, 0)), .inl (5 : Int32)]) (st' := []) (pc' := 92) (loc' := [some (.inr (.inr (30, 7, 0))), some (.inl p29.1), none, none, none, none]) (h' := p29.2) 3 (fun _ _ => rfl) (eMo_refuse (by omega) hx31) ?_
      have hz := Option.some.inj HF
      subst hz
      exact q_rtn 2 (fun _ _ => rfl)
  refine q_lpE (E := fun s3 => q_E d q_K307 12 [some (.inr (.inr (30, 7, 0))), some (.inl s3.1), some (.inl s3.2.1), some (.inl s3.2.2.1), none, none] [] s3.2.2.2 (some (.inl r.1), r.2)) r8 (fun s3 z10 HF H14 H25 => ?_) _ _ hl9
  refine q_br (P := (6 : Int32) ≤ s3.2.2.1) (pcT := 83) (pcF := 18) (loc' := [some (.inr (.inr (30, 7, 0))), some (.inl s3.1), some (.inl s3.2.1), some (.inl s3.2.2.1), none, none]) (stk' := []) (h' := s3.2.2.2) 3 (fun _ _ => rfl) (fun c28 => ?_) (fun c28 => ?_)
  · rw [if_pos c28] at HF
    have hz := Option.some.inj HF
    subst hz
    rw [← H25 _ rfl] at HK6
    exact q_wk (loc := [some (.inr (.inr (30, 7, 0))), some (.inl s3.1), none, none, none, none]) ⟨Or.inl rfl, ⟨Or.inl rfl, ⟨Or.inr ⟨rfl, fun _ h => by cases h⟩, ⟨Or.inr ⟨rfl, fun _ h => by cases h⟩, ⟨Or.inl rfl, ⟨Or.inl rfl, trivial⟩⟩⟩⟩⟩⟩ (hP7 (s3.1, s3.2.2.2) HK6)
  · rw [if_neg c28] at HF
    obtain ⟨x11, hx12, HF⟩ := q_bind HF
    refine q_cll (m' := 186) (av := [.inr (.inr (31, 7, 0)), .inr (.inr (33, 7, 0))]) (st' := []) (pc' := 29) (loc' := [some (.inr (.inr (30, 7, 0))), some (.inl s3.1), some (.inl s3.2.1), some (.inl s3.2.2.1), none, none]) (h' := s3.2.2.2) 5 (fun _ _ => rfl) (eMo_copy (by omega) hx12) ?_
    obtain ⟨x13, hx14, HF⟩ := q_bind HF
    refine q_cll (m' := 192) (av := [.inr (.inr (30, 7, 0)), .inl s3.2.2.1]) (st' := []) (pc' := 34) (loc' := [some (.inr (.inr (30, 7, 0))), some (.inl s3.1), some (.inl s3.2.1), some (.inl s3.2.2.1), none, none]) (h' := x11) 3 (fun _ _ => rfl) (eMo_freeIn (by omega) hx14) ?_
    obtain ⟨x15, hx16, HF⟩ := q_bind HF
    refine q_cll (m' := 215) (av := [.inr (.inr (30, 7, 0)), .inl s3.2.2.1]) (st' := []) (pc' := 41) (loc' := [some (.inr (.inr (30, 7, 0))), some (.inl s3.1), some (.inl s3.2.1), some (.inl s3.2.2.1), some (.inl x13), none]) (h' := x11) 4 (fun _ _ => rfl) (eMo_prunes (by omega) hx16) ?_
    obtain ⟨x17, hx18, HF⟩ := q_bind HF
    refine q_cll (m' := 192) (av := [.inr (.inr (30, 7, 0)), .inl s3.2.2.1]) (st' := []) (pc' := 47) (loc' := [some (.inr (.inr (30, 7, 0))), some (.inl s3.1), some (.inl s3.2.1), some (.inl s3.2.2.1), some (.inl x13), none]) (h' := x15.2) 4 (fun _ _ => rfl) (eMo_freeIn (by omega) hx18) ?_
    obtain ⟨x19, hx20, HF⟩ := q_bind HF
    refine q_cll (m' := 186) (av := [.inr (.inr (33, 7, 0)), .inr (.inr (31, 7, 0))]) (st' := []) (pc' := 63) (loc' := [some (.inr (.inr (30, 7, 0))), some (.inl s3.1), some (.inl s3.2.1), some (.inl s3.2.2.1), some (.inl x13), some (.inl (x17 - x13))]) (h' := x15.2) 8 (fun _ _ => rfl) (eMo_copy (by omega) hx20) ?_
    obtain ⟨z21, HA22, HK23⟩ := q_bind HF
    have hP24 : ∀ p26 : Int32 × Int32, (some (.inl (p26.1, p26.2, (s3.2.2.1 + (1 : Int32)), x19)) : Option ((Int32 × Int32 × Int32 × q_H) ⊕ (Int32 × q_H))) = some z10 → q_E d q_K307 77 [some (.inr (.inr (30, 7, 0))), some (.inl p26.1), some (.inl p26.2), some (.inl s3.2.2.1), some (.inl x13), some (.inl (x17 - x13))] [] x19 (some (.inl r.1), r.2) := by
      intro p26 HF
      refine q_blk (pc' := 12) (loc' := [some (.inr (.inr (30, 7, 0))), some (.inl p26.1), some (.inl p26.2), some (.inl (s3.2.2.1 + (1 : Int32))), some (.inl x13), some (.inl (x17 - x13))]) (stk' := []) (h' := x19) 2 (fun _ _ => rfl) ?_
      have hz := Option.some.inj HF
      subst hz
      exact q_wk (loc := [some (.inr (.inr (30, 7, 0))), some (.inl p26.1), some (.inl p26.2), some (.inl (s3.2.2.1 + (1 : Int32))), none, none]) ⟨Or.inl rfl, ⟨Or.inl rfl, ⟨Or.inl rfl, ⟨Or.inl rfl, ⟨Or.inr ⟨rfl, fun _ h => by cases h⟩, ⟨Or.inr ⟨rfl, fun _ h => by cases h⟩, trivial⟩⟩⟩⟩⟩⟩ (H14 (p26.1, p26.2, (s3.2.2.1 + (1 : Int32)), x19) rfl)
    replace HF := HA22
    refine q_br (P := s3.2.1 < (x17 - x13)) (pcT := 72) (pcF := 69) (loc' := [some (.inr (.inr (30, 7, 0))), some (.inl s3.1), some (.inl s3.2.1), some (.inl s3.2.2.1), some (.inl x13), some (.inl (x17 - x13))]) (stk' := []) (h' := x19) 3 (fun _ _ => rfl) (fun c25 => ?_) (fun c25 => ?_)
    · rw [if_pos c25] at HF
      refine q_blk (pc' := 77) (loc' := [some (.inr (.inr (30, 7, 0))), some (.inl s3.2.2.1), some (.inl (x17 - x13)), some (.inl s3.2.2.1), some (.inl x13), some (.inl (x17 - x13))]) (stk' := []) (h' := x19) 4 (fun _ _ => rfl) ?_
      have hz := Option.some.inj HF
      subst hz
      exact hP24 (s3.2.2.1, (x17 - x13)) HK23
    · rw [if_neg c25] at HF
      refine q_blk (pc' := 77) (loc' := [some (.inr (.inr (30, 7, 0))), some (.inl s3.1), some (.inl s3.2.1), some (.inl s3.2.2.1), some (.inl x13), some (.inl (x17 - x13))]) (stk' := []) (h' := x19) 1 (fun _ _ => rfl) ?_
      have hz := Option.some.inj HF
      subst hz
      exact hP24 (s3.1, s3.2.1) HK23
def Mo_reads_ (a1 : Int32) (a2 : Int32) (h : q_H) : Option (Int32 × q_H) :=
  (Mo_isIn a2 (0 : Int32) (99 : Int32) h).bind fun x1 => Option.bind (α := Int32) (if ¬ x1 = 0 then ((Mo_isTxn a1 h).bind fun x7 => if ¬ x7 = 0 then ((Mo_isOpen a1 h).bind fun x9 => if ¬ x9 = 0 then (some ((0 : Int32))) else (some ((4 : Int32)))) else (some ((2 : Int32)))) else (some ((1 : Int32)))) (fun p14 => (Mo_is p14 h).bind fun x15 => if ¬ x15.1 = 0 then ((Mo_copy 31 7 33 7 x15.2).bind fun x17 => (Mo_looks a1 a2 x17).bind fun x19 => (Mo_copy 33 7 31 7 x19.2).bind fun x21 => some ((((x19.2.1 31 0 7 16) - (x19.2.1 33 0 7 16)), x21))) else (some (((-1 : Int32), x15.2))))
set_option maxRecDepth 100000 in
set_option maxHeartbeats 4000000 in
theorem eMo_reads_ {d : Nat} (hd : 7 ≤ d) {a1 : Int32} {a2 : Int32} {h : q_H} {r : (Int32 × q_H)} (HF : Mo_reads_ a1 a2 h = some r) : q_T d 308 [.inr (.inr (30, 7, 0)), .inl a1, .inl a2] h (some (.inl r.1), r.2) := by
  obtain ⟨d, rfl⟩ : ∃ d', d = d' + 1 := ⟨d - 1, by omega⟩
  refine q_ent q_K308 rfl rfl rfl ?_
  unfold Mo_reads_ at HF
  obtain ⟨x1, hx2, HF⟩ := q_bind HF
  refine q_cll (m' := 184) (av := [.inl a2, .inl (0 : Int32), .inl (99 : Int32)]) (st' := [.inr (.inr (30, 7, 0))]) (pc' := 8) (loc' := [some (.inr (.inr (30, 7, 0))), some (.inl a1), some (.inl a2), none]) (h' := h) 5 (fun _ _ => rfl) (eMo_isIn (by omega) hx2) ?_
  obtain ⟨z3, HA4, HK5⟩ := q_bind HF
  have hP6 : ∀ p14 : Int32, ((Mo_is p14 h).bind fun x15 => if ¬ x15.1 = 0 then ((Mo_copy 31 7 33 7 x15.2).bind fun x17 => (Mo_looks a1 a2 x17).bind fun x19 => (Mo_copy 33 7 31 7 x19.2).bind fun x21 => some ((((x19.2.1 31 0 7 16) - (x19.2.1 33 0 7 16)), x21))) else (some (((-1 : Int32), x15.2))) : Option (Int32 × q_H)) = some r → q_E d q_K308 40 [some (.inr (.inr (30, 7, 0))), some (.inl a1), some (.inl a2), none] [.inl p14, .inr (.inr (30, 7, 0))] h (some (.inl r.1), r.2) := by
    intro p14 HF
    obtain ⟨x15, hx16, HF⟩ := q_bind HF
    refine q_cll (m' := 183) (av := [.inr (.inr (30, 7, 0)), .inl p14]) (st' := []) (pc' := 43) (loc' := [some (.inr (.inr (30, 7, 0))), some (.inl a1), some (.inl a2), none]) (h' := h) 1 (fun _ _ => rfl) (eMo_is (by omega) hx16) ?_
    refine q_br (P := ¬ x15.1 = 0) (pcT := 48) (pcF := 46) (loc' := [some (.inr (.inr (30, 7, 0))), some (.inl a1), some (.inl a2), none]) (stk' := []) (h' := x15.2) 1 (fun _ _ => rfl) (fun c23 => ?_) (fun c23 => ?_)
    · rw [if_pos c23] at HF
      obtain ⟨x17, hx18, HF⟩ := q_bind HF
      refine q_cll (m' := 186) (av := [.inr (.inr (31, 7, 0)), .inr (.inr (33, 7, 0))]) (st' := []) (pc' := 59) (loc' := [some (.inr (.inr (30, 7, 0))), some (.inl a1), some (.inl a2), none]) (h' := x15.2) 5 (fun _ _ => rfl) (eMo_copy (by omega) hx18) ?_
      obtain ⟨x19, hx20, HF⟩ := q_bind HF
      refine q_cll (m' := 240) (av := [.inr (.inr (30, 7, 0)), .inl a1, .inl a2]) (st' := []) (pc' := 65) (loc' := [some (.inr (.inr (30, 7, 0))), some (.inl a1), some (.inl a2), none]) (h' := x17) 4 (fun _ _ => rfl) (eMo_looks (by omega) hx20) ?_
      obtain ⟨x21, hx22, HF⟩ := q_bind HF
      refine q_cll (m' := 186) (av := [.inr (.inr (33, 7, 0)), .inr (.inr (31, 7, 0))]) (st' := []) (pc' := 93) (loc' := [some (.inr (.inr (30, 7, 0))), some (.inl a1), some (.inl a2), some (.inl ((x19.2.1 31 0 7 16) - (x19.2.1 33 0 7 16)))]) (h' := x19.2) 16 (fun _ _ => rfl) (eMo_copy (by omega) hx22) ?_
      have hz := Option.some.inj HF
      subst hz
      exact q_rtn 2 (fun _ _ => rfl)
    · rw [if_neg c23] at HF
      have hz := Option.some.inj HF
      subst hz
      exact q_rtn 2 (fun _ _ => rfl)
  replace HF := HA4
  refine q_br (P := ¬ x1 = 0) (pcT := 15) (pcF := 11) (loc' := [some (.inr (.inr (30, 7, 0))), some (.inl a1), some (.inl a2), none]) (stk' := [.inr (.inr (30, 7, 0))]) (h' := h) 1 (fun _ _ => rfl) (fun c13 => ?_) (fun c13 => ?_)
  · rw [if_pos c13] at HF
    obtain ⟨x7, hx8, HF⟩ := q_bind HF
    refine q_cll (m' := 198) (av := [.inr (.inr (30, 7, 0)), .inl a1]) (st' := [.inr (.inr (30, 7, 0))]) (pc' := 20) (loc' := [some (.inr (.inr (30, 7, 0))), some (.inl a1), some (.inl a2), none]) (h' := h) 3 (fun _ _ => rfl) (eMo_isTxn (by omega) hx8) ?_
    refine q_br (P := ¬ x7 = 0) (pcT := 27) (pcF := 23) (loc' := [some (.inr (.inr (30, 7, 0))), some (.inl a1), some (.inl a2), none]) (stk' := [.inr (.inr (30, 7, 0))]) (h' := h) 1 (fun _ _ => rfl) (fun c12 => ?_) (fun c12 => ?_)
    · rw [if_pos c12] at HF
      obtain ⟨x9, hx10, HF⟩ := q_bind HF
      refine q_cll (m' := 197) (av := [.inr (.inr (30, 7, 0)), .inl a1]) (st' := [.inr (.inr (30, 7, 0))]) (pc' := 32) (loc' := [some (.inr (.inr (30, 7, 0))), some (.inl a1), some (.inl a2), none]) (h' := h) 3 (fun _ _ => rfl) (eMo_isOpen (by omega) hx10) ?_
      refine q_br (P := ¬ x9 = 0) (pcT := 39) (pcF := 35) (loc' := [some (.inr (.inr (30, 7, 0))), some (.inl a1), some (.inl a2), none]) (stk' := [.inr (.inr (30, 7, 0))]) (h' := h) 1 (fun _ _ => rfl) (fun c11 => ?_) (fun c11 => ?_)
      · rw [if_pos c11] at HF
        refine q_blk (pc' := 40) (loc' := [some (.inr (.inr (30, 7, 0))), some (.inl a1), some (.inl a2), none]) (stk' := [.inl (0 : Int32), .inr (.inr (30, 7, 0))]) (h' := h) 1 (fun _ _ => rfl) ?_
        have hz := Option.some.inj HF
        subst hz
        exact hP6 (0 : Int32) HK5
      · rw [if_neg c11] at HF
        refine q_blk (pc' := 40) (loc' := [some (.inr (.inr (30, 7, 0))), some (.inl a1), some (.inl a2), none]) (stk' := [.inl (4 : Int32), .inr (.inr (30, 7, 0))]) (h' := h) 2 (fun _ _ => rfl) ?_
        have hz := Option.some.inj HF
        subst hz
        exact hP6 (4 : Int32) HK5
    · rw [if_neg c12] at HF
      refine q_blk (pc' := 40) (loc' := [some (.inr (.inr (30, 7, 0))), some (.inl a1), some (.inl a2), none]) (stk' := [.inl (2 : Int32), .inr (.inr (30, 7, 0))]) (h' := h) 2 (fun _ _ => rfl) ?_
      have hz := Option.some.inj HF
      subst hz
      exact hP6 (2 : Int32) HK5
  · rw [if_neg c13] at HF
    refine q_blk (pc' := 40) (loc' := [some (.inr (.inr (30, 7, 0))), some (.inl a1), some (.inl a2), none]) (stk' := [.inl (1 : Int32), .inr (.inr (30, 7, 0))]) (h' := h) 2 (fun _ _ => rfl) ?_
    have hz := Option.some.inj HF
    subst hz
    exact hP6 (1 : Int32) HK5
def Tx_readLine  (h : q_H) : Option (Int32 × q_H) :=
  if ¬ (h.1 25 15 6 0) = 0 then (some (((0 : Int32), h))) else (Option.bind (α := (q_H) ⊕ (Int32 × q_H)) (if (h.1 25 10 6 0) = 0 then (some (.inl h)) else ((Tx_readKind (3 : Int32) h).bind fun x5 => if ¬ x5.1 = 0 then (some (.inl x5.2)) else (some (.inr (((0 : Int32), x5.2)))))) (fun z1 => match z1 with | .inl p9 => (Tx_readToken (q_si p9 25 10 6 0 (0 : Int32))).bind fun x10 => if ¬ (x10.1 25 4 6 0) = 0 then ((Tx_isGood (1 : Int32) x10).bind fun x12 => if ¬ x12.1 = 0 then ((Tx_wordRead x12.2).bind fun x14 => if ¬ ((q_si (q_si x12.2 25 7 6 0 x14) 25 8 6 0 ((q_si x12.2 25 7 6 0 x14).1 25 5 6 0)).1 25 7 6 0) = (-1 : Int32) then ((Tx_isTooLate (q_si (q_si x12.2 25 7 6 0 x14) 25 8 6 0 ((q_si x12.2 25 7 6 0 x14).1 25 5 6 0))).bind fun x16 => if x16 = 0 then ((Tx_noteWord (q_si (q_si x12.2 25 7 6 0 x14) 25 8 6 0 ((q_si x12.2 25 7 6 0 x14).1 25 5 6 0))).bind fun x18 => (Tx_readNumbers (q_si x18 25 10 6 0 (1 : Int32))).bind fun x20 => bif q_01 x20.1 then some ((x20.1, x20.2)) else none) else ((Tx_blame (5 : Int32) ((q_si (q_si x12.2 25 7 6 0 x14) 25 8 6 0 ((q_si x12.2 25 7 6 0 x14).1 25 5 6 0)).1 25 8 6 0) (q_si (q_si x12.2 25 7 6 0 x14) 25 8 6 0 ((q_si x12.2 25 7 6 0 x14).1 25 5 6 0))).bind fun x23 => some (((0 : Int32), x23)))) else ((Tx_blame (2 : Int32) ((q_si (q_si x12.2 25 7 6 0 x14) 25 8 6 0 ((q_si x12.2 25 7 6 0 x14).1 25 5 6 0)).1 25 8 6 0) (q_si (q_si x12.2 25 7 6 0 x14) 25 8 6 0 ((q_si x12.2 25 7 6 0 x14).1 25 5 6 0))).bind fun x26 => some (((0 : Int32), x26)))) else (some (((0 : Int32), x12.2)))) else (some (((0 : Int32), x10))) | .inr z1 => some z1))
set_option maxRecDepth 100000 in
set_option maxHeartbeats 4000000 in
theorem eTx_readLine {d : Nat} (hd : 8 ≤ d)  {h : q_H} {r : (Int32 × q_H)} (HF : Tx_readLine  h = some r) : q_T d 127 [.inr (.inr (25, 6, 0))] h (some (.inl r.1), r.2) := by
  obtain ⟨d, rfl⟩ : ∃ d', d = d' + 1 := ⟨d - 1, by omega⟩
  refine q_ent q_K127 rfl rfl rfl ?_
  unfold Tx_readLine at HF
  refine q_br (P := ¬ (h.1 25 15 6 0) = 0) (pcT := 22) (pcF := 7) (loc' := [some (.inr (.inr (25, 6, 0)))]) (stk' := []) (h' := h) 3 (fun _ _ => rfl) (fun c32 => ?_) (fun c32 => ?_)
  · rw [if_pos c32] at HF
    have hz := Option.some.inj HF
    subst hz
    exact q_rtn 2 (fun _ _ => rfl)
  · rw [if_neg c32] at HF
    obtain ⟨z1, HA2, HK3⟩ := q_bind HF
    have hP4 : ∀ p9 : q_H, ((Tx_readToken (q_si p9 25 10 6 0 (0 : Int32))).bind fun x10 => if ¬ (x10.1 25 4 6 0) = 0 then ((Tx_isGood (1 : Int32) x10).bind fun x12 => if ¬ x12.1 = 0 then ((Tx_wordRead x12.2).bind fun x14 => if ¬ ((q_si (q_si x12.2 25 7 6 0 x14) 25 8 6 0 ((q_si x12.2 25 7 6 0 x14).1 25 5 6 0)).1 25 7 6 0) = (-1 : Int32) then ((Tx_isTooLate (q_si (q_si x12.2 25 7 6 0 x14) 25 8 6 0 ((q_si x12.2 25 7 6 0 x14).1 25 5 6 0))).bind fun x16 => if x16 = 0 then ((Tx_noteWord (q_si (q_si x12.2 25 7 6 0 x14) 25 8 6 0 ((q_si x12.2 25 7 6 0 x14).1 25 5 6 0))).bind fun x18 => (Tx_readNumbers (q_si x18 25 10 6 0 (1 : Int32))).bind fun x20 => bif q_01 x20.1 then some ((x20.1, x20.2)) else none) else ((Tx_blame (5 : Int32) ((q_si (q_si x12.2 25 7 6 0 x14) 25 8 6 0 ((q_si x12.2 25 7 6 0 x14).1 25 5 6 0)).1 25 8 6 0) (q_si (q_si x12.2 25 7 6 0 x14) 25 8 6 0 ((q_si x12.2 25 7 6 0 x14).1 25 5 6 0))).bind fun x23 => some (((0 : Int32), x23)))) else ((Tx_blame (2 : Int32) ((q_si (q_si x12.2 25 7 6 0 x14) 25 8 6 0 ((q_si x12.2 25 7 6 0 x14).1 25 5 6 0)).1 25 8 6 0) (q_si (q_si x12.2 25 7 6 0 x14) 25 8 6 0 ((q_si x12.2 25 7 6 0 x14).1 25 5 6 0))).bind fun x26 => some (((0 : Int32), x26)))) else (some (((0 : Int32), x12.2)))) else (some (((0 : Int32), x10))) : Option (Int32 × q_H)) = some r → q_E d q_K127 24 [some (.inr (.inr (25, 6, 0)))] [] p9 (some (.inl r.1), r.2) := by
      intro p9 HF
      obtain ⟨x10, hx11, HF⟩ := q_bind HF
      refine q_cll (m' := 135) (av := [.inr (.inr (25, 6, 0))]) (st' := []) (pc' := 33) (loc' := [some (.inr (.inr (25, 6, 0)))]) (h' := (q_si p9 25 10 6 0 (0 : Int32))) 5 (fun _ _ => rfl) (eTx_readToken (by omega) hx11) ?_
      refine q_br (P := ¬ (x10.1 25 4 6 0) = 0) (pcT := 42) (pcF := 40) (loc' := [some (.inr (.inr (25, 6, 0)))]) (stk' := []) (h' := x10) 3 (fun _ _ => rfl) (fun c30 => ?_) (fun c30 => ?_)
      · rw [if_pos c30] at HF
        obtain ⟨x12, hx13, HF⟩ := q_bind HF
        refine q_cll (m' := 133) (av := [.inr (.inr (25, 6, 0)), .inl (1 : Int32)]) (st' := []) (pc' := 47) (loc' := [some (.inr (.inr (25, 6, 0)))]) (h' := x10) 3 (fun _ _ => rfl) (eTx_isGood (by omega) hx13) ?_
        refine q_br (P := ¬ x12.1 = 0) (pcT := 52) (pcF := 50) (loc' := [some (.inr (.inr (25, 6, 0)))]) (stk' := []) (h' := x12.2) 1 (fun _ _ => rfl) (fun c29 => ?_) (fun c29 => ?_)
        · rw [if_pos c29] at HF
          obtain ⟨x14, hx15, HF⟩ := q_bind HF
          refine q_cll (m' := 138) (av := [.inr (.inr (25, 6, 0))]) (st' := [.inr (.inr (25, 6, 0))]) (pc' := 57) (loc' := [some (.inr (.inr (25, 6, 0)))]) (h' := x12.2) 3 (fun _ _ => rfl) (eTx_wordRead (by omega) hx15) ?_
          refine q_br (P := ¬ ((q_si (q_si x12.2 25 7 6 0 x14) 25 8 6 0 ((q_si x12.2 25 7 6 0 x14).1 25 5 6 0)).1 25 7 6 0) = (-1 : Int32)) (pcT := 87) (pcF := 76) (loc' := [some (.inr (.inr (25, 6, 0)))]) (stk' := []) (h' := (q_si (q_si x12.2 25 7 6 0 x14) 25 8 6 0 ((q_si x12.2 25 7 6 0 x14).1 25 5 6 0))) 9 (fun _ _ => rfl) (fun c28 => ?_) (fun c28 => ?_)
          · rw [if_pos c28] at HF
            obtain ⟨x16, hx17, HF⟩ := q_bind HF
            refine q_cll (m' := 128) (av := [.inr (.inr (25, 6, 0))]) (st' := []) (pc' := 91) (loc' := [some (.inr (.inr (25, 6, 0)))]) (h' := (q_si (q_si x12.2 25 7 6 0 x14) 25 8 6 0 ((q_si x12.2 25 7 6 0 x14).1 25 5 6 0))) 2 (fun _ _ => rfl) (eTx_isTooLate (by omega) hx17) ?_
            refine q_br (P := x16 = 0) (pcT := 105) (pcF := 94) (loc' := [some (.inr (.inr (25, 6, 0)))]) (stk' := []) (h' := (q_si (q_si x12.2 25 7 6 0 x14) 25 8 6 0 ((q_si x12.2 25 7 6 0 x14).1 25 5 6 0))) 1 (fun _ _ => rfl) (fun c25 => ?_) (fun c25 => ?_)
            · rw [if_pos c25] at HF
              obtain ⟨x18, hx19, HF⟩ := q_bind HF
              refine q_cll (m' := 129) (av := [.inr (.inr (25, 6, 0))]) (st' := []) (pc' := 109) (loc' := [some (.inr (.inr (25, 6, 0)))]) (h' := (q_si (q_si x12.2 25 7 6 0 x14) 25 8 6 0 ((q_si x12.2 25 7 6 0 x14).1 25 5 6 0))) 2 (fun _ _ => rfl) (eTx_noteWord (by omega) hx19) ?_
              obtain ⟨x20, hx21, HF⟩ := q_bind HF
              refine q_cll (m' := 130) (av := [.inr (.inr (25, 6, 0))]) (st' := []) (pc' := 118) (loc' := [some (.inr (.inr (25, 6, 0)))]) (h' := (q_si x18 25 10 6 0 (1 : Int32))) 5 (fun _ _ => rfl) (eTx_readNumbers (by omega) hx21) ?_
              obtain ⟨g22, HF⟩ := q_gF HF
              have hz := Option.some.inj HF
              subst hz
              exact q_rtz 1 (fun _ _ => rfl) g22
            · rw [if_neg c25] at HF
              obtain ⟨x23, hx24, HF⟩ := q_bind HF
              refine q_cll (m' := 125) (av := [.inr (.inr (25, 6, 0)), .inl (5 : Int32), .inl ((q_si (q_si x12.2 25 7 6 0 x14) 25 8 6 0 ((q_si x12.2 25 7 6 0 x14).1 25 5 6 0)).1 25 8 6 0)]) (st' := []) (pc' := 103) (loc' := [some (.inr (.inr (25, 6, 0)))]) (h' := (q_si (q_si x12.2 25 7 6 0 x14) 25 8 6 0 ((q_si x12.2 25 7 6 0 x14).1 25 5 6 0))) 5 (fun _ _ => rfl) (eTx_blame (by omega) hx24) ?_
              have hz := Option.some.inj HF
              subst hz
              exact q_rtn 2 (fun _ _ => rfl)
          · rw [if_neg c28] at HF
            obtain ⟨x26, hx27, HF⟩ := q_bind HF
            refine q_cll (m' := 125) (av := [.inr (.inr (25, 6, 0)), .inl (2 : Int32), .inl ((q_si (q_si x12.2 25 7 6 0 x14) 25 8 6 0 ((q_si x12.2 25 7 6 0 x14).1 25 5 6 0)).1 25 8 6 0)]) (st' := []) (pc' := 85) (loc' := [some (.inr (.inr (25, 6, 0)))]) (h' := (q_si (q_si x12.2 25 7 6 0 x14) 25 8 6 0 ((q_si x12.2 25 7 6 0 x14).1 25 5 6 0))) 5 (fun _ _ => rfl) (eTx_blame (by omega) hx27) ?_
            have hz := Option.some.inj HF
            subst hz
            exact q_rtn 2 (fun _ _ => rfl)
        · rw [if_neg c29] at HF
          have hz := Option.some.inj HF
          subst hz
          exact q_rtn 2 (fun _ _ => rfl)
      · rw [if_neg c30] at HF
        have hz := Option.some.inj HF
        subst hz
        exact q_rtn 2 (fun _ _ => rfl)
    replace HF := HA2
    refine q_br (P := (h.1 25 10 6 0) = 0) (pcT := 24) (pcF := 14) (loc' := [some (.inr (.inr (25, 6, 0)))]) (stk' := []) (h' := h) 3 (fun _ _ => rfl) (fun c8 => ?_) (fun c8 => ?_)
    · rw [if_pos c8] at HF
      have hz := Option.some.inj HF
      subst hz
      exact hP4 (h) HK3
    · rw [if_neg c8] at HF
      obtain ⟨x5, hx6, HF⟩ := q_bind HF
      refine q_cll (m' := 132) (av := [.inr (.inr (25, 6, 0)), .inl (3 : Int32)]) (st' := []) (pc' := 19) (loc' := [some (.inr (.inr (25, 6, 0)))]) (h' := h) 3 (fun _ _ => rfl) (eTx_readKind (by omega) hx6) ?_
      refine q_br (P := ¬ x5.1 = 0) (pcT := 24) (pcF := 22) (loc' := [some (.inr (.inr (25, 6, 0)))]) (stk' := []) (h' := x5.2) 1 (fun _ _ => rfl) (fun c7 => ?_) (fun c7 => ?_)
      · rw [if_pos c7] at HF
        have hz := Option.some.inj HF
        subst hz
        exact hP4 (x5.2) HK3
      · rw [if_neg c7] at HF
        have hz := Option.some.inj HF
        subst hz
        replace HF := HK3
        have hz := Option.some.inj HF
        subst hz
        exact q_rtn 2 (fun _ _ => rfl)
def Mo_doesAct (a1 : Int32) (h : q_H) : Option (Int32 × q_H) :=
  if a1 = 4 then ((Mo_beginNow h).bind fun x1 => some ((x1.1, x1.2))) else (if a1 = 5 then ((Mo_insertNow (h.1 41 0 7 0) (h.1 41 0 7 1) (h.1 41 0 7 2) (h.1 41 0 7 3) h).bind fun x3 => some ((x3.1, x3.2))) else (if a1 = 6 then ((Mo_updateNow (h.1 41 0 7 0) (h.1 41 0 7 1) (h.1 41 0 7 2) (h.1 41 0 7 3) (h.1 41 0 7 4) h).bind fun x5 => some ((x5.1, x5.2))) else (if a1 = 7 then ((Mo_deleteNow (h.1 41 0 7 0) (h.1 41 0 7 1) h).bind fun x7 => some ((x7.1, x7.2))) else (if a1 = 8 then ((Mo_closeNow (h.1 41 0 7 0) (1 : Int32) h).bind fun x9 => some ((x9.1, x9.2))) else (if a1 = 9 then ((Mo_closeNow (h.1 41 0 7 0) (2 : Int32) h).bind fun x11 => some ((x11.1, x11.2))) else (if a1 = 10 then ((Mo_pruneNow (h.1 41 0 7 0) h).bind fun x13 => some ((x13.1, x13.2))) else (if a1 = 11 then ((Mo_vacuums h).bind fun x15 => some ((x15.1, x15.2))) else (if a1 = 12 then ((Mo_lookNow (h.1 41 0 7 0) (h.1 41 0 7 1) h).bind fun x17 => some ((x17.1, x17.2))) else ((Mo_repackNow h).bind fun x19 => some ((x19.1, x19.2)))))))))))
set_option maxRecDepth 100000 in
set_option maxHeartbeats 4000000 in
theorem eMo_doesAct {d : Nat} (hd : 8 ≤ d) {a1 : Int32} {h : q_H} {r : (Int32 × q_H)} (HF : Mo_doesAct a1 h = some r) : q_T d 256 [.inr (.inr (30, 7, 0)), .inl a1] h (some (.inl r.1), r.2) := by
  obtain ⟨d, rfl⟩ : ∃ d', d = d' + 1 := ⟨d - 1, by omega⟩
  refine q_ent q_K256 rfl rfl rfl ?_
  unfold Mo_doesAct at HF
  by_cases c21 : a1 = 4
  · rw [if_pos c21] at HF
    refine q_sw (o1 := 51) (pcx := 1) (pc' := 52) (loc' := [some (.inr (.inr (30, 7, 0))), some (.inl a1)]) (stk' := []) (h' := h) 2 (fun _ _ => rfl) (q_tsI c21 rfl) rfl ?_
    obtain ⟨x1, hx2, HF⟩ := q_bind HF
    refine q_cll (m' := 236) (av := [.inr (.inr (30, 7, 0))]) (st' := []) (pc' := 56) (loc' := [some (.inr (.inr (30, 7, 0))), some (.inl a1)]) (h' := h) 2 (fun _ _ => rfl) (eMo_beginNow (by omega) hx2) ?_
    have hz := Option.some.inj HF
    subst hz
    exact q_rtn 1 (fun _ _ => rfl)
  · rw [if_neg c21] at HF
    by_cases c22 : a1 = 5
    · rw [if_pos c22] at HF
      refine q_sw (o1 := 56) (pcx := 1) (pc' := 57) (loc' := [some (.inr (.inr (30, 7, 0))), some (.inl a1)]) (stk' := []) (h' := h) 2 (fun _ _ => rfl) (q_tsI c22 rfl) rfl ?_
      obtain ⟨x3, hx4, HF⟩ := q_bind HF
      refine q_cll (m' := 230) (av := [.inr (.inr (30, 7, 0)), .inl (h.1 41 0 7 0), .inl (h.1 41 0 7 1), .inl (h.1 41 0 7 2), .inl (h.1 41 0 7 3)]) (st' := []) (pc' := 85) (loc' := [some (.inr (.inr (30, 7, 0))), some (.inl a1)]) (h' := h) 18 (fun _ _ => rfl) (eMo_insertNow (by omega) hx4) ?_
      have hz := Option.some.inj HF
      subst hz
      exact q_rtn 1 (fun _ _ => rfl)
    · rw [if_neg c22] at HF
      by_cases c23 : a1 = 6
      · rw [if_pos c23] at HF
        refine q_sw (o1 := 85) (pcx := 1) (pc' := 86) (loc' := [some (.inr (.inr (30, 7, 0))), some (.inl a1)]) (stk' := []) (h' := h) 2 (fun _ _ => rfl) (q_tsI c23 rfl) rfl ?_
        obtain ⟨x5, hx6, HF⟩ := q_bind HF
        refine q_cll (m' := 233) (av := [.inr (.inr (30, 7, 0)), .inl (h.1 41 0 7 0), .inl (h.1 41 0 7 1), .inl (h.1 41 0 7 2), .inl (h.1 41 0 7 3), .inl (h.1 41 0 7 4)]) (st' := []) (pc' := 120) (loc' := [some (.inr (.inr (30, 7, 0))), some (.inl a1)]) (h' := h) 22 (fun _ _ => rfl) (eMo_updateNow (by omega) hx6) ?_
        have hz := Option.some.inj HF
        subst hz
        exact q_rtn 1 (fun _ _ => rfl)
      · rw [if_neg c23] at HF
        by_cases c24 : a1 = 7
        · rw [if_pos c24] at HF
          refine q_sw (o1 := 120) (pcx := 1) (pc' := 121) (loc' := [some (.inr (.inr (30, 7, 0))), some (.inl a1)]) (stk' := []) (h' := h) 2 (fun _ _ => rfl) (q_tsI c24 rfl) rfl ?_
          obtain ⟨x7, hx8, HF⟩ := q_bind HF
          refine q_cll (m' := 235) (av := [.inr (.inr (30, 7, 0)), .inl (h.1 41 0 7 0), .inl (h.1 41 0 7 1)]) (st' := []) (pc' := 137) (loc' := [some (.inr (.inr (30, 7, 0))), some (.inl a1)]) (h' := h) 10 (fun _ _ => rfl) (eMo_deleteNow (by omega) hx8) ?_
          have hz := Option.some.inj HF
          subst hz
          exact q_rtn 1 (fun _ _ => rfl)
        · rw [if_neg c24] at HF
          by_cases c25 : a1 = 8
          · rw [if_pos c25] at HF
            refine q_sw (o1 := 137) (pcx := 1) (pc' := 138) (loc' := [some (.inr (.inr (30, 7, 0))), some (.inl a1)]) (stk' := []) (h' := h) 2 (fun _ _ => rfl) (q_tsI c25 rfl) rfl ?_
            obtain ⟨x9, hx10, HF⟩ := q_bind HF
            refine q_cll (m' := 237) (av := [.inr (.inr (30, 7, 0)), .inl (h.1 41 0 7 0), .inl (1 : Int32)]) (st' := []) (pc' := 149) (loc' := [some (.inr (.inr (30, 7, 0))), some (.inl a1)]) (h' := h) 7 (fun _ _ => rfl) (eMo_closeNow (by omega) hx10) ?_
            have hz := Option.some.inj HF
            subst hz
            exact q_rtn 1 (fun _ _ => rfl)
          · rw [if_neg c25] at HF
            by_cases c26 : a1 = 9
            · rw [if_pos c26] at HF
              refine q_sw (o1 := 149) (pcx := 1) (pc' := 150) (loc' := [some (.inr (.inr (30, 7, 0))), some (.inl a1)]) (stk' := []) (h' := h) 2 (fun _ _ => rfl) (q_tsI c26 rfl) rfl ?_
              obtain ⟨x11, hx12, HF⟩ := q_bind HF
              refine q_cll (m' := 237) (av := [.inr (.inr (30, 7, 0)), .inl (h.1 41 0 7 0), .inl (2 : Int32)]) (st' := []) (pc' := 161) (loc' := [some (.inr (.inr (30, 7, 0))), some (.inl a1)]) (h' := h) 7 (fun _ _ => rfl) (eMo_closeNow (by omega) hx12) ?_
              have hz := Option.some.inj HF
              subst hz
              exact q_rtn 1 (fun _ _ => rfl)
            · rw [if_neg c26] at HF
              by_cases c27 : a1 = 10
              · rw [if_pos c27] at HF
                refine q_sw (o1 := 161) (pcx := 1) (pc' := 162) (loc' := [some (.inr (.inr (30, 7, 0))), some (.inl a1)]) (stk' := []) (h' := h) 2 (fun _ _ => rfl) (q_tsI c27 rfl) rfl ?_
                obtain ⟨x13, hx14, HF⟩ := q_bind HF
                refine q_cll (m' := 238) (av := [.inr (.inr (30, 7, 0)), .inl (h.1 41 0 7 0)]) (st' := []) (pc' := 172) (loc' := [some (.inr (.inr (30, 7, 0))), some (.inl a1)]) (h' := h) 6 (fun _ _ => rfl) (eMo_pruneNow (by omega) hx14) ?_
                have hz := Option.some.inj HF
                subst hz
                exact q_rtn 1 (fun _ _ => rfl)
              · rw [if_neg c27] at HF
                by_cases c28 : a1 = 11
                · rw [if_pos c28] at HF
                  refine q_sw (o1 := 172) (pcx := 1) (pc' := 173) (loc' := [some (.inr (.inr (30, 7, 0))), some (.inl a1)]) (stk' := []) (h' := h) 2 (fun _ _ => rfl) (q_tsI c28 rfl) rfl ?_
                  obtain ⟨x15, hx16, HF⟩ := q_bind HF
                  refine q_cll (m' := 224) (av := [.inr (.inr (30, 7, 0))]) (st' := []) (pc' := 177) (loc' := [some (.inr (.inr (30, 7, 0))), some (.inl a1)]) (h' := h) 2 (fun _ _ => rfl) (eMo_vacuums (by omega) hx16) ?_
                  have hz := Option.some.inj HF
                  subst hz
                  exact q_rtn 1 (fun _ _ => rfl)
                · rw [if_neg c28] at HF
                  by_cases c29 : a1 = 12
                  · rw [if_pos c29] at HF
                    refine q_sw (o1 := 177) (pcx := 1) (pc' := 178) (loc' := [some (.inr (.inr (30, 7, 0))), some (.inl a1)]) (stk' := []) (h' := h) 2 (fun _ _ => rfl) (q_tsI c29 rfl) rfl ?_
                    obtain ⟨x17, hx18, HF⟩ := q_bind HF
                    refine q_cll (m' := 239) (av := [.inr (.inr (30, 7, 0)), .inl (h.1 41 0 7 0), .inl (h.1 41 0 7 1)]) (st' := []) (pc' := 194) (loc' := [some (.inr (.inr (30, 7, 0))), some (.inl a1)]) (h' := h) 10 (fun _ _ => rfl) (eMo_lookNow (by omega) hx18) ?_
                    have hz := Option.some.inj HF
                    subst hz
                    exact q_rtn 1 (fun _ _ => rfl)
                  · rw [if_neg c29] at HF
                    refine q_sw (o1 := 194) (pcx := 1) (pc' := 195) (loc' := [some (.inr (.inr (30, 7, 0))), some (.inl a1)]) (stk' := []) (h' := h) 2 (fun _ _ => rfl) (q_tsD (a := a1) (lo := 4) (hi := 12) (by have z0 := q_neI c21 (a := 4) rfl; have z1 := q_neI c22 (a := 5) rfl; have z2 := q_neI c23 (a := 6) rfl; have z3 := q_neI c24 (a := 7) rfl; have z4 := q_neI c25 (a := 8) rfl; have z5 := q_neI c26 (a := 9) rfl; have z6 := q_neI c27 (a := 10) rfl; have z7 := q_neI c28 (a := 11) rfl; have z8 := q_neI c29 (a := 12) rfl; omega)) rfl ?_
                    obtain ⟨x19, hx20, HF⟩ := q_bind HF
                    refine q_cll (m' := 248) (av := [.inr (.inr (30, 7, 0))]) (st' := []) (pc' := 199) (loc' := [some (.inr (.inr (30, 7, 0))), some (.inl a1)]) (h' := h) 2 (fun _ _ => rfl) (eMo_repackNow (by omega) hx20) ?_
                    have hz := Option.some.inj HF
                    subst hz
                    exact q_rtn 1 (fun _ _ => rfl)
