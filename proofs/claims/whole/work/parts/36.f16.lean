def Mo_insert (a1 : Int32) (a2 : Int32) (a3 : Int32) (a4 : Int32) (h : q_H) : Option (Int32 × q_H) :=
  (Mo_is (0 : Int32) h).bind fun x1 => (Mo_insertNow a1 a2 a3 a4 x1.2).bind fun x3 => some ((x3.1, x3.2))
set_option maxRecDepth 100000 in
set_option maxHeartbeats 4000000 in
theorem eMo_insert {d : Nat} (hd : 8 ≤ d) {a1 : Int32} {a2 : Int32} {a3 : Int32} {a4 : Int32} {h : q_H} {r : (Int32 × q_H)} (HF : Mo_insert a1 a2 a3 a4 h = some r) : q_T d 284 [.inr (.inr (30, 7, 0)), .inl a1, .inl a2, .inl a3, .inl a4] h (some (.inl r.1), r.2) := by
  obtain ⟨d, rfl⟩ : ∃ d', d = d' + 1 := ⟨d - 1, by omega⟩
  refine q_ent q_K284 rfl rfl rfl ?_
  unfold Mo_insert at HF
  obtain ⟨x1, hx2, HF⟩ := q_bind HF
  refine q_cll (m' := 183) (av := [.inr (.inr (30, 7, 0)), .inl (0 : Int32)]) (st' := []) (pc' := 5) (loc' := [some (.inr (.inr (30, 7, 0))), some (.inl a1), some (.inl a2), some (.inl a3), some (.inl a4)]) (h' := h) 3 (fun _ _ => rfl) (eMo_is (by omega) hx2) ?_
  obtain ⟨x3, hx4, HF⟩ := q_bind HF
  refine q_cll (m' := 230) (av := [.inr (.inr (30, 7, 0)), .inl a1, .inl a2, .inl a3, .inl a4]) (st' := []) (pc' := 15) (loc' := [some (.inr (.inr (30, 7, 0))), some (.inl a1), some (.inl a2), some (.inl a3), some (.inl a4)]) (h' := x1.2) 7 (fun _ _ => rfl) (eMo_insertNow (by omega) hx4) ?_
  have hz := Option.some.inj HF
  subst hz
  exact q_rtn 1 (fun _ _ => rfl)
def Mo_update (a1 : Int32) (a2 : Int32) (a3 : Int32) (a4 : Int32) (a5 : Int32) (h : q_H) : Option (Int32 × q_H) :=
  (Mo_is (0 : Int32) h).bind fun x1 => (Mo_updateNow a1 a2 a3 a4 a5 x1.2).bind fun x3 => some ((x3.1, x3.2))
set_option maxRecDepth 100000 in
set_option maxHeartbeats 4000000 in
theorem eMo_update {d : Nat} (hd : 8 ≤ d) {a1 : Int32} {a2 : Int32} {a3 : Int32} {a4 : Int32} {a5 : Int32} {h : q_H} {r : (Int32 × q_H)} (HF : Mo_update a1 a2 a3 a4 a5 h = some r) : q_T d 285 [.inr (.inr (30, 7, 0)), .inl a1, .inl a2, .inl a3, .inl a4, .inl a5] h (some (.inl r.1), r.2) := by
  obtain ⟨d, rfl⟩ : ∃ d', d = d' + 1 := ⟨d - 1, by omega⟩
  refine q_ent q_K285 rfl rfl rfl ?_
  unfold Mo_update at HF
  obtain ⟨x1, hx2, HF⟩ := q_bind HF
  refine q_cll (m' := 183) (av := [.inr (.inr (30, 7, 0)), .inl (0 : Int32)]) (st' := []) (pc' := 5) (loc' := [some (.inr (.inr (30, 7, 0))), some (.inl a1), some (.inl a2), some (.inl a3), some (.inl a4), some (.inl a5)]) (h' := h) 3 (fun _ _ => rfl) (eMo_is (by omega) hx2) ?_
  obtain ⟨x3, hx4, HF⟩ := q_bind HF
  refine q_cll (m' := 233) (av := [.inr (.inr (30, 7, 0)), .inl a1, .inl a2, .inl a3, .inl a4, .inl a5]) (st' := []) (pc' := 17) (loc' := [some (.inr (.inr (30, 7, 0))), some (.inl a1), some (.inl a2), some (.inl a3), some (.inl a4), some (.inl a5)]) (h' := x1.2) 8 (fun _ _ => rfl) (eMo_updateNow (by omega) hx4) ?_
  have hz := Option.some.inj HF
  subst hz
  exact q_rtn 1 (fun _ _ => rfl)
def Mo_prune (a1 : Int32) (h : q_H) : Option (Int32 × q_H) :=
  (Mo_is (0 : Int32) h).bind fun x1 => (Mo_pruneNow a1 x1.2).bind fun x3 => some ((x3.1, x3.2))
set_option maxRecDepth 100000 in
set_option maxHeartbeats 4000000 in
theorem eMo_prune {d : Nat} (hd : 8 ≤ d) {a1 : Int32} {h : q_H} {r : (Int32 × q_H)} (HF : Mo_prune a1 h = some r) : q_T d 287 [.inr (.inr (30, 7, 0)), .inl a1] h (some (.inl r.1), r.2) := by
  obtain ⟨d, rfl⟩ : ∃ d', d = d' + 1 := ⟨d - 1, by omega⟩
  refine q_ent q_K287 rfl rfl rfl ?_
  unfold Mo_prune at HF
  obtain ⟨x1, hx2, HF⟩ := q_bind HF
  refine q_cll (m' := 183) (av := [.inr (.inr (30, 7, 0)), .inl (0 : Int32)]) (st' := []) (pc' := 5) (loc' := [some (.inr (.inr (30, 7, 0))), some (.inl a1)]) (h' := h) 3 (fun _ _ => rfl) (eMo_is (by omega) hx2) ?_
  obtain ⟨x3, hx4, HF⟩ := q_bind HF
  refine q_cll (m' := 238) (av := [.inr (.inr (30, 7, 0)), .inl a1]) (st' := []) (pc' := 11) (loc' := [some (.inr (.inr (30, 7, 0))), some (.inl a1)]) (h' := x1.2) 4 (fun _ _ => rfl) (eMo_pruneNow (by omega) hx4) ?_
  have hz := Option.some.inj HF
  subst hz
  exact q_rtn 1 (fun _ _ => rfl)
def Mo_vacuum  (h : q_H) : Option (Int32 × q_H) :=
  (Mo_is (0 : Int32) h).bind fun x1 => (Mo_vacuums x1.2).bind fun x3 => some ((x3.1, x3.2))
set_option maxRecDepth 100000 in
set_option maxHeartbeats 4000000 in
theorem eMo_vacuum {d : Nat} (hd : 8 ≤ d)  {h : q_H} {r : (Int32 × q_H)} (HF : Mo_vacuum  h = some r) : q_T d 288 [.inr (.inr (30, 7, 0))] h (some (.inl r.1), r.2) := by
  obtain ⟨d, rfl⟩ : ∃ d', d = d' + 1 := ⟨d - 1, by omega⟩
  refine q_ent q_K288 rfl rfl rfl ?_
  unfold Mo_vacuum at HF
  obtain ⟨x1, hx2, HF⟩ := q_bind HF
  refine q_cll (m' := 183) (av := [.inr (.inr (30, 7, 0)), .inl (0 : Int32)]) (st' := []) (pc' := 5) (loc' := [some (.inr (.inr (30, 7, 0)))]) (h' := h) 3 (fun _ _ => rfl) (eMo_is (by omega) hx2) ?_
  obtain ⟨x3, hx4, HF⟩ := q_bind HF
  refine q_cll (m' := 224) (av := [.inr (.inr (30, 7, 0))]) (st' := []) (pc' := 10) (loc' := [some (.inr (.inr (30, 7, 0)))]) (h' := x1.2) 3 (fun _ _ => rfl) (eMo_vacuums (by omega) hx4) ?_
  have hz := Option.some.inj HF
  subst hz
  exact q_rtn 1 (fun _ _ => rfl)
def Mo_look (a1 : Int32) (a2 : Int32) (h : q_H) : Option (Int32 × q_H) :=
  (Mo_is (0 : Int32) h).bind fun x1 => (Mo_lookNow a1 a2 x1.2).bind fun x3 => some ((x3.1, x3.2))
set_option maxRecDepth 100000 in
set_option maxHeartbeats 4000000 in
theorem eMo_look {d : Nat} (hd : 8 ≤ d) {a1 : Int32} {a2 : Int32} {h : q_H} {r : (Int32 × q_H)} (HF : Mo_look a1 a2 h = some r) : q_T d 289 [.inr (.inr (30, 7, 0)), .inl a1, .inl a2] h (some (.inl r.1), r.2) := by
  obtain ⟨d, rfl⟩ : ∃ d', d = d' + 1 := ⟨d - 1, by omega⟩
  refine q_ent q_K289 rfl rfl rfl ?_
  unfold Mo_look at HF
  obtain ⟨x1, hx2, HF⟩ := q_bind HF
  refine q_cll (m' := 183) (av := [.inr (.inr (30, 7, 0)), .inl (0 : Int32)]) (st' := []) (pc' := 5) (loc' := [some (.inr (.inr (30, 7, 0))), some (.inl a1), some (.inl a2)]) (h' := h) 3 (fun _ _ => rfl) (eMo_is (by omega) hx2) ?_
  obtain ⟨x3, hx4, HF⟩ := q_bind HF
  refine q_cll (m' := 239) (av := [.inr (.inr (30, 7, 0)), .inl a1, .inl a2]) (st' := []) (pc' := 12) (loc' := [some (.inr (.inr (30, 7, 0))), some (.inl a1), some (.inl a2)]) (h' := x1.2) 5 (fun _ _ => rfl) (eMo_lookNow (by omega) hx4) ?_
  have hz := Option.some.inj HF
  subst hz
  exact q_rtn 1 (fun _ _ => rfl)
def Mo_gains (a1 : Int32) (h : q_H) : Option (Int32 × q_H) :=
  (Mo_isIn a1 (0 : Int32) (5 : Int32) h).bind fun x1 => Option.bind (α := Int32) (if x1 = 0 then (some ((1 : Int32))) else (some ((0 : Int32)))) (fun p8 => (Mo_is p8 h).bind fun x9 => if ¬ x9.1 = 0 then ((Mo_copy 31 7 33 7 x9.2).bind fun x11 => (Mo_allFree x11).bind fun x13 => (Mo_vacuums x11).bind fun x15 => if a1 = 0 then ((Mo_allFree x15.2).bind fun x17 => (Mo_copy 33 7 31 7 x15.2).bind fun x19 => some (((x17 - x13), x19))) else (if a1 = 1 then ((Mo_copy 33 7 31 7 x15.2).bind fun x21 => some ((((x15.2.1 31 0 7 10) - (x15.2.1 33 0 7 10)), x21))) else (if a1 = 2 then ((Mo_copy 33 7 31 7 x15.2).bind fun x23 => some ((x15.1, x23))) else (if a1 = 3 then ((Mo_copy 33 7 31 7 x15.2).bind fun x25 => some ((((x15.2.1 31 0 7 12) - (x15.2.1 33 0 7 12)), x25))) else (if a1 = 4 then ((Mo_copy 33 7 31 7 x15.2).bind fun x27 => some ((((x15.2.1 31 0 7 13) - (x15.2.1 33 0 7 13)), x27))) else ((Mo_copy 33 7 31 7 x15.2).bind fun x29 => some ((((x15.2.1 31 0 7 14) - (x15.2.1 33 0 7 14)), x29)))))))) else (some (((-1 : Int32), x9.2))))
set_option maxRecDepth 100000 in
set_option maxHeartbeats 4000000 in
theorem eMo_gains {d : Nat} (hd : 8 ≤ d) {a1 : Int32} {h : q_H} {r : (Int32 × q_H)} (HF : Mo_gains a1 h = some r) : q_T d 306 [.inr (.inr (30, 7, 0)), .inl a1] h (some (.inl r.1), r.2) := by
  obtain ⟨d, rfl⟩ : ∃ d', d = d' + 1 := ⟨d - 1, by omega⟩
  refine q_ent q_K306 rfl rfl rfl ?_
  unfold Mo_gains at HF
  obtain ⟨x1, hx2, HF⟩ := q_bind HF
  refine q_cll (m' := 184) (av := [.inl a1, .inl (0 : Int32), .inl (5 : Int32)]) (st' := [.inr (.inr (30, 7, 0))]) (pc' := 7) (loc' := [some (.inr (.inr (30, 7, 0))), some (.inl a1), none, none]) (h' := h) 5 (fun _ _ => rfl) (eMo_isIn (by omega) hx2) ?_
  obtain ⟨z3, HA4, HK5⟩ := q_bind HF
  have hP6 : ∀ p8 : Int32, ((Mo_is p8 h).bind fun x9 => if ¬ x9.1 = 0 then ((Mo_copy 31 7 33 7 x9.2).bind fun x11 => (Mo_allFree x11).bind fun x13 => (Mo_vacuums x11).bind fun x15 => if a1 = 0 then ((Mo_allFree x15.2).bind fun x17 => (Mo_copy 33 7 31 7 x15.2).bind fun x19 => some (((x17 - x13), x19))) else (if a1 = 1 then ((Mo_copy 33 7 31 7 x15.2).bind fun x21 => some ((((x15.2.1 31 0 7 10) - (x15.2.1 33 0 7 10)), x21))) else (if a1 = 2 then ((Mo_copy 33 7 31 7 x15.2).bind fun x23 => some ((x15.1, x23))) else (if a1 = 3 then ((Mo_copy 33 7 31 7 x15.2).bind fun x25 => some ((((x15.2.1 31 0 7 12) - (x15.2.1 33 0 7 12)), x25))) else (if a1 = 4 then ((Mo_copy 33 7 31 7 x15.2).bind fun x27 => some ((((x15.2.1 31 0 7 13) - (x15.2.1 33 0 7 13)), x27))) else ((Mo_copy 33 7 31 7 x15.2).bind fun x29 => some ((((x15.2.1 31 0 7 14) - (x15.2.1 33 0 7 14)), x29)))))))) else (some (((-1 : Int32), x9.2))) : Option (Int32 × q_H)) = some r → q_E d q_K306 15 [some (.inr (.inr (30, 7, 0))), some (.inl a1), none, none] [.inl p8, .inr (.inr (30, 7, 0))] h (some (.inl r.1), r.2) := by
    intro p8 HF
    obtain ⟨x9, hx10, HF⟩ := q_bind HF
    refine q_cll (m' := 183) (av := [.inr (.inr (30, 7, 0)), .inl p8]) (st' := []) (pc' := 18) (loc' := [some (.inr (.inr (30, 7, 0))), some (.inl a1), none, none]) (h' := h) 1 (fun _ _ => rfl) (eMo_is (by omega) hx10) ?_
    refine q_br (P := ¬ x9.1 = 0) (pcT := 23) (pcF := 21) (loc' := [some (.inr (.inr (30, 7, 0))), some (.inl a1), none, none]) (stk' := []) (h' := x9.2) 1 (fun _ _ => rfl) (fun c36 => ?_) (fun c36 => ?_)
    · rw [if_pos c36] at HF
      obtain ⟨x11, hx12, HF⟩ := q_bind HF
      refine q_cll (m' := 186) (av := [.inr (.inr (31, 7, 0)), .inr (.inr (33, 7, 0))]) (st' := []) (pc' := 34) (loc' := [some (.inr (.inr (30, 7, 0))), some (.inl a1), none, none]) (h' := x9.2) 5 (fun _ _ => rfl) (eMo_copy (by omega) hx12) ?_
      obtain ⟨x13, hx14, HF⟩ := q_bind HF
      refine q_cll (m' := 305) (av := [.inr (.inr (30, 7, 0))]) (st' := []) (pc' := 38) (loc' := [some (.inr (.inr (30, 7, 0))), some (.inl a1), none, none]) (h' := x11) 2 (fun _ _ => rfl) (eMo_allFree (by omega) hx14) ?_
      obtain ⟨x15, hx16, HF⟩ := q_bind HF
      refine q_cll (m' := 224) (av := [.inr (.inr (30, 7, 0))]) (st' := []) (pc' := 43) (loc' := [some (.inr (.inr (30, 7, 0))), some (.inl a1), some (.inl x13), none]) (h' := x11) 3 (fun _ _ => rfl) (eMo_vacuums (by omega) hx16) ?_
      by_cases c31 : a1 = 0
      · rw [if_pos c31] at HF
        refine q_sw (o1 := 35) (pcx := 45) (pc' := 80) (loc' := [some (.inr (.inr (30, 7, 0))), some (.inl a1), some (.inl x13), some (.inl x15.1)]) (stk' := []) (h' := x15.2) 3 (fun _ _ => rfl) (q_tsI c31 rfl) rfl ?_
        obtain ⟨x17, hx18, HF⟩ := q_bind HF
        refine q_cll (m' := 305) (av := [.inr (.inr (30, 7, 0))]) (st' := []) (pc' := 84) (loc' := [some (.inr (.inr (30, 7, 0))), some (.inl a1), some (.inl x13), some (.inl x15.1)]) (h' := x15.2) 2 (fun _ _ => rfl) (eMo_allFree (by omega) hx18) ?_
        obtain ⟨x19, hx20, HF⟩ := q_bind HF
        refine q_cll (m' := 186) (av := [.inr (.inr (33, 7, 0)), .inr (.inr (31, 7, 0))]) (st' := []) (pc' := 177) (loc' := [some (.inr (.inr (30, 7, 0))), some (.inl a1), some (.inl x13), some (.inl (x17 - x13))]) (h' := x15.2) 9 (fun _ _ => rfl) (eMo_copy (by omega) hx20) ?_
        have hz := Option.some.inj HF
        subst hz
        exact q_rtn 2 (fun _ _ => rfl)
      · rw [if_neg c31] at HF
        by_cases c32 : a1 = 1
        · rw [if_pos c32] at HF
          refine q_sw (o1 := 45) (pcx := 45) (pc' := 90) (loc' := [some (.inr (.inr (30, 7, 0))), some (.inl a1), some (.inl x13), some (.inl x15.1)]) (stk' := []) (h' := x15.2) 3 (fun _ _ => rfl) (q_tsI c32 rfl) rfl ?_
          obtain ⟨x21, hx22, HF⟩ := q_bind HF
          refine q_cll (m' := 186) (av := [.inr (.inr (33, 7, 0)), .inr (.inr (31, 7, 0))]) (st' := []) (pc' := 177) (loc' := [some (.inr (.inr (30, 7, 0))), some (.inl a1), some (.inl x13), some (.inl ((x15.2.1 31 0 7 10) - (x15.2.1 33 0 7 10)))]) (h' := x15.2) 16 (fun _ _ => rfl) (eMo_copy (by omega) hx22) ?_
          have hz := Option.some.inj HF
          subst hz
          exact q_rtn 2 (fun _ _ => rfl)
        · rw [if_neg c32] at HF
          by_cases c33 : a1 = 2
          · rw [if_pos c33] at HF
            refine q_sw (o1 := 64) (pcx := 45) (pc' := 109) (loc' := [some (.inr (.inr (30, 7, 0))), some (.inl a1), some (.inl x13), some (.inl x15.1)]) (stk' := []) (h' := x15.2) 3 (fun _ _ => rfl) (q_tsI c33 rfl) rfl ?_
            obtain ⟨x23, hx24, HF⟩ := q_bind HF
            refine q_cll (m' := 186) (av := [.inr (.inr (33, 7, 0)), .inr (.inr (31, 7, 0))]) (st' := []) (pc' := 177) (loc' := [some (.inr (.inr (30, 7, 0))), some (.inl a1), some (.inl x13), some (.inl x15.1)]) (h' := x15.2) 6 (fun _ _ => rfl) (eMo_copy (by omega) hx24) ?_
            have hz := Option.some.inj HF
            subst hz
            exact q_rtn 2 (fun _ _ => rfl)
          · rw [if_neg c33] at HF
            by_cases c34 : a1 = 3
            · rw [if_pos c34] at HF
              refine q_sw (o1 := 67) (pcx := 45) (pc' := 112) (loc' := [some (.inr (.inr (30, 7, 0))), some (.inl a1), some (.inl x13), some (.inl x15.1)]) (stk' := []) (h' := x15.2) 3 (fun _ _ => rfl) (q_tsI c34 rfl) rfl ?_
              obtain ⟨x25, hx26, HF⟩ := q_bind HF
              refine q_cll (m' := 186) (av := [.inr (.inr (33, 7, 0)), .inr (.inr (31, 7, 0))]) (st' := []) (pc' := 177) (loc' := [some (.inr (.inr (30, 7, 0))), some (.inl a1), some (.inl x13), some (.inl ((x15.2.1 31 0 7 12) - (x15.2.1 33 0 7 12)))]) (h' := x15.2) 16 (fun _ _ => rfl) (eMo_copy (by omega) hx26) ?_
              have hz := Option.some.inj HF
              subst hz
              exact q_rtn 2 (fun _ _ => rfl)
            · rw [if_neg c34] at HF
              by_cases c35 : a1 = 4
              · rw [if_pos c35] at HF
                refine q_sw (o1 := 86) (pcx := 45) (pc' := 131) (loc' := [some (.inr (.inr (30, 7, 0))), some (.inl a1), some (.inl x13), some (.inl x15.1)]) (stk' := []) (h' := x15.2) 3 (fun _ _ => rfl) (q_tsI c35 rfl) rfl ?_
                obtain ⟨x27, hx28, HF⟩ := q_bind HF
                refine q_cll (m' := 186) (av := [.inr (.inr (33, 7, 0)), .inr (.inr (31, 7, 0))]) (st' := []) (pc' := 177) (loc' := [some (.inr (.inr (30, 7, 0))), some (.inl a1), some (.inl x13), some (.inl ((x15.2.1 31 0 7 13) - (x15.2.1 33 0 7 13)))]) (h' := x15.2) 16 (fun _ _ => rfl) (eMo_copy (by omega) hx28) ?_
                have hz := Option.some.inj HF
                subst hz
                exact q_rtn 2 (fun _ _ => rfl)
              · rw [if_neg c35] at HF
                refine q_sw (o1 := 105) (pcx := 45) (pc' := 150) (loc' := [some (.inr (.inr (30, 7, 0))), some (.inl a1), some (.inl x13), some (.inl x15.1)]) (stk' := []) (h' := x15.2) 3 (fun _ _ => rfl) (q_tsD (a := a1) (lo := 0) (hi := 4) (by have z0 := q_neI c31 (a := 0) rfl; have z1 := q_neI c32 (a := 1) rfl; have z2 := q_neI c33 (a := 2) rfl; have z3 := q_neI c34 (a := 3) rfl; have z4 := q_neI c35 (a := 4) rfl; omega)) rfl ?_
                obtain ⟨x29, hx30, HF⟩ := q_bind HF
                refine q_cll (m' := 186) (av := [.inr (.inr (33, 7, 0)), .inr (.inr (31, 7, 0))]) (st' := []) (pc' := 177) (loc' := [some (.inr (.inr (30, 7, 0))), some (.inl a1), some (.inl x13), some (.inl ((x15.2.1 31 0 7 14) - (x15.2.1 33 0 7 14)))]) (h' := x15.2) 15 (fun _ _ => rfl) (eMo_copy (by omega) hx30) ?_
                have hz := Option.some.inj HF
                subst hz
                exact q_rtn 2 (fun _ _ => rfl)
    · rw [if_neg c36] at HF
      have hz := Option.some.inj HF
      subst hz
      exact q_rtn 2 (fun _ _ => rfl)
  replace HF := HA4
  refine q_br (P := x1 = 0) (pcT := 14) (pcF := 10) (loc' := [some (.inr (.inr (30, 7, 0))), some (.inl a1), none, none]) (stk' := [.inr (.inr (30, 7, 0))]) (h' := h) 1 (fun _ _ => rfl) (fun c7 => ?_) (fun c7 => ?_)
  · rw [if_pos c7] at HF
    refine q_blk (pc' := 15) (loc' := [some (.inr (.inr (30, 7, 0))), some (.inl a1), none, none]) (stk' := [.inl (1 : Int32), .inr (.inr (30, 7, 0))]) (h' := h) 1 (fun _ _ => rfl) ?_
    have hz := Option.some.inj HF
    subst hz
    exact hP6 (1 : Int32) HK5
  · rw [if_neg c7] at HF
    refine q_blk (pc' := 15) (loc' := [some (.inr (.inr (30, 7, 0))), some (.inl a1), none, none]) (stk' := [.inl (0 : Int32), .inr (.inr (30, 7, 0))]) (h' := h) 2 (fun _ _ => rfl) ?_
    have hz := Option.some.inj HF
    subst hz
    exact hP6 (0 : Int32) HK5
def Mo_most (a1 : Int32) (h : q_H) : Option (Int32 × q_H) :=
  (Mo_isPage a1 h).bind fun x1 => Option.bind (α := Int32) (if x1 = 0 then (some ((2 : Int32))) else (some ((0 : Int32)))) (fun p8 => (Mo_is p8 h).bind fun x9 => if ¬ x9.1 = 0 then ((Mo_copy 31 7 33 7 x9.2).bind fun x11 => (q_lp (fun s13 : Int32 × q_H => (if (s13.2.1 31 0 7 4) ≤ s13.1 then ((Mo_vacuums s13.2).bind fun x21 => (Mo_freeIn a1 x21.2).bind fun x23 => (Mo_copy 33 7 31 7 x21.2).bind fun x25 => some (.inr ((x23, x25)))) else ((Mo_isOpen s13.1 s13.2).bind fun x27 => Option.bind (α := q_H) (if x27 = 0 then (some (s13.2)) else (bif q_in ((1052 : Int32) + ((3 : Int32) * s13.1)) 1644 then (some ((q_si s13.2 31 0 7 ((1052 : Int32) + ((3 : Int32) * s13.1)).toNatClampNeg (1 : Int32)))) else none)) (fun p35 => some (.inl ((s13.1 + (1 : Int32)), p35)))) : Option ((Int32 × q_H) ⊕ (Int32 × q_H)))) q_fu (((1 : Int32), x11) : Int32 × q_H)).bind fun z20 => some z20) else (some (((-1 : Int32), x9.2))))
set_option maxRecDepth 100000 in
set_option maxHeartbeats 4000000 in
theorem eMo_most {d : Nat} (hd : 8 ≤ d) {a1 : Int32} {h : q_H} {r : (Int32 × q_H)} (HF : Mo_most a1 h = some r) : q_T d 309 [.inr (.inr (30, 7, 0)), .inl a1] h (some (.inl r.1), r.2) := by
  obtain ⟨d, rfl⟩ : ∃ d', d = d' + 1 := ⟨d - 1, by omega⟩
  refine q_ent q_K309 rfl rfl rfl ?_
  unfold Mo_most at HF
  obtain ⟨x1, hx2, HF⟩ := q_bind HF
  refine q_cll (m' := 265) (av := [.inl a1]) (st' := [.inr (.inr (30, 7, 0))]) (pc' := 5) (loc' := [some (.inr (.inr (30, 7, 0))), some (.inl a1), none]) (h' := h) 3 (fun _ _ => rfl) (eMo_isPage (by omega) hx2) ?_
  obtain ⟨z3, HA4, HK5⟩ := q_bind HF
  have hP6 : ∀ p8 : Int32, ((Mo_is p8 h).bind fun x9 => if ¬ x9.1 = 0 then ((Mo_copy 31 7 33 7 x9.2).bind fun x11 => (q_lp (fun s13 : Int32 × q_H => (if (s13.2.1 31 0 7 4) ≤ s13.1 then ((Mo_vacuums s13.2).bind fun x21 => (Mo_freeIn a1 x21.2).bind fun x23 => (Mo_copy 33 7 31 7 x21.2).bind fun x25 => some (.inr ((x23, x25)))) else ((Mo_isOpen s13.1 s13.2).bind fun x27 => Option.bind (α := q_H) (if x27 = 0 then (some (s13.2)) else (bif q_in ((1052 : Int32) + ((3 : Int32) * s13.1)) 1644 then (some ((q_si s13.2 31 0 7 ((1052 : Int32) + ((3 : Int32) * s13.1)).toNatClampNeg (1 : Int32)))) else none)) (fun p35 => some (.inl ((s13.1 + (1 : Int32)), p35)))) : Option ((Int32 × q_H) ⊕ (Int32 × q_H)))) q_fu (((1 : Int32), x11) : Int32 × q_H)).bind fun z20 => some z20) else (some (((-1 : Int32), x9.2))) : Option (Int32 × q_H)) = some r → q_E d q_K309 13 [some (.inr (.inr (30, 7, 0))), some (.inl a1), none] [.inl p8, .inr (.inr (30, 7, 0))] h (some (.inl r.1), r.2) := by
    intro p8 HF
    obtain ⟨x9, hx10, HF⟩ := q_bind HF
    refine q_cll (m' := 183) (av := [.inr (.inr (30, 7, 0)), .inl p8]) (st' := []) (pc' := 16) (loc' := [some (.inr (.inr (30, 7, 0))), some (.inl a1), none]) (h' := h) 1 (fun _ _ => rfl) (eMo_is (by omega) hx10) ?_
    refine q_br (P := ¬ x9.1 = 0) (pcT := 21) (pcF := 19) (loc' := [some (.inr (.inr (30, 7, 0))), some (.inl a1), none]) (stk' := []) (h' := x9.2) 1 (fun _ _ => rfl) (fun c38 => ?_) (fun c38 => ?_)
    · rw [if_pos c38] at HF
      obtain ⟨x11, hx12, HF⟩ := q_bind HF
      refine q_cll (m' := 186) (av := [.inr (.inr (31, 7, 0)), .inr (.inr (33, 7, 0))]) (st' := []) (pc' := 32) (loc' := [some (.inr (.inr (30, 7, 0))), some (.inl a1), none]) (h' := x9.2) 5 (fun _ _ => rfl) (eMo_copy (by omega) hx12) ?_
      refine q_blk (pc' := 34) (loc' := [some (.inr (.inr (30, 7, 0))), some (.inl a1), some (.inl (1 : Int32))]) (stk' := []) (h' := x11) 2 (fun _ _ => rfl) ?_
      obtain ⟨r18, hl19, HK16⟩ := q_bind HF
      refine q_lpE (E := fun s13 => q_E d q_K309 34 [some (.inr (.inr (30, 7, 0))), some (.inl a1), some (.inl s13.1)] [] s13.2 (some (.inl r.1), r.2)) r18 (fun s13 z20 HF H114 H215 => ?_) _ _ hl19
      refine q_br (P := (s13.2.1 31 0 7 4) ≤ s13.1) (pcT := 71) (pcF := 44) (loc' := [some (.inr (.inr (30, 7, 0))), some (.inl a1), some (.inl s13.1)]) (stk' := []) (h' := s13.2) 6 (fun _ _ => rfl) (fun c37 => ?_) (fun c37 => ?_)
      · rw [if_pos c37] at HF
        obtain ⟨x21, hx22, HF⟩ := q_bind HF
        refine q_cll (m' := 224) (av := [.inr (.inr (30, 7, 0))]) (st' := []) (pc' := 75) (loc' := [some (.inr (.inr (30, 7, 0))), some (.inl a1), some (.inl s13.1)]) (h' := s13.2) 2 (fun _ _ => rfl) (eMo_vacuums (by omega) hx22) ?_
        obtain ⟨x23, hx24, HF⟩ := q_bind HF
        refine q_cll (m' := 192) (av := [.inr (.inr (30, 7, 0)), .inl a1]) (st' := []) (pc' := 81) (loc' := [some (.inr (.inr (30, 7, 0))), some (.inl a1), some (.inl s13.1)]) (h' := x21.2) 4 (fun _ _ => rfl) (eMo_freeIn (by omega) hx24) ?_
        obtain ⟨x25, hx26, HF⟩ := q_bind HF
        refine q_cll (m' := 186) (av := [.inr (.inr (33, 7, 0)), .inr (.inr (31, 7, 0))]) (st' := []) (pc' := 93) (loc' := [some (.inr (.inr (30, 7, 0))), some (.inl a1), some (.inl x23)]) (h' := x21.2) 6 (fun _ _ => rfl) (eMo_copy (by omega) hx26) ?_
        have hz := Option.some.inj HF
        subst hz
        replace HF := HK16
        rw [← H215 _ rfl] at HF
        have hz := Option.some.inj HF
        subst hz
        exact q_rtn 2 (fun _ _ => rfl)
      · rw [if_neg c37] at HF
        obtain ⟨x27, hx28, HF⟩ := q_bind HF
        refine q_cll (m' := 197) (av := [.inr (.inr (30, 7, 0)), .inl s13.1]) (st' := []) (pc' := 49) (loc' := [some (.inr (.inr (30, 7, 0))), some (.inl a1), some (.inl s13.1)]) (h' := s13.2) 3 (fun _ _ => rfl) (eMo_isOpen (by omega) hx28) ?_
        obtain ⟨z29, HA30, HK31⟩ := q_bind HF
        have hP32 : ∀ p35 : q_H, (some (.inl ((s13.1 + (1 : Int32)), p35)) : Option ((Int32 × q_H) ⊕ (Int32 × q_H))) = some z20 → q_E d q_K309 65 [some (.inr (.inr (30, 7, 0))), some (.inl a1), some (.inl s13.1)] [] p35 (some (.inl r.1), r.2) := by
          intro p35 HF
          refine q_blk (pc' := 34) (loc' := [some (.inr (.inr (30, 7, 0))), some (.inl a1), some (.inl (s13.1 + (1 : Int32)))]) (stk' := []) (h' := p35) 2 (fun _ _ => rfl) ?_
          have hz := Option.some.inj HF
          subst hz
          exact H114 ((s13.1 + (1 : Int32)), p35) rfl
        replace HF := HA30
        refine q_br (P := x27 = 0) (pcT := 65) (pcF := 52) (loc' := [some (.inr (.inr (30, 7, 0))), some (.inl a1), some (.inl s13.1)]) (stk' := []) (h' := s13.2) 1 (fun _ _ => rfl) (fun c34 => ?_) (fun c34 => ?_)
        · rw [if_pos c34] at HF
          have hz := Option.some.inj HF
          subst hz
          exact hP32 (s13.2) HK31
        · rw [if_neg c34] at HF
          obtain ⟨g33, HF⟩ := q_gF HF
          refine q_gd (pc' := 65) (loc' := [some (.inr (.inr (30, 7, 0))), some (.inl a1), some (.inl s13.1)]) (stk' := []) (h' := (q_si s13.2 31 0 7 ((1052 : Int32) + ((3 : Int32) * s13.1)).toNatClampNeg (1 : Int32))) 9 (fun _ _ => rfl) g33 ?_
          have hz := Option.some.inj HF
          subst hz
          exact hP32 (q_si s13.2 31 0 7 ((1052 : Int32) + ((3 : Int32) * s13.1)).toNatClampNeg (1 : Int32)) HK31
    · rw [if_neg c38] at HF
      have hz := Option.some.inj HF
      subst hz
      exact q_rtn 2 (fun _ _ => rfl)
  replace HF := HA4
  refine q_br (P := x1 = 0) (pcT := 12) (pcF := 8) (loc' := [some (.inr (.inr (30, 7, 0))), some (.inl a1), none]) (stk' := [.inr (.inr (30, 7, 0))]) (h' := h) 1 (fun _ _ => rfl) (fun c7 => ?_) (fun c7 => ?_)
  · rw [if_pos c7] at HF
    refine q_blk (pc' := 13) (loc' := [some (.inr (.inr (30, 7, 0))), some (.inl a1), none]) (stk' := [.inl (2 : Int32), .inr (.inr (30, 7, 0))]) (h' := h) 1 (fun _ _ => rfl) ?_
    have hz := Option.some.inj HF
    subst hz
    exact hP6 (2 : Int32) HK5
  · rw [if_neg c7] at HF
    refine q_blk (pc' := 13) (loc' := [some (.inr (.inr (30, 7, 0))), some (.inl a1), none]) (stk' := [.inl (0 : Int32), .inr (.inr (30, 7, 0))]) (h' := h) 2 (fun _ _ => rfl) ?_
    have hz := Option.some.inj HF
    subst hz
    exact hP6 (0 : Int32) HK5
def Rp_load (a1 : Int32) (h : q_H) : Option (Int32 × q_H) :=
  if a1 < 0 then ((Rp_refuse (1 : Int32) h).bind fun x1 => some ((x1.1, x1.2))) else (if a1 ≤ (h.1 25 1 6 0) then ((St_copyFrom 2 0 h).bind fun x3 => (St_makeAnew 0 x3).bind fun x5 => (Tx_open a1 x5).bind fun x7 => (q_lp (fun s9 : Int32 × q_H => (if (700 : Int32) < s9.1 then (some (.inr (s9.2))) else ((Tx_readLine s9.2).bind fun x17 => if x17.1 = 0 then (some (.inr (x17.2))) else ((Rp_perform x17.2).bind fun x19 => some (.inl ((s9.1 + (1 : Int32)), x19)))) : Option ((Int32 × q_H) ⊕ (q_H)))) q_fu (((0 : Int32), x7) : Int32 × q_H)).bind fun p23 => if (p23.1 25 15 6 0) = 0 then ((Rp_answer (p23.1 0 7 0 0) p23).bind fun x24 => some ((x24.1, x24.2))) else ((St_copyFrom 0 2 p23).bind fun x26 => (Rp_refuse (9 : Int32) x26).bind fun x28 => some ((x28.1, x28.2)))) else ((Rp_refuse (1 : Int32) h).bind fun x31 => some ((x31.1, x31.2))))
set_option maxRecDepth 100000 in
set_option maxHeartbeats 4000000 in
theorem eRp_load {d : Nat} (hd : 9 ≤ d) {a1 : Int32} {h : q_H} {r : (Int32 × q_H)} (HF : Rp_load a1 h = some r) : q_T d 7 [.inr (.inr (24, 6, 0)), .inl a1] h (some (.inl r.1), r.2) := by
  obtain ⟨d, rfl⟩ : ∃ d', d = d' + 1 := ⟨d - 1, by omega⟩
  refine q_ent q_K7 rfl rfl rfl ?_
  unfold Rp_load at HF
  refine q_br (P := a1 < 0) (pcT := 15) (pcF := 4) (loc' := [some (.inr (.inr (24, 6, 0))), some (.inl a1), none]) (stk' := []) (h' := h) 2 (fun _ _ => rfl) (fun c34 => ?_) (fun c34 => ?_)
  · rw [if_pos c34] at HF
    obtain ⟨x1, hx2, HF⟩ := q_bind HF
    refine q_cll (m' := 46) (av := [.inr (.inr (24, 6, 0)), .inl (1 : Int32)]) (st' := []) (pc' := 20) (loc' := [some (.inr (.inr (24, 6, 0))), some (.inl a1), none]) (h' := h) 3 (fun _ _ => rfl) (eRp_refuse (by omega) hx2) ?_
    have hz := Option.some.inj HF
    subst hz
    exact q_rtn 1 (fun _ _ => rfl)
  · rw [if_neg c34] at HF
    refine q_br (P := a1 ≤ (h.1 25 1 6 0)) (pcT := 21) (pcF := 15) (loc' := [some (.inr (.inr (24, 6, 0))), some (.inl a1), none]) (stk' := []) (h' := h) 5 (fun _ _ => rfl) (fun c33 => ?_) (fun c33 => ?_)
    · rw [if_pos c33] at HF
      obtain ⟨x3, hx4, HF⟩ := q_bind HF
      refine q_cll (m' := 142) (av := [.inr (.inr (0, 2, 0)), .inr (.inr (0, 0, 0))]) (st' := []) (pc' := 32) (loc' := [some (.inr (.inr (24, 6, 0))), some (.inl a1), none]) (h' := h) 5 (fun _ _ => rfl) (eSt_copyFrom (by omega) hx4) ?_
      obtain ⟨x5, hx6, HF⟩ := q_bind HF
      refine q_cll (m' := 143) (av := [.inr (.inr (0, 0, 0))]) (st' := []) (pc' := 39) (loc' := [some (.inr (.inr (24, 6, 0))), some (.inl a1), none]) (h' := x3) 3 (fun _ _ => rfl) (eSt_makeAnew (by omega) hx6) ?_
      obtain ⟨x7, hx8, HF⟩ := q_bind HF
      refine q_cll (m' := 124) (av := [.inr (.inr (25, 6, 0)), .inl a1]) (st' := []) (pc' := 47) (loc' := [some (.inr (.inr (24, 6, 0))), some (.inl a1), none]) (h' := x5) 4 (fun _ _ => rfl) (eTx_open (by omega) hx8) ?_
      refine q_blk (pc' := 49) (loc' := [some (.inr (.inr (24, 6, 0))), some (.inl a1), some (.inl (0 : Int32))]) (stk' := []) (h' := x7) 2 (fun _ _ => rfl) ?_
      obtain ⟨r14, hl15, HK12⟩ := q_bind HF
      have hP13 : ∀ p23 : q_H, (if (p23.1 25 15 6 0) = 0 then ((Rp_answer (p23.1 0 7 0 0) p23).bind fun x24 => some ((x24.1, x24.2))) else ((St_copyFrom 0 2 p23).bind fun x26 => (Rp_refuse (9 : Int32) x26).bind fun x28 => some ((x28.1, x28.2))) : Option (Int32 × q_H)) = some r → q_E d q_K7 76 [some (.inr (.inr (24, 6, 0))), some (.inl a1), none] [] p23 (some (.inl r.1), r.2) := by
        intro p23 HF
        refine q_br (P := (p23.1 25 15 6 0) = 0) (pcT := 104) (pcF := 86) (loc' := [some (.inr (.inr (24, 6, 0))), some (.inl a1), none]) (stk' := []) (h' := p23) 4 (fun _ _ => rfl) (fun c30 => ?_) (fun c30 => ?_)
        · rw [if_pos c30] at HF
          obtain ⟨x24, hx25, HF⟩ := q_bind HF
          refine q_cll (m' := 45) (av := [.inr (.inr (24, 6, 0)), .inl (p23.1 0 7 0 0)]) (st' := []) (pc' := 115) (loc' := [some (.inr (.inr (24, 6, 0))), some (.inl a1), none]) (h' := p23) 5 (fun _ _ => rfl) (eRp_answer (by omega) hx25) ?_
          have hz := Option.some.inj HF
          subst hz
          exact q_rtn 1 (fun _ _ => rfl)
        · rw [if_neg c30] at HF
          obtain ⟨x26, hx27, HF⟩ := q_bind HF
          refine q_cll (m' := 142) (av := [.inr (.inr (0, 0, 0)), .inr (.inr (0, 2, 0))]) (st' := []) (pc' := 97) (loc' := [some (.inr (.inr (24, 6, 0))), some (.inl a1), none]) (h' := p23) 5 (fun _ _ => rfl) (eSt_copyFrom (by omega) hx27) ?_
          obtain ⟨x28, hx29, HF⟩ := q_bind HF
          refine q_cll (m' := 46) (av := [.inr (.inr (24, 6, 0)), .inl (9 : Int32)]) (st' := []) (pc' := 103) (loc' := [some (.inr (.inr (24, 6, 0))), some (.inl a1), none]) (h' := x26) 3 (fun _ _ => rfl) (eRp_refuse (by omega) hx29) ?_
          have hz := Option.some.inj HF
          subst hz
          exact q_rtn 1 (fun _ _ => rfl)
      refine q_lpE (E := fun s9 => q_E d q_K7 49 [some (.inr (.inr (24, 6, 0))), some (.inl a1), some (.inl s9.1)] [] s9.2 (some (.inl r.1), r.2)) r14 (fun s9 z16 HF H110 H211 => ?_) _ _ hl15
      refine q_br (P := (700 : Int32) < s9.1) (pcT := 76) (pcF := 56) (loc' := [some (.inr (.inr (24, 6, 0))), some (.inl a1), some (.inl s9.1)]) (stk' := []) (h' := s9.2) 3 (fun _ _ => rfl) (fun c22 => ?_) (fun c22 => ?_)
      · rw [if_pos c22] at HF
        have hz := Option.some.inj HF
        subst hz
        rw [← H211 _ rfl] at HK12
        exact q_wk (loc := [some (.inr (.inr (24, 6, 0))), some (.inl a1), none]) ⟨Or.inl rfl, ⟨Or.inl rfl, ⟨Or.inr ⟨rfl, fun _ h => by cases h⟩, trivial⟩⟩⟩ (hP13 (s9.2) HK12)
      · rw [if_neg c22] at HF
        obtain ⟨x17, hx18, HF⟩ := q_bind HF
        refine q_cll (m' := 127) (av := [.inr (.inr (25, 6, 0))]) (st' := []) (pc' := 63) (loc' := [some (.inr (.inr (24, 6, 0))), some (.inl a1), some (.inl s9.1)]) (h' := s9.2) 3 (fun _ _ => rfl) (eTx_readLine (by omega) hx18) ?_
        refine q_br (P := x17.1 = 0) (pcT := 76) (pcF := 66) (loc' := [some (.inr (.inr (24, 6, 0))), some (.inl a1), some (.inl s9.1)]) (stk' := []) (h' := x17.2) 1 (fun _ _ => rfl) (fun c21 => ?_) (fun c21 => ?_)
        · rw [if_pos c21] at HF
          have hz := Option.some.inj HF
          subst hz
          rw [← H211 _ rfl] at HK12
          exact q_wk (loc := [some (.inr (.inr (24, 6, 0))), some (.inl a1), none]) ⟨Or.inl rfl, ⟨Or.inl rfl, ⟨Or.inr ⟨rfl, fun _ h => by cases h⟩, trivial⟩⟩⟩ (hP13 (x17.2) HK12)
        · rw [if_neg c21] at HF
          obtain ⟨x19, hx20, HF⟩ := q_bind HF
          refine q_cll (m' := 53) (av := [.inr (.inr (24, 6, 0))]) (st' := []) (pc' := 70) (loc' := [some (.inr (.inr (24, 6, 0))), some (.inl a1), some (.inl s9.1)]) (h' := x17.2) 2 (fun _ _ => rfl) (eRp_perform (by omega) hx20) ?_
          refine q_blk (pc' := 49) (loc' := [some (.inr (.inr (24, 6, 0))), some (.inl a1), some (.inl (s9.1 + (1 : Int32)))]) (stk' := []) (h' := x19) 2 (fun _ _ => rfl) ?_
          have hz := Option.some.inj HF
          subst hz
          exact H110 ((s9.1 + (1 : Int32)), x19) rfl
    · rw [if_neg c33] at HF
      obtain ⟨x31, hx32, HF⟩ := q_bind HF
      refine q_cll (m' := 46) (av := [.inr (.inr (24, 6, 0)), .inl (1 : Int32)]) (st' := []) (pc' := 20) (loc' := [some (.inr (.inr (24, 6, 0))), some (.inl a1), none]) (h' := h) 3 (fun _ _ => rfl) (eRp_refuse (by omega) hx32) ?_
      have hz := Option.some.inj HF
      subst hz
      exact q_rtn 1 (fun _ _ => rfl)
def Mo_readsLine  (h : q_H) : Option q_H :=
  (Mo_key h).bind fun x1 => Option.bind (α := Int32) (if x1 < 0 then (some ((0 : Int32))) else (some ((1 : Int32)))) (fun p8 => (Mo_must p8 (2 : Int32) (h.1 30 17 7 0) h).bind fun x9 => if (x9.1 30 15 7 0) ≤ 0 then (Option.bind (α := Int32) (if (2 : Int32) < x1 then (some ((1 : Int32))) else (if ¬ (((x9.1 30 26 7 0) >>> (x1 &&& 31)) &&& (1 : Int32)) = 0 then (some ((0 : Int32))) else (if ¬ (x9.1 30 27 7 0) = 0 then (some ((0 : Int32))) else (if ¬ (x9.1 30 28 7 0) = 0 then (some ((0 : Int32))) else (some ((1 : Int32))))))) (fun p19 => (Mo_must p19 (5 : Int32) (x9.1 30 17 7 0) x9).bind fun x20 => Option.bind (α := Int32) (if ¬ x1 = (3 : Int32) then (some ((1 : Int32))) else (if ¬ (x20.1 30 28 7 0) = 0 then (some ((0 : Int32))) else (some ((1 : Int32))))) (fun p28 => (Mo_must p28 (5 : Int32) (x20.1 30 17 7 0) x20).bind fun x29 => if (x29.1 30 15 7 0) ≤ 0 then ((Mo_reads x29).bind fun x31 => (Mo_takesNumbers x1 x31).bind fun x33 => if (x33.1 30 15 7 0) ≤ 0 then (Option.bind (α := q_H) (if (3 : Int32) ≤ x1 then (if ¬ x1 = (3 : Int32) then ((Mo_doesAct x1 (q_si x33 30 28 7 0 (1 : Int32))).bind fun x39 => if x39.1 < 0 then ((Mo_must (0 : Int32) (7 : Int32) (h.1 30 17 7 0) x39.2).bind fun x41 => some (x41)) else ((Mo_must (1 : Int32) (7 : Int32) (h.1 30 17 7 0) x39.2).bind fun x43 => some (x43))) else (Option.bind (α := Int32) (if (40 : Int32) ≤ ((q_si x33 30 27 7 0 (1 : Int32)).1 31 0 7 3) then (some ((0 : Int32))) else ((Mo_firstPlace ((q_si x33 30 27 7 0 (1 : Int32)).1 41 0 7 2) (q_si x33 30 27 7 0 (1 : Int32))).bind fun x50 => if x50 < 0 then (some ((0 : Int32))) else (some ((1 : Int32))))) (fun p54 => (Mo_must p54 (6 : Int32) (h.1 30 17 7 0) (q_si x33 30 27 7 0 (1 : Int32))).bind fun x55 => if ¬ (x55.1 30 15 7 0) = 0 then (some (x55)) else ((Mo_inserts (1 : Int32) (x55.1 41 0 7 0) (x55.1 41 0 7 1) (x55.1 41 0 7 2) x55).bind fun x57 => some (x57.2))))) else (bif q_in x1 1644 then ((some (q_si (q_si x33 30 26 7 0 ((x33.1 30 26 7 0) ||| ((1 : Int32) <<< (x1 &&& 31)))) 31 0 7 x1.toNatClampNeg ((q_si x33 30 26 7 0 ((x33.1 30 26 7 0) ||| ((1 : Int32) <<< (x1 &&& 31)))).1 41 0 7 0))).bind fun h62 => some (h62)) else none)) (fun p66 => Option.bind (α := Int32) (if ¬ (p66.1 30 19 7 0) = (3 : Int32) then (some ((0 : Int32))) else (some ((1 : Int32)))) (fun p72 => (Mo_must p72 (2 : Int32) (p66.1 30 17 7 0) p66).bind fun x73 => if ¬ (x73.1 30 15 7 0) = 0 then (some (x73)) else ((Mo_reads x73).bind fun x75 => some (x75))))) else (some (x33))) else (some (x29))))) else (some (x9)))
set_option maxRecDepth 100000 in
set_option maxHeartbeats 4000000 in
theorem eMo_readsLine {d : Nat} (hd : 9 ≤ d)  {h : q_H} {r : q_H} (HF : Mo_readsLine  h = some r) : q_T d 257 [.inr (.inr (30, 7, 0))] h (none, r) := by
  obtain ⟨d, rfl⟩ : ∃ d', d = d' + 1 := ⟨d - 1, by omega⟩
  refine q_ent q_K257 rfl rfl rfl ?_
  unfold Mo_readsLine at HF
  obtain ⟨x1, hx2, HF⟩ := q_bind HF
  refine q_cll (m' := 254) (av := [.inr (.inr (30, 7, 0))]) (st' := []) (pc' := 4) (loc' := [some (.inr (.inr (30, 7, 0))), none, none]) (h' := h) 2 (fun _ _ => rfl) (eMo_key (by omega) hx2) ?_
  obtain ⟨z3, HA4, HK5⟩ := q_bind HF
  have hP6 : ∀ p8 : Int32, ((Mo_must p8 (2 : Int32) (h.1 30 17 7 0) h).bind fun x9 => if (x9.1 30 15 7 0) ≤ 0 then (Option.bind (α := Int32) (if (2 : Int32) < x1 then (some ((1 : Int32))) else (if ¬ (((x9.1 30 26 7 0) >>> (x1 &&& 31)) &&& (1 : Int32)) = 0 then (some ((0 : Int32))) else (if ¬ (x9.1 30 27 7 0) = 0 then (some ((0 : Int32))) else (if ¬ (x9.1 30 28 7 0) = 0 then (some ((0 : Int32))) else (some ((1 : Int32))))))) (fun p19 => (Mo_must p19 (5 : Int32) (x9.1 30 17 7 0) x9).bind fun x20 => Option.bind (α := Int32) (if ¬ x1 = (3 : Int32) then (some ((1 : Int32))) else (if ¬ (x20.1 30 28 7 0) = 0 then (some ((0 : Int32))) else (some ((1 : Int32))))) (fun p28 => (Mo_must p28 (5 : Int32) (x20.1 30 17 7 0) x20).bind fun x29 => if (x29.1 30 15 7 0) ≤ 0 then ((Mo_reads x29).bind fun x31 => (Mo_takesNumbers x1 x31).bind fun x33 => if (x33.1 30 15 7 0) ≤ 0 then (Option.bind (α := q_H) (if (3 : Int32) ≤ x1 then (if ¬ x1 = (3 : Int32) then ((Mo_doesAct x1 (q_si x33 30 28 7 0 (1 : Int32))).bind fun x39 => if x39.1 < 0 then ((Mo_must (0 : Int32) (7 : Int32) (h.1 30 17 7 0) x39.2).bind fun x41 => some (x41)) else ((Mo_must (1 : Int32) (7 : Int32) (h.1 30 17 7 0) x39.2).bind fun x43 => some (x43))) else (Option.bind (α := Int32) (if (40 : Int32) ≤ ((q_si x33 30 27 7 0 (1 : Int32)).1 31 0 7 3) then (some ((0 : Int32))) else ((Mo_firstPlace ((q_si x33 30 27 7 0 (1 : Int32)).1 41 0 7 2) (q_si x33 30 27 7 0 (1 : Int32))).bind fun x50 => if x50 < 0 then (some ((0 : Int32))) else (some ((1 : Int32))))) (fun p54 => (Mo_must p54 (6 : Int32) (h.1 30 17 7 0) (q_si x33 30 27 7 0 (1 : Int32))).bind fun x55 => if ¬ (x55.1 30 15 7 0) = 0 then (some (x55)) else ((Mo_inserts (1 : Int32) (x55.1 41 0 7 0) (x55.1 41 0 7 1) (x55.1 41 0 7 2) x55).bind fun x57 => some (x57.2))))) else (bif q_in x1 1644 then ((some (q_si (q_si x33 30 26 7 0 ((x33.1 30 26 7 0) ||| ((1 : Int32) <<< (x1 &&& 31)))) 31 0 7 x1.toNatClampNeg ((q_si x33 30 26 7 0 ((x33.1 30 26 7 0) ||| ((1 : Int32) <<< (x1 &&& 31)))).1 41 0 7 0))).bind fun h62 => some (h62)) else none)) (fun p66 => Option.bind (α := Int32) (if ¬ (p66.1 30 19 7 0) = (3 : Int32) then (some ((0 : Int32))) else (some ((1 : Int32)))) (fun p72 => (Mo_must p72 (2 : Int32) (p66.1 30 17 7 0) p66).bind fun x73 => if ¬ (x73.1 30 15 7 0) = 0 then (some (x73)) else ((Mo_reads x73).bind fun x75 => some (x75))))) else (some (x33))) else (some (x29))))) else (some (x9)) : Option q_H) = some r → q_E d q_K257 20 [some (.inr (.inr (30, 7, 0))), some (.inl x1), some (.inl (h.1 30 17 7 0))] [.inl p8, .inr (.inr (30, 7, 0))] h (none, r) := by
    intro p8 HF
    obtain ⟨x9, hx10, HF⟩ := q_bind HF
    refine q_cll (m' := 253) (av := [.inr (.inr (30, 7, 0)), .inl p8, .inl (2 : Int32), .inl (h.1 30 17 7 0)]) (st' := []) (pc' := 28) (loc' := [some (.inr (.inr (30, 7, 0))), some (.inl x1), some (.inl (h.1 30 17 7 0))]) (h' := h) 4 (fun _ _ => rfl) (eMo_must (by omega) hx10) ?_
    refine q_br (P := (x9.1 30 15 7 0) ≤ 0) (pcT := 36) (pcF := 35) (loc' := [some (.inr (.inr (30, 7, 0))), some (.inl x1), some (.inl (h.1 30 17 7 0))]) (stk' := []) (h' := x9) 3 (fun _ _ => rfl) (fun c84 => ?_) (fun c84 => ?_)
    · rw [if_pos c84] at HF
      obtain ⟨z11, HA12, HK13⟩ := q_bind HF
      have hP14 : ∀ p19 : Int32, ((Mo_must p19 (5 : Int32) (x9.1 30 17 7 0) x9).bind fun x20 => Option.bind (α := Int32) (if ¬ x1 = (3 : Int32) then (some ((1 : Int32))) else (if ¬ (x20.1 30 28 7 0) = 0 then (some ((0 : Int32))) else (some ((1 : Int32))))) (fun p28 => (Mo_must p28 (5 : Int32) (x20.1 30 17 7 0) x20).bind fun x29 => if (x29.1 30 15 7 0) ≤ 0 then ((Mo_reads x29).bind fun x31 => (Mo_takesNumbers x1 x31).bind fun x33 => if (x33.1 30 15 7 0) ≤ 0 then (Option.bind (α := q_H) (if (3 : Int32) ≤ x1 then (if ¬ x1 = (3 : Int32) then ((Mo_doesAct x1 (q_si x33 30 28 7 0 (1 : Int32))).bind fun x39 => if x39.1 < 0 then ((Mo_must (0 : Int32) (7 : Int32) (h.1 30 17 7 0) x39.2).bind fun x41 => some (x41)) else ((Mo_must (1 : Int32) (7 : Int32) (h.1 30 17 7 0) x39.2).bind fun x43 => some (x43))) else (Option.bind (α := Int32) (if (40 : Int32) ≤ ((q_si x33 30 27 7 0 (1 : Int32)).1 31 0 7 3) then (some ((0 : Int32))) else ((Mo_firstPlace ((q_si x33 30 27 7 0 (1 : Int32)).1 41 0 7 2) (q_si x33 30 27 7 0 (1 : Int32))).bind fun x50 => if x50 < 0 then (some ((0 : Int32))) else (some ((1 : Int32))))) (fun p54 => (Mo_must p54 (6 : Int32) (h.1 30 17 7 0) (q_si x33 30 27 7 0 (1 : Int32))).bind fun x55 => if ¬ (x55.1 30 15 7 0) = 0 then (some (x55)) else ((Mo_inserts (1 : Int32) (x55.1 41 0 7 0) (x55.1 41 0 7 1) (x55.1 41 0 7 2) x55).bind fun x57 => some (x57.2))))) else (bif q_in x1 1644 then ((some (q_si (q_si x33 30 26 7 0 ((x33.1 30 26 7 0) ||| ((1 : Int32) <<< (x1 &&& 31)))) 31 0 7 x1.toNatClampNeg ((q_si x33 30 26 7 0 ((x33.1 30 26 7 0) ||| ((1 : Int32) <<< (x1 &&& 31)))).1 41 0 7 0))).bind fun h62 => some (h62)) else none)) (fun p66 => Option.bind (α := Int32) (if ¬ (p66.1 30 19 7 0) = (3 : Int32) then (some ((0 : Int32))) else (some ((1 : Int32)))) (fun p72 => (Mo_must p72 (2 : Int32) (p66.1 30 17 7 0) p66).bind fun x73 => if ¬ (x73.1 30 15 7 0) = 0 then (some (x73)) else ((Mo_reads x73).bind fun x75 => some (x75))))) else (some (x33))) else (some (x29))) : Option q_H) = some r → q_E d q_K257 72 [some (.inr (.inr (30, 7, 0))), some (.inl x1), some (.inl (h.1 30 17 7 0))] [.inl p19, .inr (.inr (30, 7, 0))] x9 (none, r) := by
        intro p19 HF
        obtain ⟨x20, hx21, HF⟩ := q_bind HF
        refine q_cll (m' := 253) (av := [.inr (.inr (30, 7, 0)), .inl p19, .inl (5 : Int32), .inl (x9.1 30 17 7 0)]) (st' := []) (pc' := 80) (loc' := [some (.inr (.inr (30, 7, 0))), some (.inl x1), some (.inl (h.1 30 17 7 0))]) (h' := x9) 4 (fun _ _ => rfl) (eMo_must (by omega) hx21) ?_
        obtain ⟨z22, HA23, HK24⟩ := q_bind HF
        have hP25 : ∀ p28 : Int32, ((Mo_must p28 (5 : Int32) (x20.1 30 17 7 0) x20).bind fun x29 => if (x29.1 30 15 7 0) ≤ 0 then ((Mo_reads x29).bind fun x31 => (Mo_takesNumbers x1 x31).bind fun x33 => if (x33.1 30 15 7 0) ≤ 0 then (Option.bind (α := q_H) (if (3 : Int32) ≤ x1 then (if ¬ x1 = (3 : Int32) then ((Mo_doesAct x1 (q_si x33 30 28 7 0 (1 : Int32))).bind fun x39 => if x39.1 < 0 then ((Mo_must (0 : Int32) (7 : Int32) (h.1 30 17 7 0) x39.2).bind fun x41 => some (x41)) else ((Mo_must (1 : Int32) (7 : Int32) (h.1 30 17 7 0) x39.2).bind fun x43 => some (x43))) else (Option.bind (α := Int32) (if (40 : Int32) ≤ ((q_si x33 30 27 7 0 (1 : Int32)).1 31 0 7 3) then (some ((0 : Int32))) else ((Mo_firstPlace ((q_si x33 30 27 7 0 (1 : Int32)).1 41 0 7 2) (q_si x33 30 27 7 0 (1 : Int32))).bind fun x50 => if x50 < 0 then (some ((0 : Int32))) else (some ((1 : Int32))))) (fun p54 => (Mo_must p54 (6 : Int32) (h.1 30 17 7 0) (q_si x33 30 27 7 0 (1 : Int32))).bind fun x55 => if ¬ (x55.1 30 15 7 0) = 0 then (some (x55)) else ((Mo_inserts (1 : Int32) (x55.1 41 0 7 0) (x55.1 41 0 7 1) (x55.1 41 0 7 2) x55).bind fun x57 => some (x57.2))))) else (bif q_in x1 1644 then ((some (q_si (q_si x33 30 26 7 0 ((x33.1 30 26 7 0) ||| ((1 : Int32) <<< (x1 &&& 31)))) 31 0 7 x1.toNatClampNeg ((q_si x33 30 26 7 0 ((x33.1 30 26 7 0) ||| ((1 : Int32) <<< (x1 &&& 31)))).1 41 0 7 0))).bind fun h62 => some (h62)) else none)) (fun p66 => Option.bind (α := Int32) (if ¬ (p66.1 30 19 7 0) = (3 : Int32) then (some ((0 : Int32))) else (some ((1 : Int32)))) (fun p72 => (Mo_must p72 (2 : Int32) (p66.1 30 17 7 0) p66).bind fun x73 => if ¬ (x73.1 30 15 7 0) = 0 then (some (x73)) else ((Mo_reads x73).bind fun x75 => some (x75))))) else (some (x33))) else (some (x29)) : Option q_H) = some r → q_E d q_K257 98 [some (.inr (.inr (30, 7, 0))), some (.inl x1), some (.inl (h.1 30 17 7 0))] [.inl p28, .inr (.inr (30, 7, 0))] x20 (none, r) := by
          intro p28 HF
          obtain ⟨x29, hx30, HF⟩ := q_bind HF
          refine q_cll (m' := 253) (av := [.inr (.inr (30, 7, 0)), .inl p28, .inl (5 : Int32), .inl (x20.1 30 17 7 0)]) (st' := []) (pc' := 106) (loc' := [some (.inr (.inr (30, 7, 0))), some (.inl x1), some (.inl (h.1 30 17 7 0))]) (h' := x20) 4 (fun _ _ => rfl) (eMo_must (by omega) hx30) ?_
          refine q_br (P := (x29.1 30 15 7 0) ≤ 0) (pcT := 114) (pcF := 113) (loc' := [some (.inr (.inr (30, 7, 0))), some (.inl x1), some (.inl (h.1 30 17 7 0))]) (stk' := []) (h' := x29) 3 (fun _ _ => rfl) (fun c81 => ?_) (fun c81 => ?_)
          · rw [if_pos c81] at HF
            obtain ⟨x31, hx32, HF⟩ := q_bind HF
            refine q_cll (m' := 252) (av := [.inr (.inr (30, 7, 0))]) (st' := []) (pc' := 118) (loc' := [some (.inr (.inr (30, 7, 0))), some (.inl x1), some (.inl (h.1 30 17 7 0))]) (h' := x29) 2 (fun _ _ => rfl) (eMo_reads (by omega) hx32) ?_
            obtain ⟨x33, hx34, HF⟩ := q_bind HF
            refine q_cll (m' := 255) (av := [.inr (.inr (30, 7, 0)), .inl x1]) (st' := []) (pc' := 123) (loc' := [some (.inr (.inr (30, 7, 0))), some (.inl x1), some (.inl (h.1 30 17 7 0))]) (h' := x31) 3 (fun _ _ => rfl) (eMo_takesNumbers (by omega) hx34) ?_
            refine q_br (P := (x33.1 30 15 7 0) ≤ 0) (pcT := 131) (pcF := 130) (loc' := [some (.inr (.inr (30, 7, 0))), some (.inl x1), some (.inl (h.1 30 17 7 0))]) (stk' := []) (h' := x33) 3 (fun _ _ => rfl) (fun c80 => ?_) (fun c80 => ?_)
            · rw [if_pos c80] at HF
              obtain ⟨z35, HA36, HK37⟩ := q_bind HF
              have hP38 : ∀ p66 : q_H, (Option.bind (α := Int32) (if ¬ (p66.1 30 19 7 0) = (3 : Int32) then (some ((0 : Int32))) else (some ((1 : Int32)))) (fun p72 => (Mo_must p72 (2 : Int32) (p66.1 30 17 7 0) p66).bind fun x73 => if ¬ (x73.1 30 15 7 0) = 0 then (some (x73)) else ((Mo_reads x73).bind fun x75 => some (x75))) : Option q_H) = some r → q_E d q_K257 268 [some (.inr (.inr (30, 7, 0))), some (.inl x1), some (.inl (h.1 30 17 7 0))] [] p66 (none, r) := by
                intro p66 HF
                obtain ⟨z67, HA68, HK69⟩ := q_bind HF
                have hP70 : ∀ p72 : Int32, ((Mo_must p72 (2 : Int32) (p66.1 30 17 7 0) p66).bind fun x73 => if ¬ (x73.1 30 15 7 0) = 0 then (some (x73)) else ((Mo_reads x73).bind fun x75 => some (x75)) : Option q_H) = some r → q_E d q_K257 282 [some (.inr (.inr (30, 7, 0))), some (.inl x1), some (.inl (h.1 30 17 7 0))] [.inl p72, .inr (.inr (30, 7, 0))] p66 (none, r) := by
                  intro p72 HF
                  obtain ⟨x73, hx74, HF⟩ := q_bind HF
                  refine q_cll (m' := 253) (av := [.inr (.inr (30, 7, 0)), .inl p72, .inl (2 : Int32), .inl (p66.1 30 17 7 0)]) (st' := []) (pc' := 290) (loc' := [some (.inr (.inr (30, 7, 0))), some (.inl x1), some (.inl (h.1 30 17 7 0))]) (h' := p66) 4 (fun _ _ => rfl) (eMo_must (by omega) hx74) ?_
                  refine q_br (P := ¬ (x73.1 30 15 7 0) = 0) (pcT := 301) (pcF := 297) (loc' := [some (.inr (.inr (30, 7, 0))), some (.inl x1), some (.inl (h.1 30 17 7 0))]) (stk' := []) (h' := x73) 3 (fun _ _ => rfl) (fun c77 => ?_) (fun c77 => ?_)
                  · rw [if_pos c77] at HF
                    have hz := Option.some.inj HF
                    subst hz
                    exact q_rtn 1 (fun _ _ => rfl)
                  · rw [if_neg c77] at HF
                    obtain ⟨x75, hx76, HF⟩ := q_bind HF
                    refine q_cll (m' := 252) (av := [.inr (.inr (30, 7, 0))]) (st' := []) (pc' := 301) (loc' := [some (.inr (.inr (30, 7, 0))), some (.inl x1), some (.inl (h.1 30 17 7 0))]) (h' := x73) 2 (fun _ _ => rfl) (eMo_reads (by omega) hx76) ?_
                    have hz := Option.some.inj HF
                    subst hz
                    exact q_rtn 1 (fun _ _ => rfl)
                replace HF := HA68
                refine q_br (P := ¬ (p66.1 30 19 7 0) = (3 : Int32)) (pcT := 281) (pcF := 277) (loc' := [some (.inr (.inr (30, 7, 0))), some (.inl x1), some (.inl (h.1 30 17 7 0))]) (stk' := [.inr (.inr (30, 7, 0))]) (h' := p66) 5 (fun _ _ => rfl) (fun c71 => ?_) (fun c71 => ?_)
                · rw [if_pos c71] at HF
                  refine q_blk (pc' := 282) (loc' := [some (.inr (.inr (30, 7, 0))), some (.inl x1), some (.inl (h.1 30 17 7 0))]) (stk' := [.inl (0 : Int32), .inr (.inr (30, 7, 0))]) (h' := p66) 1 (fun _ _ => rfl) ?_
                  have hz := Option.some.inj HF
                  subst hz
                  exact hP70 (0 : Int32) HK69
                · rw [if_neg c71] at HF
                  refine q_blk (pc' := 282) (loc' := [some (.inr (.inr (30, 7, 0))), some (.inl x1), some (.inl (h.1 30 17 7 0))]) (stk' := [.inl (1 : Int32), .inr (.inr (30, 7, 0))]) (h' := p66) 2 (fun _ _ => rfl) ?_
                  have hz := Option.some.inj HF
                  subst hz
                  exact hP70 (1 : Int32) HK69
              replace HF := HA36
              refine q_br (P := (3 : Int32) ≤ x1) (pcT := 163) (pcF := 136) (loc' := [some (.inr (.inr (30, 7, 0))), some (.inl x1), some (.inl (h.1 30 17 7 0))]) (stk' := []) (h' := x33) 3 (fun _ _ => rfl) (fun c65 => ?_) (fun c65 => ?_)
              · rw [if_pos c65] at HF
                refine q_br (P := ¬ x1 = (3 : Int32)) (pcT := 243) (pcF := 168) (loc' := [some (.inr (.inr (30, 7, 0))), some (.inl x1), some (.inl (h.1 30 17 7 0))]) (stk' := []) (h' := x33) 3 (fun _ _ => rfl) (fun c61 => ?_) (fun c61 => ?_)
                · rw [if_pos c61] at HF
                  obtain ⟨x39, hx40, HF⟩ := q_bind HF
                  refine q_cll (m' := 256) (av := [.inr (.inr (30, 7, 0)), .inl x1]) (st' := [.inr (.inr (30, 7, 0))]) (pc' := 254) (loc' := [some (.inr (.inr (30, 7, 0))), some (.inl x1), some (.inl (h.1 30 17 7 0))]) (h' := (q_si x33 30 28 7 0 (1 : Int32))) 7 (fun _ _ => rfl) (eMo_doesAct (by omega) hx40) ?_
                  refine q_br (P := x39.1 < 0) (pcT := 261) (pcF := 257) (loc' := [some (.inr (.inr (30, 7, 0))), some (.inl x1), some (.inl (h.1 30 17 7 0))]) (stk' := [.inr (.inr (30, 7, 0))]) (h' := x39.2) 1 (fun _ _ => rfl) (fun c45 => ?_) (fun c45 => ?_)
                  · rw [if_pos c45] at HF
                    obtain ⟨x41, hx42, HF⟩ := q_bind HF
                    refine q_cll (m' := 253) (av := [.inr (.inr (30, 7, 0)), .inl (0 : Int32), .inl (7 : Int32), .inl (h.1 30 17 7 0)]) (st' := []) (pc' := 268) (loc' := [some (.inr (.inr (30, 7, 0))), some (.inl x1), some (.inl (h.1 30 17 7 0))]) (h' := x39.2) 4 (fun _ _ => rfl) (eMo_must (by omega) hx42) ?_
                    have hz := Option.some.inj HF
                    subst hz
                    exact hP38 (x41) HK37
                  · rw [if_neg c45] at HF
                    obtain ⟨x43, hx44, HF⟩ := q_bind HF
                    refine q_cll (m' := 253) (av := [.inr (.inr (30, 7, 0)), .inl (1 : Int32), .inl (7 : Int32), .inl (h.1 30 17 7 0)]) (st' := []) (pc' := 268) (loc' := [some (.inr (.inr (30, 7, 0))), some (.inl x1), some (.inl (h.1 30 17 7 0))]) (h' := x39.2) 5 (fun _ _ => rfl) (eMo_must (by omega) hx44) ?_
                    have hz := Option.some.inj HF
                    subst hz
                    exact hP38 (x43) HK37
                · rw [if_neg c61] at HF
                  obtain ⟨z46, HA47, HK48⟩ := q_bind HF
                  have hP49 : ∀ p54 : Int32, ((Mo_must p54 (6 : Int32) (h.1 30 17 7 0) (q_si x33 30 27 7 0 (1 : Int32))).bind fun x55 => if ¬ (x55.1 30 15 7 0) = 0 then (some (x55)) else ((Mo_inserts (1 : Int32) (x55.1 41 0 7 0) (x55.1 41 0 7 1) (x55.1 41 0 7 2) x55).bind fun x57 => some (x57.2)) : Option (q_H)) = some z35 → q_E d q_K257 203 [some (.inr (.inr (30, 7, 0))), some (.inl x1), some (.inl (h.1 30 17 7 0))] [.inl p54, .inr (.inr (30, 7, 0))] (q_si x33 30 27 7 0 (1 : Int32)) (none, r) := by
                    intro p54 HF
                    obtain ⟨x55, hx56, HF⟩ := q_bind HF
                    refine q_cll (m' := 253) (av := [.inr (.inr (30, 7, 0)), .inl p54, .inl (6 : Int32), .inl (h.1 30 17 7 0)]) (st' := []) (pc' := 209) (loc' := [some (.inr (.inr (30, 7, 0))), some (.inl x1), some (.inl (h.1 30 17 7 0))]) (h' := (q_si x33 30 27 7 0 (1 : Int32))) 3 (fun _ _ => rfl) (eMo_must (by omega) hx56) ?_
                    refine q_br (P := ¬ (x55.1 30 15 7 0) = 0) (pcT := 268) (pcF := 216) (loc' := [some (.inr (.inr (30, 7, 0))), some (.inl x1), some (.inl (h.1 30 17 7 0))]) (stk' := []) (h' := x55) 3 (fun _ _ => rfl) (fun c59 => ?_) (fun c59 => ?_)
                    · rw [if_pos c59] at HF
                      have hz := Option.some.inj HF
                      subst hz
                      exact hP38 (x55) HK37
                    · rw [if_neg c59] at HF
                      obtain ⟨x57, hx58, HF⟩ := q_bind HF
                      refine q_cll (m' := 226) (av := [.inr (.inr (30, 7, 0)), .inl (1 : Int32), .inl (x55.1 41 0 7 0), .inl (x55.1 41 0 7 1), .inl (x55.1 41 0 7 2)]) (st' := []) (pc' := 239) (loc' := [some (.inr (.inr (30, 7, 0))), some (.inl x1), some (.inl (h.1 30 17 7 0))]) (h' := x55) 15 (fun _ _ => rfl) (eMo_inserts (by omega) hx58) ?_
                      refine q_blk (pc' := 268) (loc' := [some (.inr (.inr (30, 7, 0))), some (.inl x1), some (.inl (h.1 30 17 7 0))]) (stk' := []) (h' := x57.2) 2 (fun _ _ => rfl) ?_
                      have hz := Option.some.inj HF
                      subst hz
                      exact hP38 (x57.2) HK37
                  replace HF := HA47
                  refine q_br (P := (40 : Int32) ≤ ((q_si x33 30 27 7 0 (1 : Int32)).1 31 0 7 3)) (pcT := 202) (pcF := 185) (loc' := [some (.inr (.inr (30, 7, 0))), some (.inl x1), some (.inl (h.1 30 17 7 0))]) (stk' := [.inr (.inr (30, 7, 0))]) (h' := (q_si x33 30 27 7 0 (1 : Int32))) 10 (fun _ _ => rfl) (fun c53 => ?_) (fun c53 => ?_)
                  · rw [if_pos c53] at HF
                    refine q_blk (pc' := 203) (loc' := [some (.inr (.inr (30, 7, 0))), some (.inl x1), some (.inl (h.1 30 17 7 0))]) (stk' := [.inl (0 : Int32), .inr (.inr (30, 7, 0))]) (h' := (q_si x33 30 27 7 0 (1 : Int32))) 1 (fun _ _ => rfl) ?_
                    have hz := Option.some.inj HF
                    subst hz
                    exact hP49 (0 : Int32) HK48
                  · rw [if_neg c53] at HF
                    obtain ⟨x50, hx51, HF⟩ := q_bind HF
                    refine q_cll (m' := 194) (av := [.inr (.inr (30, 7, 0)), .inl ((q_si x33 30 27 7 0 (1 : Int32)).1 41 0 7 2)]) (st' := [.inr (.inr (30, 7, 0))]) (pc' := 195) (loc' := [some (.inr (.inr (30, 7, 0))), some (.inl x1), some (.inl (h.1 30 17 7 0))]) (h' := (q_si x33 30 27 7 0 (1 : Int32))) 6 (fun _ _ => rfl) (eMo_firstPlace (by omega) hx51) ?_
                    refine q_br (P := x50 < 0) (pcT := 202) (pcF := 198) (loc' := [some (.inr (.inr (30, 7, 0))), some (.inl x1), some (.inl (h.1 30 17 7 0))]) (stk' := [.inr (.inr (30, 7, 0))]) (h' := (q_si x33 30 27 7 0 (1 : Int32))) 1 (fun _ _ => rfl) (fun c52 => ?_) (fun c52 => ?_)
                    · rw [if_pos c52] at HF
                      refine q_blk (pc' := 203) (loc' := [some (.inr (.inr (30, 7, 0))), some (.inl x1), some (.inl (h.1 30 17 7 0))]) (stk' := [.inl (0 : Int32), .inr (.inr (30, 7, 0))]) (h' := (q_si x33 30 27 7 0 (1 : Int32))) 1 (fun _ _ => rfl) ?_
                      have hz := Option.some.inj HF
                      subst hz
                      exact hP49 (0 : Int32) HK48
                    · rw [if_neg c52] at HF
                      refine q_blk (pc' := 203) (loc' := [some (.inr (.inr (30, 7, 0))), some (.inl x1), some (.inl (h.1 30 17 7 0))]) (stk' := [.inl (1 : Int32), .inr (.inr (30, 7, 0))]) (h' := (q_si x33 30 27 7 0 (1 : Int32))) 2 (fun _ _ => rfl) ?_
                      have hz := Option.some.inj HF
                      subst hz
                      exact hP49 (1 : Int32) HK48
              · rw [if_neg c65] at HF
                obtain ⟨g64, HF⟩ := q_gF HF
                refine q_gd (pc' := 160) (loc' := [some (.inr (.inr (30, 7, 0))), some (.inl x1), some (.inl (h.1 30 17 7 0))]) (stk' := []) (h' := (q_si (q_si x33 30 26 7 0 ((x33.1 30 26 7 0) ||| ((1 : Int32) <<< (x1 &&& 31)))) 31 0 7 x1.toNatClampNeg ((q_si x33 30 26 7 0 ((x33.1 30 26 7 0) ||| ((1 : Int32) <<< (x1 &&& 31)))).1 41 0 7 0))) 16 (fun _ _ => rfl) g64 ?_
                obtain ⟨h62, e63, HF⟩ := q_bind HF
                refine q_blk (pc' := 160) (loc' := [some (.inr (.inr (30, 7, 0))), some (.inl x1), some (.inl (h.1 30 17 7 0))]) (stk' := []) (h' := (q_si (q_si x33 30 26 7 0 ((x33.1 30 26 7 0) ||| ((1 : Int32) <<< (x1 &&& 31)))) 31 0 7 x1.toNatClampNeg ((q_si x33 30 26 7 0 ((x33.1 30 26 7 0) ||| ((1 : Int32) <<< (x1 &&& 31)))).1 41 0 7 0))) 0 (fun _ _ => rfl) ?_
                rw [Option.some.inj e63]
                refine q_blk (pc' := 268) (loc' := [some (.inr (.inr (30, 7, 0))), some (.inl x1), some (.inl (h.1 30 17 7 0))]) (stk' := []) (h' := h62) 1 (fun _ _ => rfl) ?_
                have hz := Option.some.inj HF
                subst hz
                exact hP38 (h62) HK37
            · rw [if_neg c80] at HF
              have hz := Option.some.inj HF
              subst hz
              exact q_rtn 1 (fun _ _ => rfl)
          · rw [if_neg c81] at HF
            have hz := Option.some.inj HF
            subst hz
            exact q_rtn 1 (fun _ _ => rfl)
        replace HF := HA23
        refine q_br (P := ¬ x1 = (3 : Int32)) (pcT := 93) (pcF := 86) (loc' := [some (.inr (.inr (30, 7, 0))), some (.inl x1), some (.inl (h.1 30 17 7 0))]) (stk' := [.inr (.inr (30, 7, 0))]) (h' := x20) 4 (fun _ _ => rfl) (fun c27 => ?_) (fun c27 => ?_)
        · rw [if_pos c27] at HF
          refine q_blk (pc' := 98) (loc' := [some (.inr (.inr (30, 7, 0))), some (.inl x1), some (.inl (h.1 30 17 7 0))]) (stk' := [.inl (1 : Int32), .inr (.inr (30, 7, 0))]) (h' := x20) 2 (fun _ _ => rfl) ?_
          have hz := Option.some.inj HF
          subst hz
          exact hP25 (1 : Int32) HK24
        · rw [if_neg c27] at HF
          refine q_br (P := ¬ (x20.1 30 28 7 0) = 0) (pcT := 97) (pcF := 93) (loc' := [some (.inr (.inr (30, 7, 0))), some (.inl x1), some (.inl (h.1 30 17 7 0))]) (stk' := [.inr (.inr (30, 7, 0))]) (h' := x20) 3 (fun _ _ => rfl) (fun c26 => ?_) (fun c26 => ?_)
          · rw [if_pos c26] at HF
            refine q_blk (pc' := 98) (loc' := [some (.inr (.inr (30, 7, 0))), some (.inl x1), some (.inl (h.1 30 17 7 0))]) (stk' := [.inl (0 : Int32), .inr (.inr (30, 7, 0))]) (h' := x20) 1 (fun _ _ => rfl) ?_
            have hz := Option.some.inj HF
            subst hz
            exact hP25 (0 : Int32) HK24
          · rw [if_neg c26] at HF
            refine q_blk (pc' := 98) (loc' := [some (.inr (.inr (30, 7, 0))), some (.inl x1), some (.inl (h.1 30 17 7 0))]) (stk' := [.inl (1 : Int32), .inr (.inr (30, 7, 0))]) (h' := x20) 2 (fun _ _ => rfl) ?_
            have hz := Option.some.inj HF
            subst hz
            exact hP25 (1 : Int32) HK24
      replace HF := HA12
      refine q_br (P := (2 : Int32) < x1) (pcT := 67) (pcF := 42) (loc' := [some (.inr (.inr (30, 7, 0))), some (.inl x1), some (.inl (h.1 30 17 7 0))]) (stk' := [.inr (.inr (30, 7, 0))]) (h' := x9) 4 (fun _ _ => rfl) (fun c18 => ?_) (fun c18 => ?_)
      · rw [if_pos c18] at HF
        refine q_blk (pc' := 72) (loc' := [some (.inr (.inr (30, 7, 0))), some (.inl x1), some (.inl (h.1 30 17 7 0))]) (stk' := [.inl (1 : Int32), .inr (.inr (30, 7, 0))]) (h' := x9) 2 (fun _ _ => rfl) ?_
        have hz := Option.some.inj HF
        subst hz
        exact hP14 (1 : Int32) HK13
      · rw [if_neg c18] at HF
        refine q_br (P := ¬ (((x9.1 30 26 7 0) >>> (x1 &&& 31)) &&& (1 : Int32)) = 0) (pcT := 71) (pcF := 53) (loc' := [some (.inr (.inr (30, 7, 0))), some (.inl x1), some (.inl (h.1 30 17 7 0))]) (stk' := [.inr (.inr (30, 7, 0))]) (h' := x9) 7 (fun _ _ => rfl) (fun c17 => ?_) (fun c17 => ?_)
        · rw [if_pos c17] at HF
          refine q_blk (pc' := 72) (loc' := [some (.inr (.inr (30, 7, 0))), some (.inl x1), some (.inl (h.1 30 17 7 0))]) (stk' := [.inl (0 : Int32), .inr (.inr (30, 7, 0))]) (h' := x9) 1 (fun _ _ => rfl) ?_
          have hz := Option.some.inj HF
          subst hz
          exact hP14 (0 : Int32) HK13
        · rw [if_neg c17] at HF
          refine q_br (P := ¬ (x9.1 30 27 7 0) = 0) (pcT := 71) (pcF := 60) (loc' := [some (.inr (.inr (30, 7, 0))), some (.inl x1), some (.inl (h.1 30 17 7 0))]) (stk' := [.inr (.inr (30, 7, 0))]) (h' := x9) 3 (fun _ _ => rfl) (fun c16 => ?_) (fun c16 => ?_)
          · rw [if_pos c16] at HF
            refine q_blk (pc' := 72) (loc' := [some (.inr (.inr (30, 7, 0))), some (.inl x1), some (.inl (h.1 30 17 7 0))]) (stk' := [.inl (0 : Int32), .inr (.inr (30, 7, 0))]) (h' := x9) 1 (fun _ _ => rfl) ?_
            have hz := Option.some.inj HF
            subst hz
            exact hP14 (0 : Int32) HK13
          · rw [if_neg c16] at HF
            refine q_br (P := ¬ (x9.1 30 28 7 0) = 0) (pcT := 71) (pcF := 67) (loc' := [some (.inr (.inr (30, 7, 0))), some (.inl x1), some (.inl (h.1 30 17 7 0))]) (stk' := [.inr (.inr (30, 7, 0))]) (h' := x9) 3 (fun _ _ => rfl) (fun c15 => ?_) (fun c15 => ?_)
            · rw [if_pos c15] at HF
              refine q_blk (pc' := 72) (loc' := [some (.inr (.inr (30, 7, 0))), some (.inl x1), some (.inl (h.1 30 17 7 0))]) (stk' := [.inl (0 : Int32), .inr (.inr (30, 7, 0))]) (h' := x9) 1 (fun _ _ => rfl) ?_
              have hz := Option.some.inj HF
              subst hz
              exact hP14 (0 : Int32) HK13
            · rw [if_neg c15] at HF
              refine q_blk (pc' := 72) (loc' := [some (.inr (.inr (30, 7, 0))), some (.inl x1), some (.inl (h.1 30 17 7 0))]) (stk' := [.inl (1 : Int32), .inr (.inr (30, 7, 0))]) (h' := x9) 2 (fun _ _ => rfl) ?_
              have hz := Option.some.inj HF
              subst hz
              exact hP14 (1 : Int32) HK13
    · rw [if_neg c84] at HF
      have hz := Option.some.inj HF
      subst hz
      exact q_rtn 1 (fun _ _ => rfl)
  replace HF := HA4
  refine q_br (P := x1 < 0) (pcT := 19) (pcF := 15) (loc' := [some (.inr (.inr (30, 7, 0))), some (.inl x1), some (.inl (h.1 30 17 7 0))]) (stk' := [.inr (.inr (30, 7, 0))]) (h' := h) 7 (fun _ _ => rfl) (fun c7 => ?_) (fun c7 => ?_)
  · rw [if_pos c7] at HF
    refine q_blk (pc' := 20) (loc' := [some (.inr (.inr (30, 7, 0))), some (.inl x1), some (.inl (h.1 30 17 7 0))]) (stk' := [.inl (0 : Int32), .inr (.inr (30, 7, 0))]) (h' := h) 1 (fun _ _ => rfl) ?_
    have hz := Option.some.inj HF
    subst hz
    exact hP6 (0 : Int32) HK5
  · rw [if_neg c7] at HF
    refine q_blk (pc' := 20) (loc' := [some (.inr (.inr (30, 7, 0))), some (.inl x1), some (.inl (h.1 30 17 7 0))]) (stk' := [.inl (1 : Int32), .inr (.inr (30, 7, 0))]) (h' := h) 2 (fun _ _ => rfl) ?_
    have hz := Option.some.inj HF
    subst hz
    exact hP6 (1 : Int32) HK5
def Mo_load (a1 : Int32) (h : q_H) : Option (Int32 × q_H) :=
  (Mo_isIn a1 (0 : Int32) (h.1 30 12 7 0) h).bind fun x1 => Option.bind (α := Int32) (if x1 = 0 then (some ((1 : Int32))) else (some ((0 : Int32)))) (fun p8 => (Mo_is p8 h).bind fun x9 => if ¬ x9.1 = 0 then ((some (q_si (q_si (q_si (q_si (q_si (q_si x9.2 30 21 7 0 a1) 30 18 7 0 (0 : Int32)) 30 15 7 0 (0 : Int32)) 30 26 7 0 (0 : Int32)) 30 27 7 0 (0 : Int32)) 30 28 7 0 (0 : Int32))).bind fun h11 => (Mo_copy 31 7 34 7 h11).bind fun x13 => (Mo_clears x13).bind fun x15 => (Mo_reads x15).bind fun x17 => (q_lp (fun s19 : q_H => (if ¬ (s19.1 30 15 7 0) = 0 then (some (.inr (s19))) else (if (s19.1 30 19 7 0) = 0 then (some (.inr (s19))) else ((Mo_readsLine s19).bind fun x27 => some (.inl x27))) : Option ((q_H) ⊕ (q_H)))) q_fu (x17 : q_H)).bind fun p31 => Option.bind (α := Int32) (if ((q_si (q_si p31 30 12 7 0 (0 : Int32)) 30 13 7 0 ((q_si p31 30 12 7 0 (0 : Int32)).1 30 15 7 0)).1 30 15 7 0) ≤ 0 then (some ((-1 : Int32))) else (some (((q_si (q_si p31 30 12 7 0 (0 : Int32)) 30 13 7 0 ((q_si p31 30 12 7 0 (0 : Int32)).1 30 15 7 0)).1 30 16 7 0)))) (fun p37 => if ¬ ((q_si (q_si (q_si (q_si p31 30 12 7 0 (0 : Int32)) 30 13 7 0 ((q_si p31 30 12 7 0 (0 : Int32)).1 30 15 7 0)) 30 14 7 0 p37) 30 6 7 0 (0 : Int32)).1 30 15 7 0) = 0 then ((Mo_copy 34 7 31 7 (q_si (q_si (q_si (q_si p31 30 12 7 0 (0 : Int32)) 30 13 7 0 ((q_si p31 30 12 7 0 (0 : Int32)).1 30 15 7 0)) 30 14 7 0 p37) 30 6 7 0 (0 : Int32))).bind fun x38 => (Mo_refuse (9 : Int32) x38).bind fun x40 => some ((x40.1, x40.2))) else (some ((((q_si (q_si (q_si (q_si p31 30 12 7 0 (0 : Int32)) 30 13 7 0 ((q_si p31 30 12 7 0 (0 : Int32)).1 30 15 7 0)) 30 14 7 0 p37) 30 6 7 0 (0 : Int32)).1 31 0 7 3), (q_si (q_si (q_si (q_si p31 30 12 7 0 (0 : Int32)) 30 13 7 0 ((q_si p31 30 12 7 0 (0 : Int32)).1 30 15 7 0)) 30 14 7 0 p37) 30 6 7 0 (0 : Int32))))))) else (some (((-1 : Int32), x9.2))))
set_option maxRecDepth 100000 in
set_option maxHeartbeats 4000000 in
theorem eMo_load {d : Nat} (hd : 10 ≤ d) {a1 : Int32} {h : q_H} {r : (Int32 × q_H)} (HF : Mo_load a1 h = some r) : q_T d 258 [.inr (.inr (30, 7, 0)), .inl a1] h (some (.inl r.1), r.2) := by
  obtain ⟨d, rfl⟩ : ∃ d', d = d' + 1 := ⟨d - 1, by omega⟩
  refine q_ent q_K258 rfl rfl rfl ?_
  unfold Mo_load at HF
  obtain ⟨x1, hx2, HF⟩ := q_bind HF
  refine q_cll (m' := 184) (av := [.inl a1, .inl (0 : Int32), .inl (h.1 30 12 7 0)]) (st' := [.inr (.inr (30, 7, 0))]) (pc' := 10) (loc' := [some (.inr (.inr (30, 7, 0))), some (.inl a1)]) (h' := h) 6 (fun _ _ => rfl) (eMo_isIn (by omega) hx2) ?_
  obtain ⟨z3, HA4, HK5⟩ := q_bind HF
  have hP6 : ∀ p8 : Int32, ((Mo_is p8 h).bind fun x9 => if ¬ x9.1 = 0 then ((some (q_si (q_si (q_si (q_si (q_si (q_si x9.2 30 21 7 0 a1) 30 18 7 0 (0 : Int32)) 30 15 7 0 (0 : Int32)) 30 26 7 0 (0 : Int32)) 30 27 7 0 (0 : Int32)) 30 28 7 0 (0 : Int32))).bind fun h11 => (Mo_copy 31 7 34 7 h11).bind fun x13 => (Mo_clears x13).bind fun x15 => (Mo_reads x15).bind fun x17 => (q_lp (fun s19 : q_H => (if ¬ (s19.1 30 15 7 0) = 0 then (some (.inr (s19))) else (if (s19.1 30 19 7 0) = 0 then (some (.inr (s19))) else ((Mo_readsLine s19).bind fun x27 => some (.inl x27))) : Option ((q_H) ⊕ (q_H)))) q_fu (x17 : q_H)).bind fun p31 => Option.bind (α := Int32) (if ((q_si (q_si p31 30 12 7 0 (0 : Int32)) 30 13 7 0 ((q_si p31 30 12 7 0 (0 : Int32)).1 30 15 7 0)).1 30 15 7 0) ≤ 0 then (some ((-1 : Int32))) else (some (((q_si (q_si p31 30 12 7 0 (0 : Int32)) 30 13 7 0 ((q_si p31 30 12 7 0 (0 : Int32)).1 30 15 7 0)).1 30 16 7 0)))) (fun p37 => if ¬ ((q_si (q_si (q_si (q_si p31 30 12 7 0 (0 : Int32)) 30 13 7 0 ((q_si p31 30 12 7 0 (0 : Int32)).1 30 15 7 0)) 30 14 7 0 p37) 30 6 7 0 (0 : Int32)).1 30 15 7 0) = 0 then ((Mo_copy 34 7 31 7 (q_si (q_si (q_si (q_si p31 30 12 7 0 (0 : Int32)) 30 13 7 0 ((q_si p31 30 12 7 0 (0 : Int32)).1 30 15 7 0)) 30 14 7 0 p37) 30 6 7 0 (0 : Int32))).bind fun x38 => (Mo_refuse (9 : Int32) x38).bind fun x40 => some ((x40.1, x40.2))) else (some ((((q_si (q_si (q_si (q_si p31 30 12 7 0 (0 : Int32)) 30 13 7 0 ((q_si p31 30 12 7 0 (0 : Int32)).1 30 15 7 0)) 30 14 7 0 p37) 30 6 7 0 (0 : Int32)).1 31 0 7 3), (q_si (q_si (q_si (q_si p31 30 12 7 0 (0 : Int32)) 30 13 7 0 ((q_si p31 30 12 7 0 (0 : Int32)).1 30 15 7 0)) 30 14 7 0 p37) 30 6 7 0 (0 : Int32))))))) else (some (((-1 : Int32), x9.2))) : Option (Int32 × q_H)) = some r → q_E d q_K258 18 [some (.inr (.inr (30, 7, 0))), some (.inl a1)] [.inl p8, .inr (.inr (30, 7, 0))] h (some (.inl r.1), r.2) := by
    intro p8 HF
    obtain ⟨x9, hx10, HF⟩ := q_bind HF
    refine q_cll (m' := 183) (av := [.inr (.inr (30, 7, 0)), .inl p8]) (st' := []) (pc' := 21) (loc' := [some (.inr (.inr (30, 7, 0))), some (.inl a1)]) (h' := h) 1 (fun _ _ => rfl) (eMo_is (by omega) hx10) ?_
    refine q_br (P := ¬ x9.1 = 0) (pcT := 26) (pcF := 24) (loc' := [some (.inr (.inr (30, 7, 0))), some (.inl a1)]) (stk' := []) (h' := x9.2) 1 (fun _ _ => rfl) (fun c44 => ?_) (fun c44 => ?_)
    · rw [if_pos c44] at HF
      obtain ⟨h11, e12, HF⟩ := q_bind HF
      refine q_blk (pc' := 56) (loc' := [some (.inr (.inr (30, 7, 0))), some (.inl a1)]) (stk' := []) (h' := (q_si (q_si (q_si (q_si (q_si (q_si x9.2 30 21 7 0 a1) 30 18 7 0 (0 : Int32)) 30 15 7 0 (0 : Int32)) 30 26 7 0 (0 : Int32)) 30 27 7 0 (0 : Int32)) 30 28 7 0 (0 : Int32))) 18 (fun _ _ => rfl) ?_
      rw [Option.some.inj e12]
      obtain ⟨x13, hx14, HF⟩ := q_bind HF
      refine q_cll (m' := 186) (av := [.inr (.inr (31, 7, 0)), .inr (.inr (34, 7, 0))]) (st' := []) (pc' := 67) (loc' := [some (.inr (.inr (30, 7, 0))), some (.inl a1)]) (h' := h11) 5 (fun _ _ => rfl) (eMo_copy (by omega) hx14) ?_
      obtain ⟨x15, hx16, HF⟩ := q_bind HF
      refine q_cll (m' := 185) (av := [.inr (.inr (30, 7, 0))]) (st' := []) (pc' := 71) (loc' := [some (.inr (.inr (30, 7, 0))), some (.inl a1)]) (h' := x13) 2 (fun _ _ => rfl) (eMo_clears (by omega) hx16) ?_
      obtain ⟨x17, hx18, HF⟩ := q_bind HF
      refine q_cll (m' := 252) (av := [.inr (.inr (30, 7, 0))]) (st' := []) (pc' := 75) (loc' := [some (.inr (.inr (30, 7, 0))), some (.inl a1)]) (h' := x15) 2 (fun _ _ => rfl) (eMo_reads (by omega) hx18) ?_
      obtain ⟨r24, hl25, HK22⟩ := q_bind HF
      have hP23 : ∀ p31 : q_H, (Option.bind (α := Int32) (if ((q_si (q_si p31 30 12 7 0 (0 : Int32)) 30 13 7 0 ((q_si p31 30 12 7 0 (0 : Int32)).1 30 15 7 0)).1 30 15 7 0) ≤ 0 then (some ((-1 : Int32))) else (some (((q_si (q_si p31 30 12 7 0 (0 : Int32)) 30 13 7 0 ((q_si p31 30 12 7 0 (0 : Int32)).1 30 15 7 0)).1 30 16 7 0)))) (fun p37 => if ¬ ((q_si (q_si (q_si (q_si p31 30 12 7 0 (0 : Int32)) 30 13 7 0 ((q_si p31 30 12 7 0 (0 : Int32)).1 30 15 7 0)) 30 14 7 0 p37) 30 6 7 0 (0 : Int32)).1 30 15 7 0) = 0 then ((Mo_copy 34 7 31 7 (q_si (q_si (q_si (q_si p31 30 12 7 0 (0 : Int32)) 30 13 7 0 ((q_si p31 30 12 7 0 (0 : Int32)).1 30 15 7 0)) 30 14 7 0 p37) 30 6 7 0 (0 : Int32))).bind fun x38 => (Mo_refuse (9 : Int32) x38).bind fun x40 => some ((x40.1, x40.2))) else (some ((((q_si (q_si (q_si (q_si p31 30 12 7 0 (0 : Int32)) 30 13 7 0 ((q_si p31 30 12 7 0 (0 : Int32)).1 30 15 7 0)) 30 14 7 0 p37) 30 6 7 0 (0 : Int32)).1 31 0 7 3), (q_si (q_si (q_si (q_si p31 30 12 7 0 (0 : Int32)) 30 13 7 0 ((q_si p31 30 12 7 0 (0 : Int32)).1 30 15 7 0)) 30 14 7 0 p37) 30 6 7 0 (0 : Int32)))))) : Option (Int32 × q_H)) = some r → q_E d q_K258 96 [some (.inr (.inr (30, 7, 0))), some (.inl a1)] [] p31 (some (.inl r.1), r.2) := by
        intro p31 HF
        obtain ⟨z32, HA33, HK34⟩ := q_bind HF
        have hP35 : ∀ p37 : Int32, (if ¬ ((q_si (q_si (q_si (q_si p31 30 12 7 0 (0 : Int32)) 30 13 7 0 ((q_si p31 30 12 7 0 (0 : Int32)).1 30 15 7 0)) 30 14 7 0 p37) 30 6 7 0 (0 : Int32)).1 30 15 7 0) = 0 then ((Mo_copy 34 7 31 7 (q_si (q_si (q_si (q_si p31 30 12 7 0 (0 : Int32)) 30 13 7 0 ((q_si p31 30 12 7 0 (0 : Int32)).1 30 15 7 0)) 30 14 7 0 p37) 30 6 7 0 (0 : Int32))).bind fun x38 => (Mo_refuse (9 : Int32) x38).bind fun x40 => some ((x40.1, x40.2))) else (some ((((q_si (q_si (q_si (q_si p31 30 12 7 0 (0 : Int32)) 30 13 7 0 ((q_si p31 30 12 7 0 (0 : Int32)).1 30 15 7 0)) 30 14 7 0 p37) 30 6 7 0 (0 : Int32)).1 31 0 7 3), (q_si (q_si (q_si (q_si p31 30 12 7 0 (0 : Int32)) 30 13 7 0 ((q_si p31 30 12 7 0 (0 : Int32)).1 30 15 7 0)) 30 14 7 0 p37) 30 6 7 0 (0 : Int32))))) : Option (Int32 × q_H)) = some r → q_E d q_K258 125 [some (.inr (.inr (30, 7, 0))), some (.inl a1)] [.inl p37, .inr (.inr (30, 7, 0))] (q_si (q_si p31 30 12 7 0 (0 : Int32)) 30 13 7 0 ((q_si p31 30 12 7 0 (0 : Int32)).1 30 15 7 0)) (some (.inl r.1), r.2) := by
          intro p37 HF
          refine q_br (P := ¬ ((q_si (q_si (q_si (q_si p31 30 12 7 0 (0 : Int32)) 30 13 7 0 ((q_si p31 30 12 7 0 (0 : Int32)).1 30 15 7 0)) 30 14 7 0 p37) 30 6 7 0 (0 : Int32)).1 30 15 7 0) = 0) (pcT := 147) (pcF := 140) (loc' := [some (.inr (.inr (30, 7, 0))), some (.inl a1)]) (stk' := []) (h' := (q_si (q_si (q_si (q_si p31 30 12 7 0 (0 : Int32)) 30 13 7 0 ((q_si p31 30 12 7 0 (0 : Int32)).1 30 15 7 0)) 30 14 7 0 p37) 30 6 7 0 (0 : Int32))) 7 (fun _ _ => rfl) (fun c42 => ?_) (fun c42 => ?_)
          · rw [if_pos c42] at HF
            obtain ⟨x38, hx39, HF⟩ := q_bind HF
            refine q_cll (m' := 186) (av := [.inr (.inr (34, 7, 0)), .inr (.inr (31, 7, 0))]) (st' := []) (pc' := 158) (loc' := [some (.inr (.inr (30, 7, 0))), some (.inl a1)]) (h' := (q_si (q_si (q_si (q_si p31 30 12 7 0 (0 : Int32)) 30 13 7 0 ((q_si p31 30 12 7 0 (0 : Int32)).1 30 15 7 0)) 30 14 7 0 p37) 30 6 7 0 (0 : Int32))) 5 (fun _ _ => rfl) (eMo_copy (by omega) hx39) ?_
            obtain ⟨x40, hx41, HF⟩ := q_bind HF
            refine q_cll (m' := 182) (av := [.inr (.inr (30, 7, 0)), .inl (9 : Int32)]) (st' := []) (pc' := 164) (loc' := [some (.inr (.inr (30, 7, 0))), some (.inl a1)]) (h' := x38) 3 (fun _ _ => rfl) (eMo_refuse (by omega) hx41) ?_
            have hz := Option.some.inj HF
            subst hz
            exact q_rtn 1 (fun _ _ => rfl)
          · rw [if_neg c42] at HF
            have hz := Option.some.inj HF
            subst hz
            exact q_rtn 5 (fun _ _ => rfl)
        replace HF := HA33
        refine q_br (P := ((q_si (q_si p31 30 12 7 0 (0 : Int32)) 30 13 7 0 ((q_si p31 30 12 7 0 (0 : Int32)).1 30 15 7 0)).1 30 15 7 0) ≤ 0) (pcT := 124) (pcF := 117) (loc' := [some (.inr (.inr (30, 7, 0))), some (.inl a1)]) (stk' := [.inr (.inr (30, 7, 0))]) (h' := (q_si (q_si p31 30 12 7 0 (0 : Int32)) 30 13 7 0 ((q_si p31 30 12 7 0 (0 : Int32)).1 30 15 7 0))) 11 (fun _ _ => rfl) (fun c36 => ?_) (fun c36 => ?_)
        · rw [if_pos c36] at HF
          refine q_blk (pc' := 125) (loc' := [some (.inr (.inr (30, 7, 0))), some (.inl a1)]) (stk' := [.inl (-1 : Int32), .inr (.inr (30, 7, 0))]) (h' := (q_si (q_si p31 30 12 7 0 (0 : Int32)) 30 13 7 0 ((q_si p31 30 12 7 0 (0 : Int32)).1 30 15 7 0))) 1 (fun _ _ => rfl) ?_
          have hz := Option.some.inj HF
          subst hz
          exact hP35 (-1 : Int32) HK34
        · rw [if_neg c36] at HF
          refine q_blk (pc' := 125) (loc' := [some (.inr (.inr (30, 7, 0))), some (.inl a1)]) (stk' := [.inl ((q_si (q_si p31 30 12 7 0 (0 : Int32)) 30 13 7 0 ((q_si p31 30 12 7 0 (0 : Int32)).1 30 15 7 0)).1 30 16 7 0), .inr (.inr (30, 7, 0))]) (h' := (q_si (q_si p31 30 12 7 0 (0 : Int32)) 30 13 7 0 ((q_si p31 30 12 7 0 (0 : Int32)).1 30 15 7 0))) 3 (fun _ _ => rfl) ?_
          have hz := Option.some.inj HF
          subst hz
          exact hP35 ((q_si (q_si p31 30 12 7 0 (0 : Int32)) 30 13 7 0 ((q_si p31 30 12 7 0 (0 : Int32)).1 30 15 7 0)).1 30 16 7 0) HK34
      refine q_lpE (E := fun s19 => q_E d q_K258 75 [some (.inr (.inr (30, 7, 0))), some (.inl a1)] [] s19 (some (.inl r.1), r.2)) r24 (fun s19 z26 HF H120 H221 => ?_) _ _ hl25
      refine q_br (P := ¬ (s19.1 30 15 7 0) = 0) (pcT := 96) (pcF := 82) (loc' := [some (.inr (.inr (30, 7, 0))), some (.inl a1)]) (stk' := []) (h' := s19) 3 (fun _ _ => rfl) (fun c30 => ?_) (fun c30 => ?_)
      · rw [if_pos c30] at HF
        have hz := Option.some.inj HF
        subst hz
        rw [← H221 _ rfl] at HK22
        exact hP23 (s19) HK22
      · rw [if_neg c30] at HF
        refine q_br (P := (s19.1 30 19 7 0) = 0) (pcT := 96) (pcF := 89) (loc' := [some (.inr (.inr (30, 7, 0))), some (.inl a1)]) (stk' := []) (h' := s19) 3 (fun _ _ => rfl) (fun c29 => ?_) (fun c29 => ?_)
        · rw [if_pos c29] at HF
          have hz := Option.some.inj HF
          subst hz
          rw [← H221 _ rfl] at HK22
          exact hP23 (s19) HK22
        · rw [if_neg c29] at HF
          obtain ⟨x27, hx28, HF⟩ := q_bind HF
          refine q_cll (m' := 257) (av := [.inr (.inr (30, 7, 0))]) (st' := []) (pc' := 93) (loc' := [some (.inr (.inr (30, 7, 0))), some (.inl a1)]) (h' := s19) 2 (fun _ _ => rfl) (eMo_readsLine (by omega) hx28) ?_
          refine q_blk (pc' := 75) (loc' := [some (.inr (.inr (30, 7, 0))), some (.inl a1)]) (stk' := []) (h' := x27) 1 (fun _ _ => rfl) ?_
          have hz := Option.some.inj HF
          subst hz
          exact H120 (x27) rfl
    · rw [if_neg c44] at HF
      have hz := Option.some.inj HF
      subst hz
      exact q_rtn 2 (fun _ _ => rfl)
  replace HF := HA4
  refine q_br (P := x1 = 0) (pcT := 17) (pcF := 13) (loc' := [some (.inr (.inr (30, 7, 0))), some (.inl a1)]) (stk' := [.inr (.inr (30, 7, 0))]) (h' := h) 1 (fun _ _ => rfl) (fun c7 => ?_) (fun c7 => ?_)
  · rw [if_pos c7] at HF
    refine q_blk (pc' := 18) (loc' := [some (.inr (.inr (30, 7, 0))), some (.inl a1)]) (stk' := [.inl (1 : Int32), .inr (.inr (30, 7, 0))]) (h' := h) 1 (fun _ _ => rfl) ?_
    have hz := Option.some.inj HF
    subst hz
    exact hP6 (1 : Int32) HK5
  · rw [if_neg c7] at HF
    refine q_blk (pc' := 18) (loc' := [some (.inr (.inr (30, 7, 0))), some (.inl a1)]) (stk' := [.inl (0 : Int32), .inr (.inr (30, 7, 0))]) (h' := h) 2 (fun _ _ => rfl) ?_
    have hz := Option.some.inj HF
    subst hz
    exact hP6 (0 : Int32) HK5
