def Mo_many (a1 : Int32) (h : q_H) : Option (Int32 × q_H) :=
  (Mo_isIn a1 (0 : Int32) (16 : Int32) h).bind fun x1 => Option.bind (α := Int32) (if x1 = 0 then (some ((1 : Int32))) else (some ((0 : Int32)))) (fun p8 => (Mo_is p8 h).bind fun x9 => if ¬ x9.1 = 0 then (if (5 : Int32) ≤ a1 then (if a1 = 5 then ((Mo_horizon x9.2).bind fun x11 => some ((x11, x9.2))) else (if a1 = 6 then (some (((x9.2.1 31 0 7 5), x9.2))) else (if a1 = 7 then ((Mo_manyOf a1 x9.2).bind fun x13 => some ((x13, x9.2))) else (if a1 = 8 then ((Mo_manyOf a1 x9.2).bind fun x15 => some ((x15, x9.2))) else (if a1 = 9 then ((Mo_manyOf a1 x9.2).bind fun x17 => some ((x17, x9.2))) else (if a1 = 10 then ((Mo_manyOf a1 x9.2).bind fun x19 => some ((x19, x9.2))) else (if a1 = 11 then ((Mo_manyOf a1 x9.2).bind fun x21 => some ((x21, x9.2))) else (if a1 = 12 then ((Mo_manyOf a1 x9.2).bind fun x23 => some ((x23, x9.2))) else (if a1 = 13 then ((Mo_manyOf a1 x9.2).bind fun x25 => some ((x25, x9.2))) else (if a1 = 14 then (some (((x9.2.1 30 5 7 0), x9.2))) else (if a1 = 15 then ((Mo_openMany x9.2).bind fun x27 => some ((x27, x9.2))) else (if a1 = 16 then ((Mo_waitMany x9.2).bind fun x29 => some ((x29, x9.2))) else ((Mo_manyOf a1 x9.2).bind fun x31 => some ((x31, x9.2))))))))))))))) else (bif q_in a1 1644 then (some (((x9.2.1 31 0 7 a1.toNatClampNeg), x9.2))) else none)) else (some (((-1 : Int32), x9.2))))
set_option maxRecDepth 100000 in
set_option maxHeartbeats 4000000 in
theorem eMo_many {d : Nat} (hd : 7 ≤ d) {a1 : Int32} {h : q_H} {r : (Int32 × q_H)} (HF : Mo_many a1 h = some r) : q_T d 263 [.inr (.inr (30, 7, 0)), .inl a1] h (some (.inl r.1), r.2) := by
  obtain ⟨d, rfl⟩ : ∃ d', d = d' + 1 := ⟨d - 1, by omega⟩
  refine q_ent q_K263 rfl rfl rfl ?_
  unfold Mo_many at HF
  obtain ⟨x1, hx2, HF⟩ := q_bind HF
  refine q_cll (m' := 184) (av := [.inl a1, .inl (0 : Int32), .inl (16 : Int32)]) (st' := [.inr (.inr (30, 7, 0))]) (pc' := 8) (loc' := [some (.inr (.inr (30, 7, 0))), some (.inl a1)]) (h' := h) 5 (fun _ _ => rfl) (eMo_isIn (by omega) hx2) ?_
  obtain ⟨z3, HA4, HK5⟩ := q_bind HF
  have hP6 : ∀ p8 : Int32, ((Mo_is p8 h).bind fun x9 => if ¬ x9.1 = 0 then (if (5 : Int32) ≤ a1 then (if a1 = 5 then ((Mo_horizon x9.2).bind fun x11 => some ((x11, x9.2))) else (if a1 = 6 then (some (((x9.2.1 31 0 7 5), x9.2))) else (if a1 = 7 then ((Mo_manyOf a1 x9.2).bind fun x13 => some ((x13, x9.2))) else (if a1 = 8 then ((Mo_manyOf a1 x9.2).bind fun x15 => some ((x15, x9.2))) else (if a1 = 9 then ((Mo_manyOf a1 x9.2).bind fun x17 => some ((x17, x9.2))) else (if a1 = 10 then ((Mo_manyOf a1 x9.2).bind fun x19 => some ((x19, x9.2))) else (if a1 = 11 then ((Mo_manyOf a1 x9.2).bind fun x21 => some ((x21, x9.2))) else (if a1 = 12 then ((Mo_manyOf a1 x9.2).bind fun x23 => some ((x23, x9.2))) else (if a1 = 13 then ((Mo_manyOf a1 x9.2).bind fun x25 => some ((x25, x9.2))) else (if a1 = 14 then (some (((x9.2.1 30 5 7 0), x9.2))) else (if a1 = 15 then ((Mo_openMany x9.2).bind fun x27 => some ((x27, x9.2))) else (if a1 = 16 then ((Mo_waitMany x9.2).bind fun x29 => some ((x29, x9.2))) else ((Mo_manyOf a1 x9.2).bind fun x31 => some ((x31, x9.2))))))))))))))) else (bif q_in a1 1644 then (some (((x9.2.1 31 0 7 a1.toNatClampNeg), x9.2))) else none)) else (some (((-1 : Int32), x9.2))) : Option (Int32 × q_H)) = some r → q_E d q_K263 16 [some (.inr (.inr (30, 7, 0))), some (.inl a1)] [.inl p8, .inr (.inr (30, 7, 0))] h (some (.inl r.1), r.2) := by
    intro p8 HF
    obtain ⟨x9, hx10, HF⟩ := q_bind HF
    refine q_cll (m' := 183) (av := [.inr (.inr (30, 7, 0)), .inl p8]) (st' := []) (pc' := 19) (loc' := [some (.inr (.inr (30, 7, 0))), some (.inl a1)]) (h' := h) 1 (fun _ _ => rfl) (eMo_is (by omega) hx10) ?_
    refine q_br (P := ¬ x9.1 = 0) (pcT := 24) (pcF := 22) (loc' := [some (.inr (.inr (30, 7, 0))), some (.inl a1)]) (stk' := []) (h' := x9.2) 1 (fun _ _ => rfl) (fun c47 => ?_) (fun c47 => ?_)
    · rw [if_pos c47] at HF
      refine q_br (P := (5 : Int32) ≤ a1) (pcT := 36) (pcF := 29) (loc' := [some (.inr (.inr (30, 7, 0))), some (.inl a1)]) (stk' := []) (h' := x9.2) 3 (fun _ _ => rfl) (fun c46 => ?_) (fun c46 => ?_)
      · rw [if_pos c46] at HF
        by_cases c33 : a1 = 5
        · rw [if_pos c33] at HF
          refine q_sw (o1 := 63) (pcx := 37) (pc' := 100) (loc' := [some (.inr (.inr (30, 7, 0))), some (.inl a1)]) (stk' := []) (h' := x9.2) 2 (fun _ _ => rfl) (q_tsI c33 rfl) rfl ?_
          obtain ⟨x11, hx12, HF⟩ := q_bind HF
          refine q_cll (m' := 205) (av := [.inr (.inr (30, 7, 0))]) (st' := []) (pc' := 104) (loc' := [some (.inr (.inr (30, 7, 0))), some (.inl a1)]) (h' := x9.2) 2 (fun _ _ => rfl) (eMo_horizon (by omega) hx12) ?_
          have hz := Option.some.inj HF
          subst hz
          exact q_rtn 1 (fun _ _ => rfl)
        · rw [if_neg c33] at HF
          by_cases c34 : a1 = 6
          · rw [if_pos c34] at HF
            refine q_sw (o1 := 68) (pcx := 37) (pc' := 105) (loc' := [some (.inr (.inr (30, 7, 0))), some (.inl a1)]) (stk' := []) (h' := x9.2) 2 (fun _ _ => rfl) (q_tsI c34 rfl) rfl ?_
            have hz := Option.some.inj HF
            subst hz
            exact q_rtn 5 (fun _ _ => rfl)
          · rw [if_neg c34] at HF
            by_cases c35 : a1 = 7
            · rw [if_pos c35] at HF
              refine q_sw (o1 := 90) (pcx := 37) (pc' := 127) (loc' := [some (.inr (.inr (30, 7, 0))), some (.inl a1)]) (stk' := []) (h' := x9.2) 2 (fun _ _ => rfl) (q_tsI c35 rfl) rfl ?_
              obtain ⟨x13, hx14, HF⟩ := q_bind HF
              refine q_cll (m' := 260) (av := [.inr (.inr (30, 7, 0)), .inl a1]) (st' := []) (pc' := 132) (loc' := [some (.inr (.inr (30, 7, 0))), some (.inl a1)]) (h' := x9.2) 3 (fun _ _ => rfl) (eMo_manyOf (by omega) hx14) ?_
              have hz := Option.some.inj HF
              subst hz
              exact q_rtn 1 (fun _ _ => rfl)
            · rw [if_neg c35] at HF
              by_cases c36 : a1 = 8
              · rw [if_pos c36] at HF
                refine q_sw (o1 := 90) (pcx := 37) (pc' := 127) (loc' := [some (.inr (.inr (30, 7, 0))), some (.inl a1)]) (stk' := []) (h' := x9.2) 2 (fun _ _ => rfl) (q_tsI c36 rfl) rfl ?_
                obtain ⟨x15, hx16, HF⟩ := q_bind HF
                refine q_cll (m' := 260) (av := [.inr (.inr (30, 7, 0)), .inl a1]) (st' := []) (pc' := 132) (loc' := [some (.inr (.inr (30, 7, 0))), some (.inl a1)]) (h' := x9.2) 3 (fun _ _ => rfl) (eMo_manyOf (by omega) hx16) ?_
                have hz := Option.some.inj HF
                subst hz
                exact q_rtn 1 (fun _ _ => rfl)
              · rw [if_neg c36] at HF
                by_cases c37 : a1 = 9
                · rw [if_pos c37] at HF
                  refine q_sw (o1 := 90) (pcx := 37) (pc' := 127) (loc' := [some (.inr (.inr (30, 7, 0))), some (.inl a1)]) (stk' := []) (h' := x9.2) 2 (fun _ _ => rfl) (q_tsI c37 rfl) rfl ?_
                  obtain ⟨x17, hx18, HF⟩ := q_bind HF
                  refine q_cll (m' := 260) (av := [.inr (.inr (30, 7, 0)), .inl a1]) (st' := []) (pc' := 132) (loc' := [some (.inr (.inr (30, 7, 0))), some (.inl a1)]) (h' := x9.2) 3 (fun _ _ => rfl) (eMo_manyOf (by omega) hx18) ?_
                  have hz := Option.some.inj HF
                  subst hz
                  exact q_rtn 1 (fun _ _ => rfl)
                · rw [if_neg c37] at HF
                  by_cases c38 : a1 = 10
                  · rw [if_pos c38] at HF
                    refine q_sw (o1 := 90) (pcx := 37) (pc' := 127) (loc' := [some (.inr (.inr (30, 7, 0))), some (.inl a1)]) (stk' := []) (h' := x9.2) 2 (fun _ _ => rfl) (q_tsI c38 rfl) rfl ?_
                    obtain ⟨x19, hx20, HF⟩ := q_bind HF
                    refine q_cll (m' := 260) (av := [.inr (.inr (30, 7, 0)), .inl a1]) (st' := []) (pc' := 132) (loc' := [some (.inr (.inr (30, 7, 0))), some (.inl a1)]) (h' := x9.2) 3 (fun _ _ => rfl) (eMo_manyOf (by omega) hx20) ?_
                    have hz := Option.some.inj HF
                    subst hz
                    exact q_rtn 1 (fun _ _ => rfl)
                  · rw [if_neg c38] at HF
                    by_cases c39 : a1 = 11
                    · rw [if_pos c39] at HF
                      refine q_sw (o1 := 90) (pcx := 37) (pc' := 127) (loc' := [some (.inr (.inr (30, 7, 0))), some (.inl a1)]) (stk' := []) (h' := x9.2) 2 (fun _ _ => rfl) (q_tsI c39 rfl) rfl ?_
                      obtain ⟨x21, hx22, HF⟩ := q_bind HF
                      refine q_cll (m' := 260) (av := [.inr (.inr (30, 7, 0)), .inl a1]) (st' := []) (pc' := 132) (loc' := [some (.inr (.inr (30, 7, 0))), some (.inl a1)]) (h' := x9.2) 3 (fun _ _ => rfl) (eMo_manyOf (by omega) hx22) ?_
                      have hz := Option.some.inj HF
                      subst hz
                      exact q_rtn 1 (fun _ _ => rfl)
                    · rw [if_neg c39] at HF
                      by_cases c40 : a1 = 12
                      · rw [if_pos c40] at HF
                        refine q_sw (o1 := 90) (pcx := 37) (pc' := 127) (loc' := [some (.inr (.inr (30, 7, 0))), some (.inl a1)]) (stk' := []) (h' := x9.2) 2 (fun _ _ => rfl) (q_tsI c40 rfl) rfl ?_
                        obtain ⟨x23, hx24, HF⟩ := q_bind HF
                        refine q_cll (m' := 260) (av := [.inr (.inr (30, 7, 0)), .inl a1]) (st' := []) (pc' := 132) (loc' := [some (.inr (.inr (30, 7, 0))), some (.inl a1)]) (h' := x9.2) 3 (fun _ _ => rfl) (eMo_manyOf (by omega) hx24) ?_
                        have hz := Option.some.inj HF
                        subst hz
                        exact q_rtn 1 (fun _ _ => rfl)
                      · rw [if_neg c40] at HF
                        by_cases c41 : a1 = 13
                        · rw [if_pos c41] at HF
                          refine q_sw (o1 := 90) (pcx := 37) (pc' := 127) (loc' := [some (.inr (.inr (30, 7, 0))), some (.inl a1)]) (stk' := []) (h' := x9.2) 2 (fun _ _ => rfl) (q_tsI c41 rfl) rfl ?_
                          obtain ⟨x25, hx26, HF⟩ := q_bind HF
                          refine q_cll (m' := 260) (av := [.inr (.inr (30, 7, 0)), .inl a1]) (st' := []) (pc' := 132) (loc' := [some (.inr (.inr (30, 7, 0))), some (.inl a1)]) (h' := x9.2) 3 (fun _ _ => rfl) (eMo_manyOf (by omega) hx26) ?_
                          have hz := Option.some.inj HF
                          subst hz
                          exact q_rtn 1 (fun _ _ => rfl)
                        · rw [if_neg c41] at HF
                          by_cases c42 : a1 = 14
                          · rw [if_pos c42] at HF
                            refine q_sw (o1 := 75) (pcx := 37) (pc' := 112) (loc' := [some (.inr (.inr (30, 7, 0))), some (.inl a1)]) (stk' := []) (h' := x9.2) 2 (fun _ _ => rfl) (q_tsI c42 rfl) rfl ?_
                            have hz := Option.some.inj HF
                            subst hz
                            exact q_rtn 3 (fun _ _ => rfl)
                          · rw [if_neg c42] at HF
                            by_cases c43 : a1 = 15
                            · rw [if_pos c43] at HF
                              refine q_sw (o1 := 80) (pcx := 37) (pc' := 117) (loc' := [some (.inr (.inr (30, 7, 0))), some (.inl a1)]) (stk' := []) (h' := x9.2) 2 (fun _ _ => rfl) (q_tsI c43 rfl) rfl ?_
                              obtain ⟨x27, hx28, HF⟩ := q_bind HF
                              refine q_cll (m' := 262) (av := [.inr (.inr (30, 7, 0))]) (st' := []) (pc' := 121) (loc' := [some (.inr (.inr (30, 7, 0))), some (.inl a1)]) (h' := x9.2) 2 (fun _ _ => rfl) (eMo_openMany (by omega) hx28) ?_
                              have hz := Option.some.inj HF
                              subst hz
                              exact q_rtn 1 (fun _ _ => rfl)
                            · rw [if_neg c43] at HF
                              by_cases c44 : a1 = 16
                              · rw [if_pos c44] at HF
                                refine q_sw (o1 := 85) (pcx := 37) (pc' := 122) (loc' := [some (.inr (.inr (30, 7, 0))), some (.inl a1)]) (stk' := []) (h' := x9.2) 2 (fun _ _ => rfl) (q_tsI c44 rfl) rfl ?_
                                obtain ⟨x29, hx30, HF⟩ := q_bind HF
                                refine q_cll (m' := 261) (av := [.inr (.inr (30, 7, 0))]) (st' := []) (pc' := 126) (loc' := [some (.inr (.inr (30, 7, 0))), some (.inl a1)]) (h' := x9.2) 2 (fun _ _ => rfl) (eMo_waitMany (by omega) hx30) ?_
                                have hz := Option.some.inj HF
                                subst hz
                                exact q_rtn 1 (fun _ _ => rfl)
                              · rw [if_neg c44] at HF
                                refine q_sw (o1 := 90) (pcx := 37) (pc' := 127) (loc' := [some (.inr (.inr (30, 7, 0))), some (.inl a1)]) (stk' := []) (h' := x9.2) 2 (fun _ _ => rfl) (q_tsD (a := a1) (lo := 5) (hi := 16) (by have z0 := q_neI c33 (a := 5) rfl; have z1 := q_neI c34 (a := 6) rfl; have z2 := q_neI c35 (a := 7) rfl; have z3 := q_neI c36 (a := 8) rfl; have z4 := q_neI c37 (a := 9) rfl; have z5 := q_neI c38 (a := 10) rfl; have z6 := q_neI c39 (a := 11) rfl; have z7 := q_neI c40 (a := 12) rfl; have z8 := q_neI c41 (a := 13) rfl; have z9 := q_neI c42 (a := 14) rfl; have z10 := q_neI c43 (a := 15) rfl; have z11 := q_neI c44 (a := 16) rfl; omega)) rfl ?_
                                obtain ⟨x31, hx32, HF⟩ := q_bind HF
                                refine q_cll (m' := 260) (av := [.inr (.inr (30, 7, 0)), .inl a1]) (st' := []) (pc' := 132) (loc' := [some (.inr (.inr (30, 7, 0))), some (.inl a1)]) (h' := x9.2) 3 (fun _ _ => rfl) (eMo_manyOf (by omega) hx32) ?_
                                have hz := Option.some.inj HF
                                subst hz
                                exact q_rtn 1 (fun _ _ => rfl)
      · rw [if_neg c46] at HF
        obtain ⟨g45, HF⟩ := q_gF HF
        refine q_gd (pc' := 35) (loc' := [some (.inr (.inr (30, 7, 0))), some (.inl a1)]) (stk' := [.inl (x9.2.1 31 0 7 a1.toNatClampNeg)]) (h' := x9.2) 4 (fun _ _ => rfl) g45 ?_
        have hz := Option.some.inj HF
        subst hz
        exact q_rtn 1 (fun _ _ => rfl)
    · rw [if_neg c47] at HF
      have hz := Option.some.inj HF
      subst hz
      exact q_rtn 2 (fun _ _ => rfl)
  replace HF := HA4
  refine q_br (P := x1 = 0) (pcT := 15) (pcF := 11) (loc' := [some (.inr (.inr (30, 7, 0))), some (.inl a1)]) (stk' := [.inr (.inr (30, 7, 0))]) (h' := h) 1 (fun _ _ => rfl) (fun c7 => ?_) (fun c7 => ?_)
  · rw [if_pos c7] at HF
    refine q_blk (pc' := 16) (loc' := [some (.inr (.inr (30, 7, 0))), some (.inl a1)]) (stk' := [.inl (1 : Int32), .inr (.inr (30, 7, 0))]) (h' := h) 1 (fun _ _ => rfl) ?_
    have hz := Option.some.inj HF
    subst hz
    exact hP6 (1 : Int32) HK5
  · rw [if_neg c7] at HF
    refine q_blk (pc' := 16) (loc' := [some (.inr (.inr (30, 7, 0))), some (.inl a1)]) (stk' := [.inl (0 : Int32), .inr (.inr (30, 7, 0))]) (h' := h) 2 (fun _ _ => rfl) ?_
    have hz := Option.some.inj HF
    subst hz
    exact hP6 (0 : Int32) HK5
def Mo_delete (a1 : Int32) (a2 : Int32) (h : q_H) : Option (Int32 × q_H) :=
  (Mo_is (0 : Int32) h).bind fun x1 => (Mo_deleteNow a1 a2 x1.2).bind fun x3 => some ((x3.1, x3.2))
set_option maxRecDepth 100000 in
set_option maxHeartbeats 4000000 in
theorem eMo_delete {d : Nat} (hd : 7 ≤ d) {a1 : Int32} {a2 : Int32} {h : q_H} {r : (Int32 × q_H)} (HF : Mo_delete a1 a2 h = some r) : q_T d 286 [.inr (.inr (30, 7, 0)), .inl a1, .inl a2] h (some (.inl r.1), r.2) := by
  obtain ⟨d, rfl⟩ : ∃ d', d = d' + 1 := ⟨d - 1, by omega⟩
  refine q_ent q_K286 rfl rfl rfl ?_
  unfold Mo_delete at HF
  obtain ⟨x1, hx2, HF⟩ := q_bind HF
  refine q_cll (m' := 183) (av := [.inr (.inr (30, 7, 0)), .inl (0 : Int32)]) (st' := []) (pc' := 5) (loc' := [some (.inr (.inr (30, 7, 0))), some (.inl a1), some (.inl a2)]) (h' := h) 3 (fun _ _ => rfl) (eMo_is (by omega) hx2) ?_
  obtain ⟨x3, hx4, HF⟩ := q_bind HF
  refine q_cll (m' := 235) (av := [.inr (.inr (30, 7, 0)), .inl a1, .inl a2]) (st' := []) (pc' := 12) (loc' := [some (.inr (.inr (30, 7, 0))), some (.inl a1), some (.inl a2)]) (h' := x1.2) 5 (fun _ _ => rfl) (eMo_deleteNow (by omega) hx4) ?_
  have hz := Option.some.inj HF
  subst hz
  exact q_rtn 1 (fun _ _ => rfl)
def Mo_repack  (h : q_H) : Option (Int32 × q_H) :=
  (Mo_is (0 : Int32) h).bind fun x1 => (Mo_repackNow x1.2).bind fun x3 => some ((x3.1, x3.2))
set_option maxRecDepth 100000 in
set_option maxHeartbeats 4000000 in
theorem eMo_repack {d : Nat} (hd : 7 ≤ d)  {h : q_H} {r : (Int32 × q_H)} (HF : Mo_repack  h = some r) : q_T d 291 [.inr (.inr (30, 7, 0))] h (some (.inl r.1), r.2) := by
  obtain ⟨d, rfl⟩ : ∃ d', d = d' + 1 := ⟨d - 1, by omega⟩
  refine q_ent q_K291 rfl rfl rfl ?_
  unfold Mo_repack at HF
  obtain ⟨x1, hx2, HF⟩ := q_bind HF
  refine q_cll (m' := 183) (av := [.inr (.inr (30, 7, 0)), .inl (0 : Int32)]) (st' := []) (pc' := 5) (loc' := [some (.inr (.inr (30, 7, 0)))]) (h' := h) 3 (fun _ _ => rfl) (eMo_is (by omega) hx2) ?_
  obtain ⟨x3, hx4, HF⟩ := q_bind HF
  refine q_cll (m' := 248) (av := [.inr (.inr (30, 7, 0))]) (st' := []) (pc' := 10) (loc' := [some (.inr (.inr (30, 7, 0)))]) (h' := x1.2) 3 (fun _ _ => rfl) (eMo_repackNow (by omega) hx4) ?_
  have hz := Option.some.inj HF
  subst hz
  exact q_rtn 1 (fun _ _ => rfl)
def Mo_best  (h : q_H) : Option (Int32 × q_H) :=
  (Mo_is (0 : Int32) h).bind fun x1 => (q_lp (fun s3 : Int32 × Int32 × Int32 × q_H => (Option.bind (α := (Unit) ⊕ ((Int32 × Int32 × Int32 × q_H) ⊕ (Int32 × q_H))) (if (6 : Int32) ≤ s3.2.2.1 then (some (.inr (.inr ((s3.1, s3.2.2.2))))) else (some (.inl ()))) (fun z11 => match z11 with | .inl p16 => (Mo_copy 31 7 33 7 s3.2.2.2).bind fun x17 => (Mo_freeIn s3.2.2.1 x17).bind fun x19 => (Mo_prunes s3.2.2.1 x17).bind fun x21 => (Mo_freeIn s3.2.2.1 x21.2).bind fun x23 => (Mo_copy 33 7 31 7 x21.2).bind fun x25 => Option.bind (α := Int32 × Int32) (if s3.2.1 < (x23 - x19) then (some ((s3.2.2.1, (x23 - x19)))) else (some ((s3.1, s3.2.1)))) (fun p32 => some (.inl (p32.1, p32.2, (s3.2.2.1 + (1 : Int32)), x25))) | .inr z11 => some z11) : Option ((Int32 × Int32 × Int32 × q_H) ⊕ (Int32 × q_H)))) q_fu (((-1 : Int32), (0 : Int32), (0 : Int32), x1.2) : Int32 × Int32 × Int32 × q_H)).bind fun p35 => if 0 ≤ p35.1 then (some ((p35.1, p35.2))) else ((Mo_refuse (5 : Int32) p35.2).bind fun x36 => some ((x36.1, x36.2)))
set_option maxRecDepth 100000 in
set_option maxHeartbeats 4000000 in
theorem eMo_best {d : Nat} (hd : 7 ≤ d)  {h : q_H} {r : (Int32 × q_H)} (HF : Mo_best  h = some r) : q_T d 307 [.inr (.inr (30, 7, 0))] h (some (.inl r.1), r.2) := by
  obtain ⟨d, rfl⟩ : ∃ d', d = d' + 1 := ⟨d - 1, by omega⟩
  refine q_ent q_K307 rfl rfl rfl ?_
  unfold Mo_best at HF
  obtain ⟨x1, hx2, HF⟩ := q_bind HF
  refine q_cll (m' := 183) (av := [.inr (.inr (30, 7, 0)), .inl (0 : Int32)]) (st' := []) (pc' := 5) (loc' := [some (.inr (.inr (30, 7, 0))), none, none, none, none, none]) (h' := h) 3 (fun _ _ => rfl) (eMo_is (by omega) hx2) ?_
  refine q_blk (pc' := 12) (loc' := [some (.inr (.inr (30, 7, 0))), some (.inl (-1 : Int32)), some (.inl (0 : Int32)), some (.inl (0 : Int32)), none, none]) (stk' := []) (h' := x1.2) 7 (fun _ _ => rfl) ?_
  obtain ⟨r8, hl9, HK6⟩ := q_bind HF
  have hP7 : ∀ p35 : Int32 × q_H, (if 0 ≤ p35.1 then (some ((p35.1, p35.2))) else ((Mo_refuse (5 : Int32) p35.2).bind fun x36 => some ((x36.1, x36.2))) : Option (Int32 × q_H)) = some r → q_E d q_K307 83 [some (.inr (.inr (30, 7, 0))), some (.inl p35.1), none, none, none, none] [] p35.2 (some (.inl r.1), r.2) := by
    intro p35 HF
    refine q_br (P := 0 ≤ p35.1) (pcT := 95) (pcF := 87) (loc' := [some (.inr (.inr (30, 7, 0))), some (.inl p35.1), none, none, none, none]) (stk' := []) (h' := p35.2) 2 (fun _ _ => rfl) (fun c38 => ?_) (fun c38 => ?_)
    · rw [if_pos c38] at HF
      have hz := Option.some.inj HF
      subst hz
      exact q_rtn 2 (fun _ _ => rfl)
    · rw [if_neg c38] at HF
      obtain ⟨x36, hx37, HF⟩ := q_bind HF
      refine q_cll (m' := 182) (av := [.inr (.inr (30, 7, 0)), .inl (5 : Int32)]) (st' := []) (pc' := 92) (loc' := [some (.inr (.inr (30, 7, 0))), some (.inl p35.1), none, none, none, none]) (h' := p35.2) 3 (fun _ _ => rfl) (eMo_refuse (by omega) hx37) ?_
      have hz := Option.some.inj HF
      subst hz
      exact q_rtn 2 (fun _ _ => rfl)
  refine q_lpE (E := fun s3 => q_E d q_K307 12 [some (.inr (.inr (30, 7, 0))), some (.inl s3.1), some (.inl s3.2.1), some (.inl s3.2.2.1), none, none] [] s3.2.2.2 (some (.inl r.1), r.2)) r8 (fun s3 z10 HF H14 H25 => ?_) _ _ hl9
  obtain ⟨z11, HA12, HK13⟩ := q_bind HF
  have hP14 : ∀ p16 : Unit, ((Mo_copy 31 7 33 7 s3.2.2.2).bind fun x17 => (Mo_freeIn s3.2.2.1 x17).bind fun x19 => (Mo_prunes s3.2.2.1 x17).bind fun x21 => (Mo_freeIn s3.2.2.1 x21.2).bind fun x23 => (Mo_copy 33 7 31 7 x21.2).bind fun x25 => Option.bind (α := Int32 × Int32) (if s3.2.1 < (x23 - x19) then (some ((s3.2.2.1, (x23 - x19)))) else (some ((s3.1, s3.2.1)))) (fun p32 => some (.inl (p32.1, p32.2, (s3.2.2.1 + (1 : Int32)), x25))) : Option ((Int32 × Int32 × Int32 × q_H) ⊕ (Int32 × q_H))) = some z10 → q_E d q_K307 18 [some (.inr (.inr (30, 7, 0))), some (.inl s3.1), some (.inl s3.2.1), some (.inl s3.2.2.1), none, none] [] s3.2.2.2 (some (.inl r.1), r.2) := by
    intro p16 HF
    obtain ⟨x17, hx18, HF⟩ := q_bind HF
    refine q_cll (m' := 186) (av := [.inr (.inr (31, 7, 0)), .inr (.inr (33, 7, 0))]) (st' := []) (pc' := 29) (loc' := [some (.inr (.inr (30, 7, 0))), some (.inl s3.1), some (.inl s3.2.1), some (.inl s3.2.2.1), none, none]) (h' := s3.2.2.2) 5 (fun _ _ => rfl) (eMo_copy (by omega) hx18) ?_
    obtain ⟨x19, hx20, HF⟩ := q_bind HF
    refine q_cll (m' := 192) (av := [.inr (.inr (30, 7, 0)), .inl s3.2.2.1]) (st' := []) (pc' := 34) (loc' := [some (.inr (.inr (30, 7, 0))), some (.inl s3.1), some (.inl s3.2.1), some (.inl s3.2.2.1), none, none]) (h' := x17) 3 (fun _ _ => rfl) (eMo_freeIn (by omega) hx20) ?_
    obtain ⟨x21, hx22, HF⟩ := q_bind HF
    refine q_cll (m' := 215) (av := [.inr (.inr (30, 7, 0)), .inl s3.2.2.1]) (st' := []) (pc' := 41) (loc' := [some (.inr (.inr (30, 7, 0))), some (.inl s3.1), some (.inl s3.2.1), some (.inl s3.2.2.1), some (.inl x19), none]) (h' := x17) 4 (fun _ _ => rfl) (eMo_prunes (by omega) hx22) ?_
    obtain ⟨x23, hx24, HF⟩ := q_bind HF
    refine q_cll (m' := 192) (av := [.inr (.inr (30, 7, 0)), .inl s3.2.2.1]) (st' := []) (pc' := 47) (loc' := [some (.inr (.inr (30, 7, 0))), some (.inl s3.1), some (.inl s3.2.1), some (.inl s3.2.2.1), some (.inl x19), none]) (h' := x21.2) 4 (fun _ _ => rfl) (eMo_freeIn (by omega) hx24) ?_
    obtain ⟨x25, hx26, HF⟩ := q_bind HF
    refine q_cll (m' := 186) (av := [.inr (.inr (33, 7, 0)), .inr (.inr (31, 7, 0))]) (st' := []) (pc' := 63) (loc' := [some (.inr (.inr (30, 7, 0))), some (.inl s3.1), some (.inl s3.2.1), some (.inl s3.2.2.1), some (.inl x19), some (.inl (x23 - x19))]) (h' := x21.2) 8 (fun _ _ => rfl) (eMo_copy (by omega) hx26) ?_
    obtain ⟨z27, HA28, HK29⟩ := q_bind HF
    have hP30 : ∀ p32 : Int32 × Int32, (some (.inl (p32.1, p32.2, (s3.2.2.1 + (1 : Int32)), x25)) : Option ((Int32 × Int32 × Int32 × q_H) ⊕ (Int32 × q_H))) = some z10 → q_E d q_K307 77 [some (.inr (.inr (30, 7, 0))), some (.inl p32.1), some (.inl p32.2), some (.inl s3.2.2.1), some (.inl x19), some (.inl (x23 - x19))] [] x25 (some (.inl r.1), r.2) := by
      intro p32 HF
      refine q_blk (pc' := 12) (loc' := [some (.inr (.inr (30, 7, 0))), some (.inl p32.1), some (.inl p32.2), some (.inl (s3.2.2.1 + (1 : Int32))), some (.inl x19), some (.inl (x23 - x19))]) (stk' := []) (h' := x25) 2 (fun _ _ => rfl) ?_
      have hz := Option.some.inj HF
      subst hz
      exact q_wk (loc := [some (.inr (.inr (30, 7, 0))), some (.inl p32.1), some (.inl p32.2), some (.inl (s3.2.2.1 + (1 : Int32))), none, none]) ⟨Or.inl rfl, ⟨Or.inl rfl, ⟨Or.inl rfl, ⟨Or.inl rfl, ⟨Or.inr ⟨rfl, fun _ h => by cases h⟩, ⟨Or.inr ⟨rfl, fun _ h => by cases h⟩, trivial⟩⟩⟩⟩⟩⟩ (H14 (p32.1, p32.2, (s3.2.2.1 + (1 : Int32)), x25) rfl)
    replace HF := HA28
    refine q_br (P := s3.2.1 < (x23 - x19)) (pcT := 72) (pcF := 69) (loc' := [some (.inr (.inr (30, 7, 0))), some (.inl s3.1), some (.inl s3.2.1), some (.inl s3.2.2.1), some (.inl x19), some (.inl (x23 - x19))]) (stk' := []) (h' := x25) 3 (fun _ _ => rfl) (fun c31 => ?_) (fun c31 => ?_)
    · rw [if_pos c31] at HF
      refine q_blk (pc' := 77) (loc' := [some (.inr (.inr (30, 7, 0))), some (.inl s3.2.2.1), some (.inl (x23 - x19)), some (.inl s3.2.2.1), some (.inl x19), some (.inl (x23 - x19))]) (stk' := []) (h' := x25) 4 (fun _ _ => rfl) ?_
      have hz := Option.some.inj HF
      subst hz
      exact hP30 (s3.2.2.1, (x23 - x19)) HK29
    · rw [if_neg c31] at HF
      refine q_blk (pc' := 77) (loc' := [some (.inr (.inr (30, 7, 0))), some (.inl s3.1), some (.inl s3.2.1), some (.inl s3.2.2.1), some (.inl x19), some (.inl (x23 - x19))]) (stk' := []) (h' := x25) 1 (fun _ _ => rfl) ?_
      have hz := Option.some.inj HF
      subst hz
      exact hP30 (s3.1, s3.2.1) HK29
  replace HF := HA12
  refine q_br (P := (6 : Int32) ≤ s3.2.2.1) (pcT := 83) (pcF := 18) (loc' := [some (.inr (.inr (30, 7, 0))), some (.inl s3.1), some (.inl s3.2.1), some (.inl s3.2.2.1), none, none]) (stk' := []) (h' := s3.2.2.2) 3 (fun _ _ => rfl) (fun c15 => ?_) (fun c15 => ?_)
  · rw [if_pos c15] at HF
    have hz := Option.some.inj HF
    subst hz
    replace HF := HK13
    have hz := Option.some.inj HF
    subst hz
    rw [← H25 _ rfl] at HK6
    exact q_wk (loc := [some (.inr (.inr (30, 7, 0))), some (.inl s3.1), none, none, none, none]) ⟨Or.inl rfl, ⟨Or.inl rfl, ⟨Or.inr ⟨rfl, fun _ h => by cases h⟩, ⟨Or.inr ⟨rfl, fun _ h => by cases h⟩, ⟨Or.inl rfl, ⟨Or.inl rfl, trivial⟩⟩⟩⟩⟩⟩ (hP7 (s3.1, s3.2.2.2) HK6)
  · rw [if_neg c15] at HF
    have hz := Option.some.inj HF
    subst hz
    exact hP14 () HK13
def Mo_reads_ (a1 : Int32) (a2 : Int32) (h : q_H) : Option (Int32 × q_H) :=
  (Mo_isIn a2 (0 : Int32) (99 : Int32) h).bind fun x1 => Option.bind (α := Int32) (if ¬ x1 = 0 then ((Mo_isTxn a1 h).bind fun x7 => if ¬ x7 = 0 then ((Mo_isOpen a1 h).bind fun x9 => if ¬ x9 = 0 then (some ((0 : Int32))) else (some ((4 : Int32)))) else (some ((2 : Int32)))) else (some ((1 : Int32)))) (fun p14 => (Mo_is p14 h).bind fun x15 => if ¬ x15.1 = 0 then ((Mo_copy 31 7 33 7 x15.2).bind fun x17 => (Mo_looks a1 a2 x17).bind fun x19 => (Mo_copy 33 7 31 7 x19.2).bind fun x21 => some ((((x19.2.1 31 0 7 16) - (x19.2.1 33 0 7 16)), x21))) else (some (((-1 : Int32), x15.2))))
set_option maxRecDepth 100000 in
set_option maxHeartbeats 4000000 in
theorem eMo_reads_ {d : Nat} (hd : 7 ≤ d) {a1 : Int32} {a2 : Int32} {h : q_H} {r : (Int32 × q_H)} (HF : Mo_reads_ a1 a2 h = some r) : q_T d 308 [.inr (.inr (30, 7, 0)), .inl a1, .inl a2] h (some (.inl r.1), r.2) := by
  obtain ⟨d, rfl⟩ : ∃ d', d = d' + 1 := ⟨d - 1, by omega⟩
  refine q_ent q_K308 rfl rfl rfl ?_
  unfold Mo_reads_ at HF
  obtain ⟨x1, hx2, HF⟩ := q_bind HF
  refine q_cll (m' := 184) (av := [.inl a2, .inl (0 : Int32), .inl (99 : Int32)]) (st' := [.inr (.inr (30, 7, 0))]) (pc' := 8) (loc' := [some (.inr (.inr (30, 7, 0))), some (.inl a1), some (.inl a2), none]) (h' := h) 5 (fun _ _ => rfl) (eMo_isIn (by omega) hx2) ?_
  obtain ⟨z3, HA4, HK5⟩ := q_bind HF
  have hP6 : ∀ p14 : Int32, ((Mo_is p14 h).bind fun x15 => if ¬ x15.1 = 0 then ((Mo_copy 31 7 33 7 x15.2).bind fun x17 => (Mo_looks a1 a2 x17).bind fun x19 => (Mo_copy 33 7 31 7 x19.2).bind fun x21 => some ((((x19.2.1 31 0 7 16) - (x19.2.1 33 0 7 16)), x21))) else (some (((-1 : Int32), x15.2))) : Option (Int32 × q_H)) = some r → q_E d q_K308 40 [some (.inr (.inr (30, 7, 0))), some (.inl a1), some (.inl a2), none] [.inl p14, .inr (.inr (30, 7, 0))] h (some (.inl r.1), r.2) := by
    intro p14 HF
    obtain ⟨x15, hx16, HF⟩ := q_bind HF
    refine q_cll (m' := 183) (av := [.inr (.inr (30, 7, 0)), .inl p14]) (st' := []) (pc' := 43) (loc' := [some (.inr (.inr (30, 7, 0))), some (.inl a1), some (.inl a2), none]) (h' := h) 1 (fun _ _ => rfl) (eMo_is (by omega) hx16) ?_
    refine q_br (P := ¬ x15.1 = 0) (pcT := 48) (pcF := 46) (loc' := [some (.inr (.inr (30, 7, 0))), some (.inl a1), some (.inl a2), none]) (stk' := []) (h' := x15.2) 1 (fun _ _ => rfl) (fun c23 => ?_) (fun c23 => ?_)
    · rw [if_pos c23] at HF
      obtain ⟨x17, hx18, HF⟩ := q_bind HF
      refine q_cll (m' := 186) (av := [.inr (.inr (31, 7, 0)), .inr (.inr (33, 7, 0))]) (st' := []) (pc' := 59) (loc' := [some (.inr (.inr (30, 7, 0))), some (.inl a1), some (.inl a2), none]) (h' := x15.2) 5 (fun _ _ => rfl) (eMo_copy (by omega) hx18) ?_
      obtain ⟨x19, hx20, HF⟩ := q_bind HF
      refine q_cll (m' := 240) (av := [.inr (.inr (30, 7, 0)), .inl a1, .inl a2]) (st' := []) (pc' := 65) (loc' := [some (.inr (.inr (30, 7, 0))), some (.inl a1), some (.inl a2), none]) (h' := x17) 4 (fun _ _ => rfl) (eMo_looks (by omega) hx20) ?_
      obtain ⟨x21, hx22, HF⟩ := q_bind HF
      refine q_cll (m' := 186) (av := [.inr (.inr (33, 7, 0)), .inr (.inr (31, 7, 0))]) (st' := []) (pc' := 93) (loc' := [some (.inr (.inr (30, 7, 0))), some (.inl a1), some (.inl a2), some (.inl ((x19.2.1 31 0 7 16) - (x19.2.1 33 0 7 16)))]) (h' := x19.2) 16 (fun _ _ => rfl) (eMo_copy (by omega) hx22) ?_
      have hz := Option.some.inj HF
      subst hz
      exact q_rtn 2 (fun _ _ => rfl)
    · rw [if_neg c23] at HF
      have hz := Option.some.inj HF
      subst hz
      exact q_rtn 2 (fun _ _ => rfl)
  replace HF := HA4
  refine q_br (P := ¬ x1 = 0) (pcT := 15) (pcF := 11) (loc' := [some (.inr (.inr (30, 7, 0))), some (.inl a1), some (.inl a2), none]) (stk' := [.inr (.inr (30, 7, 0))]) (h' := h) 1 (fun _ _ => rfl) (fun c13 => ?_) (fun c13 => ?_)
  · rw [if_pos c13] at HF
    obtain ⟨x7, hx8, HF⟩ := q_bind HF
    refine q_cll (m' := 198) (av := [.inr (.inr (30, 7, 0)), .inl a1]) (st' := [.inr (.inr (30, 7, 0))]) (pc' := 20) (loc' := [some (.inr (.inr (30, 7, 0))), some (.inl a1), some (.inl a2), none]) (h' := h) 3 (fun _ _ => rfl) (eMo_isTxn (by omega) hx8) ?_
    refine q_br (P := ¬ x7 = 0) (pcT := 27) (pcF := 23) (loc' := [some (.inr (.inr (30, 7, 0))), some (.inl a1), some (.inl a2), none]) (stk' := [.inr (.inr (30, 7, 0))]) (h' := h) 1 (fun _ _ => rfl) (fun c12 => ?_) (fun c12 => ?_)
    · rw [if_pos c12] at HF
      obtain ⟨x9, hx10, HF⟩ := q_bind HF
      refine q_cll (m' := 197) (av := [.inr (.inr (30, 7, 0)), .inl a1]) (st' := [.inr (.inr (30, 7, 0))]) (pc' := 32) (loc' := [some (.inr (.inr (30, 7, 0))), some (.inl a1), some (.inl a2), none]) (h' := h) 3 (fun _ _ => rfl) (eMo_isOpen (by omega) hx10) ?_
      refine q_br (P := ¬ x9 = 0) (pcT := 39) (pcF := 35) (loc' := [some (.inr (.inr (30, 7, 0))), some (.inl a1), some (.inl a2), none]) (stk' := [.inr (.inr (30, 7, 0))]) (h' := h) 1 (fun _ _ => rfl) (fun c11 => ?_) (fun c11 => ?_)
      · rw [if_pos c11] at HF
        refine q_blk (pc' := 40) (loc' := [some (.inr (.inr (30, 7, 0))), some (.inl a1), some (.inl a2), none]) (stk' := [.inl (0 : Int32), .inr (.inr (30, 7, 0))]) (h' := h) 1 (fun _ _ => rfl) ?_
        have hz := Option.some.inj HF
        subst hz
        exact hP6 (0 : Int32) HK5
      · rw [if_neg c11] at HF
        refine q_blk (pc' := 40) (loc' := [some (.inr (.inr (30, 7, 0))), some (.inl a1), some (.inl a2), none]) (stk' := [.inl (4 : Int32), .inr (.inr (30, 7, 0))]) (h' := h) 2 (fun _ _ => rfl) ?_
        have hz := Option.some.inj HF
        subst hz
        exact hP6 (4 : Int32) HK5
    · rw [if_neg c12] at HF
      refine q_blk (pc' := 40) (loc' := [some (.inr (.inr (30, 7, 0))), some (.inl a1), some (.inl a2), none]) (stk' := [.inl (2 : Int32), .inr (.inr (30, 7, 0))]) (h' := h) 2 (fun _ _ => rfl) ?_
      have hz := Option.some.inj HF
      subst hz
      exact hP6 (2 : Int32) HK5
  · rw [if_neg c13] at HF
    refine q_blk (pc' := 40) (loc' := [some (.inr (.inr (30, 7, 0))), some (.inl a1), some (.inl a2), none]) (stk' := [.inl (1 : Int32), .inr (.inr (30, 7, 0))]) (h' := h) 2 (fun _ _ => rfl) ?_
    have hz := Option.some.inj HF
    subst hz
    exact hP6 (1 : Int32) HK5
def Tx_readLine  (h : q_H) : Option (Int32 × q_H) :=
  if ¬ (h.1 25 15 6 0) = 0 then (some (((0 : Int32), h))) else (Option.bind (α := (q_H) ⊕ (Int32 × q_H)) (if (h.1 25 10 6 0) = 0 then (some (.inl h)) else ((Tx_readKind (3 : Int32) h).bind fun x5 => if ¬ x5.1 = 0 then (some (.inl x5.2)) else (some (.inr (((0 : Int32), x5.2)))))) (fun z1 => match z1 with | .inl p9 => (Tx_readToken (q_si p9 25 10 6 0 (0 : Int32))).bind fun x10 => if ¬ (x10.1 25 4 6 0) = 0 then ((Tx_isGood (1 : Int32) x10).bind fun x12 => if ¬ x12.1 = 0 then ((Tx_wordRead x12.2).bind fun x14 => if ¬ ((q_si (q_si x12.2 25 7 6 0 x14) 25 8 6 0 ((q_si x12.2 25 7 6 0 x14).1 25 5 6 0)).1 25 7 6 0) = (-1 : Int32) then ((Tx_isTooLate (q_si (q_si x12.2 25 7 6 0 x14) 25 8 6 0 ((q_si x12.2 25 7 6 0 x14).1 25 5 6 0))).bind fun x16 => if x16 = 0 then ((Tx_noteWord (q_si (q_si x12.2 25 7 6 0 x14) 25 8 6 0 ((q_si x12.2 25 7 6 0 x14).1 25 5 6 0))).bind fun x18 => (Tx_readNumbers (q_si x18 25 10 6 0 (1 : Int32))).bind fun x20 => bif q_01 x20.1 then some ((x20.1, x20.2)) else none) else ((Tx_blame (5 : Int32) ((q_si (q_si x12.2 25 7 6 0 x14) 25 8 6 0 ((q_si x12.2 25 7 6 0 x14).1 25 5 6 0)).1 25 8 6 0) (q_si (q_si x12.2 25 7 6 0 x14) 25 8 6 0 ((q_si x12.2 25 7 6 0 x14).1 25 5 6 0))).bind fun x23 => some (((0 : Int32), x23)))) else ((Tx_blame (2 : Int32) ((q_si (q_si x12.2 25 7 6 0 x14) 25 8 6 0 ((q_si x12.2 25 7 6 0 x14).1 25 5 6 0)).1 25 8 6 0) (q_si (q_si x12.2 25 7 6 0 x14) 25 8 6 0 ((q_si x12.2 25 7 6 0 x14).1 25 5 6 0))).bind fun x26 => some (((0 : Int32), x26)))) else (some (((0 : Int32), x12.2)))) else (some (((0 : Int32), x10))) | .inr z1 => some z1))
set_option maxRecDepth 100000 in
set_option maxHeartbeats 4000000 in
theorem eTx_readLine {d : Nat} (hd : 8 ≤ d)  {h : q_H} {r : (Int32 × q_H)} (HF : Tx_readLine  h = some r) : q_T d 127 [.inr (.inr (25, 6, 0))] h (some (.inl r.1), r.2) := by
  obtain ⟨d, rfl⟩ : ∃ d', d = d' + 1 := ⟨d - 1, by omega⟩
  refine q_ent q_K127 rfl rfl rfl ?_
  unfold Tx_readLine at HF
  refine q_br (P := ¬ (h.1 25 15 6 0) = 0) (pcT := 22) (pcF := 7) (loc' := [some (.inr (.inr (25, 6, 0)))]) (stk' := []) (h' := h) 3 (fun _ _ => rfl) (fun c32 => ?_) (fun c32 => ?_)
  · rw [if_pos c32] at HF
    have hz := Option.some.inj HF
    subst hz
    exact q_rtn 2 (fun _ _ => rfl)
  · rw [if_neg c32] at HF
    obtain ⟨z1, HA2, HK3⟩ := q_bind HF
    have hP4 : ∀ p9 : q_H, ((Tx_readToken (q_si p9 25 10 6 0 (0 : Int32))).bind fun x10 => if ¬ (x10.1 25 4 6 0) = 0 then ((Tx_isGood (1 : Int32) x10).bind fun x12 => if ¬ x12.1 = 0 then ((Tx_wordRead x12.2).bind fun x14 => if ¬ ((q_si (q_si x12.2 25 7 6 0 x14) 25 8 6 0 ((q_si x12.2 25 7 6 0 x14).1 25 5 6 0)).1 25 7 6 0) = (-1 : Int32) then ((Tx_isTooLate (q_si (q_si x12.2 25 7 6 0 x14) 25 8 6 0 ((q_si x12.2 25 7 6 0 x14).1 25 5 6 0))).bind fun x16 => if x16 = 0 then ((Tx_noteWord (q_si (q_si x12.2 25 7 6 0 x14) 25 8 6 0 ((q_si x12.2 25 7 6 0 x14).1 25 5 6 0))).bind fun x18 => (Tx_readNumbers (q_si x18 25 10 6 0 (1 : Int32))).bind fun x20 => bif q_01 x20.1 then some ((x20.1, x20.2)) else none) else ((Tx_blame (5 : Int32) ((q_si (q_si x12.2 25 7 6 0 x14) 25 8 6 0 ((q_si x12.2 25 7 6 0 x14).1 25 5 6 0)).1 25 8 6 0) (q_si (q_si x12.2 25 7 6 0 x14) 25 8 6 0 ((q_si x12.2 25 7 6 0 x14).1 25 5 6 0))).bind fun x23 => some (((0 : Int32), x23)))) else ((Tx_blame (2 : Int32) ((q_si (q_si x12.2 25 7 6 0 x14) 25 8 6 0 ((q_si x12.2 25 7 6 0 x14).1 25 5 6 0)).1 25 8 6 0) (q_si (q_si x12.2 25 7 6 0 x14) 25 8 6 0 ((q_si x12.2 25 7 6 0 x14).1 25 5 6 0))).bind fun x26 => some (((0 : Int32), x26)))) else (some (((0 : Int32), x12.2)))) else (some (((0 : Int32), x10))) : Option (Int32 × q_H)) = some r → q_E d q_K127 24 [some (.inr (.inr (25, 6, 0)))] [] p9 (some (.inl r.1), r.2) := by
      intro p9 HF
      obtain ⟨x10, hx11, HF⟩ := q_bind HF
      refine q_cll (m' := 135) (av := [.inr (.inr (25, 6, 0))]) (st' := []) (pc' := 33) (loc' := [some (.inr (.inr (25, 6, 0)))]) (h' := (q_si p9 25 10 6 0 (0 : Int32))) 5 (fun _ _ => rfl) (eTx_readToken (by omega) hx11) ?_
      refine q_br (P := ¬ (x10.1 25 4 6 0) = 0) (pcT := 42) (pcF := 40) (loc' := [some (.inr (.inr (25, 6, 0)))]) (stk' := []) (h' := x10) 3 (fun _ _ => rfl) (fun c30 => ?_) (fun c30 => ?_)
      · rw [if_pos c30] at HF
        obtain ⟨x12, hx13, HF⟩ := q_bind HF
        refine q_cll (m' := 133) (av := [.inr (.inr (25, 6, 0)), .inl (1 : Int32)]) (st' := []) (pc' := 47) (loc' := [some (.inr (.inr (25, 6, 0)))]) (h' := x10) 3 (fun _ _ => rfl) (eTx_isGood (by omega) hx13) ?_
        refine q_br (P := ¬ x12.1 = 0) (pcT := 52) (pcF := 50) (loc' := [some (.inr (.inr (25, 6, 0)))]) (stk' := []) (h' := x12.2) 1 (fun _ _ => rfl) (fun c29 => ?_) (fun c29 => ?_)
        · rw [if_pos c29] at HF
          obtain ⟨x14, hx15, HF⟩ := q_bind HF
          refine q_cll (m' := 138) (av := [.inr (.inr (25, 6, 0))]) (st' := [.inr (.inr (25, 6, 0))]) (pc' := 57) (loc' := [some (.inr (.inr (25, 6, 0)))]) (h' := x12.2) 3 (fun _ _ => rfl) (eTx_wordRead (by omega) hx15) ?_
          refine q_br (P := ¬ ((q_si (q_si x12.2 25 7 6 0 x14) 25 8 6 0 ((q_si x12.2 25 7 6 0 x14).1 25 5 6 0)).1 25 7 6 0) = (-1 : Int32)) (pcT := 87) (pcF := 76) (loc' := [some (.inr (.inr (25, 6, 0)))]) (stk' := []) (h' := (q_si (q_si x12.2 25 7 6 0 x14) 25 8 6 0 ((q_si x12.2 25 7 6 0 x14).1 25 5 6 0))) 9 (fun _ _ => rfl) (fun c28 => ?_) (fun c28 => ?_)
          · rw [if_pos c28] at HF
            obtain ⟨x16, hx17, HF⟩ := q_bind HF
            refine q_cll (m' := 128) (av := [.inr (.inr (25, 6, 0))]) (st' := []) (pc' := 91) (loc' := [some (.inr (.inr (25, 6, 0)))]) (h' := (q_si (q_si x12.2 25 7 6 0 x14) 25 8 6 0 ((q_si x12.2 25 7 6 0 x14).1 25 5 6 0))) 2 (fun _ _ => rfl) (eTx_isTooLate (by omega) hx17) ?_
            refine q_br (P := x16 = 0) (pcT := 105) (pcF := 94) (loc' := [some (.inr (.inr (25, 6, 0)))]) (stk' := []) (h' := (q_si (q_si x12.2 25 7 6 0 x14) 25 8 6 0 ((q_si x12.2 25 7 6 0 x14).1 25 5 6 0))) 1 (fun _ _ => rfl) (fun c25 => ?_) (fun c25 => ?_)
            · rw [if_pos c25] at HF
              obtain ⟨x18, hx19, HF⟩ := q_bind HF
              refine q_cll (m' := 129) (av := [.inr (.inr (25, 6, 0))]) (st' := []) (pc' := 109) (loc' := [some (.inr (.inr (25, 6, 0)))]) (h' := (q_si (q_si x12.2 25 7 6 0 x14) 25 8 6 0 ((q_si x12.2 25 7 6 0 x14).1 25 5 6 0))) 2 (fun _ _ => rfl) (eTx_noteWord (by omega) hx19) ?_
              obtain ⟨x20, hx21, HF⟩ := q_bind HF
              refine q_cll (m' := 130) (av := [.inr (.inr (25, 6, 0))]) (st' := []) (pc' := 118) (loc' := [some (.inr (.inr (25, 6, 0)))]) (h' := (q_si x18 25 10 6 0 (1 : Int32))) 5 (fun _ _ => rfl) (eTx_readNumbers (by omega) hx21) ?_
              obtain ⟨g22, HF⟩ := q_gF HF
              have hz := Option.some.inj HF
              subst hz
              exact q_rtz 1 (fun _ _ => rfl) g22
            · rw [if_neg c25] at HF
              obtain ⟨x23, hx24, HF⟩ := q_bind HF
              refine q_cll (m' := 125) (av := [.inr (.inr (25, 6, 0)), .inl (5 : Int32), .inl ((q_si (q_si x12.2 25 7 6 0 x14) 25 8 6 0 ((q_si x12.2 25 7 6 0 x14).1 25 5 6 0)).1 25 8 6 0)]) (st' := []) (pc' := 103) (loc' := [some (.inr (.inr (25, 6, 0)))]) (h' := (q_si (q_si x12.2 25 7 6 0 x14) 25 8 6 0 ((q_si x12.2 25 7 6 0 x14).1 25 5 6 0))) 5 (fun _ _ => rfl) (eTx_blame (by omega) hx24) ?_
              have hz := Option.some.inj HF
              subst hz
              exact q_rtn 2 (fun _ _ => rfl)
          · rw [if_neg c28] at HF
            obtain ⟨x26, hx27, HF⟩ := q_bind HF
            refine q_cll (m' := 125) (av := [.inr (.inr (25, 6, 0)), .inl (2 : Int32), .inl ((q_si (q_si x12.2 25 7 6 0 x14) 25 8 6 0 ((q_si x12.2 25 7 6 0 x14).1 25 5 6 0)).1 25 8 6 0)]) (st' := []) (pc' := 85) (loc' := [some (.inr (.inr (25, 6, 0)))]) (h' := (q_si (q_si x12.2 25 7 6 0 x14) 25 8 6 0 ((q_si x12.2 25 7 6 0 x14).1 25 5 6 0))) 5 (fun _ _ => rfl) (eTx_blame (by omega) hx27) ?_
            have hz := Option.some.inj HF
            subst hz
            exact q_rtn 2 (fun _ _ => rfl)
        · rw [if_neg c29] at HF
          have hz := Option.some.inj HF
          subst hz
          exact q_rtn 2 (fun _ _ => rfl)
      · rw [if_neg c30] at HF
        have hz := Option.some.inj HF
        subst hz
        exact q_rtn 2 (fun _ _ => rfl)
    replace HF := HA2
    refine q_br (P := (h.1 25 10 6 0) = 0) (pcT := 24) (pcF := 14) (loc' := [some (.inr (.inr (25, 6, 0)))]) (stk' := []) (h' := h) 3 (fun _ _ => rfl) (fun c8 => ?_) (fun c8 => ?_)
    · rw [if_pos c8] at HF
      have hz := Option.some.inj HF
      subst hz
      exact hP4 (h) HK3
    · rw [if_neg c8] at HF
      obtain ⟨x5, hx6, HF⟩ := q_bind HF
      refine q_cll (m' := 132) (av := [.inr (.inr (25, 6, 0)), .inl (3 : Int32)]) (st' := []) (pc' := 19) (loc' := [some (.inr (.inr (25, 6, 0)))]) (h' := h) 3 (fun _ _ => rfl) (eTx_readKind (by omega) hx6) ?_
      refine q_br (P := ¬ x5.1 = 0) (pcT := 24) (pcF := 22) (loc' := [some (.inr (.inr (25, 6, 0)))]) (stk' := []) (h' := x5.2) 1 (fun _ _ => rfl) (fun c7 => ?_) (fun c7 => ?_)
      · rw [if_pos c7] at HF
        have hz := Option.some.inj HF
        subst hz
        exact hP4 (x5.2) HK3
      · rw [if_neg c7] at HF
        have hz := Option.some.inj HF
        subst hz
        replace HF := HK3
        have hz := Option.some.inj HF
        subst hz
        exact q_rtn 2 (fun _ _ => rfl)
def Mo_doesAct (a1 : Int32) (h : q_H) : Option (Int32 × q_H) :=
  if a1 = 4 then ((Mo_beginNow h).bind fun x1 => some ((x1.1, x1.2))) else (if a1 = 5 then ((Mo_insertNow (h.1 41 0 7 0) (h.1 41 0 7 1) (h.1 41 0 7 2) (h.1 41 0 7 3) h).bind fun x3 => some ((x3.1, x3.2))) else (if a1 = 6 then ((Mo_updateNow (h.1 41 0 7 0) (h.1 41 0 7 1) (h.1 41 0 7 2) (h.1 41 0 7 3) (h.1 41 0 7 4) h).bind fun x5 => some ((x5.1, x5.2))) else (if a1 = 7 then ((Mo_deleteNow (h.1 41 0 7 0) (h.1 41 0 7 1) h).bind fun x7 => some ((x7.1, x7.2))) else (if a1 = 8 then ((Mo_closeNow (h.1 41 0 7 0) (1 : Int32) h).bind fun x9 => some ((x9.1, x9.2))) else (if a1 = 9 then ((Mo_closeNow (h.1 41 0 7 0) (2 : Int32) h).bind fun x11 => some ((x11.1, x11.2))) else (if a1 = 10 then ((Mo_pruneNow (h.1 41 0 7 0) h).bind fun x13 => some ((x13.1, x13.2))) else (if a1 = 11 then ((Mo_vacuums h).bind fun x15 => some ((x15.1, x15.2))) else (if a1 = 12 then ((Mo_lookNow (h.1 41 0 7 0) (h.1 41 0 7 1) h).bind fun x17 => some ((x17.1, x17.2))) else ((Mo_repackNow h).bind fun x19 => some ((x19.1, x19.2)))))))))))
set_option maxRecDepth 100000 in
set_option maxHeartbeats 4000000 in
theorem eMo_doesAct {d : Nat} (hd : 8 ≤ d) {a1 : Int32} {h : q_H} {r : (Int32 × q_H)} (HF : Mo_doesAct a1 h = some r) : q_T d 256 [.inr (.inr (30, 7, 0)), .inl a1] h (some (.inl r.1), r.2) := by
  obtain ⟨d, rfl⟩ : ∃ d', d = d' + 1 := ⟨d - 1, by omega⟩
  refine q_ent q_K256 rfl rfl rfl ?_
  unfold Mo_doesAct at HF
  by_cases c21 : a1 = 4
  · rw [if_pos c21] at HF
    refine q_sw (o1 := 51) (pcx := 1) (pc' := 52) (loc' := [some (.inr (.inr (30, 7, 0))), some (.inl a1)]) (stk' := []) (h' := h) 2 (fun _ _ => rfl) (q_tsI c21 rfl) rfl ?_
    obtain ⟨x1, hx2, HF⟩ := q_bind HF
    refine q_cll (m' := 236) (av := [.inr (.inr (30, 7, 0))]) (st' := []) (pc' := 56) (loc' := [some (.inr (.inr (30, 7, 0))), some (.inl a1)]) (h' := h) 2 (fun _ _ => rfl) (eMo_beginNow (by omega) hx2) ?_
    have hz := Option.some.inj HF
    subst hz
    exact q_rtn 1 (fun _ _ => rfl)
  · rw [if_neg c21] at HF
    by_cases c22 : a1 = 5
    · rw [if_pos c22] at HF
      refine q_sw (o1 := 56) (pcx := 1) (pc' := 57) (loc' := [some (.inr (.inr (30, 7, 0))), some (.inl a1)]) (stk' := []) (h' := h) 2 (fun _ _ => rfl) (q_tsI c22 rfl) rfl ?_
      obtain ⟨x3, hx4, HF⟩ := q_bind HF
      refine q_cll (m' := 230) (av := [.inr (.inr (30, 7, 0)), .inl (h.1 41 0 7 0), .inl (h.1 41 0 7 1), .inl (h.1 41 0 7 2), .inl (h.1 41 0 7 3)]) (st' := []) (pc' := 85) (loc' := [some (.inr (.inr (30, 7, 0))), some (.inl a1)]) (h' := h) 18 (fun _ _ => rfl) (eMo_insertNow (by omega) hx4) ?_
      have hz := Option.some.inj HF
      subst hz
      exact q_rtn 1 (fun _ _ => rfl)
    · rw [if_neg c22] at HF
      by_cases c23 : a1 = 6
      · rw [if_pos c23] at HF
        refine q_sw (o1 := 85) (pcx := 1) (pc' := 86) (loc' := [some (.inr (.inr (30, 7, 0))), some (.inl a1)]) (stk' := []) (h' := h) 2 (fun _ _ => rfl) (q_tsI c23 rfl) rfl ?_
        obtain ⟨x5, hx6, HF⟩ := q_bind HF
        refine q_cll (m' := 233) (av := [.inr (.inr (30, 7, 0)), .inl (h.1 41 0 7 0), .inl (h.1 41 0 7 1), .inl (h.1 41 0 7 2), .inl (h.1 41 0 7 3), .inl (h.1 41 0 7 4)]) (st' := []) (pc' := 120) (loc' := [some (.inr (.inr (30, 7, 0))), some (.inl a1)]) (h' := h) 22 (fun _ _ => rfl) (eMo_updateNow (by omega) hx6) ?_
        have hz := Option.some.inj HF
        subst hz
        exact q_rtn 1 (fun _ _ => rfl)
      · rw [if_neg c23] at HF
        by_cases c24 : a1 = 7
        · rw [if_pos c24] at HF
          refine q_sw (o1 := 120) (pcx := 1) (pc' := 121) (loc' := [some (.inr (.inr (30, 7, 0))), some (.inl a1)]) (stk' := []) (h' := h) 2 (fun _ _ => rfl) (q_tsI c24 rfl) rfl ?_
          obtain ⟨x7, hx8, HF⟩ := q_bind HF
          refine q_cll (m' := 235) (av := [.inr (.inr (30, 7, 0)), .inl (h.1 41 0 7 0), .inl (h.1 41 0 7 1)]) (st' := []) (pc' := 137) (loc' := [some (.inr (.inr (30, 7, 0))), some (.inl a1)]) (h' := h) 10 (fun _ _ => rfl) (eMo_deleteNow (by omega) hx8) ?_
          have hz := Option.some.inj HF
          subst hz
          exact q_rtn 1 (fun _ _ => rfl)
        · rw [if_neg c24] at HF
          by_cases c25 : a1 = 8
          · rw [if_pos c25] at HF
            refine q_sw (o1 := 137) (pcx := 1) (pc' := 138) (loc' := [some (.inr (.inr (30, 7, 0))), some (.inl a1)]) (stk' := []) (h' := h) 2 (fun _ _ => rfl) (q_tsI c25 rfl) rfl ?_
            obtain ⟨x9, hx10, HF⟩ := q_bind HF
            refine q_cll (m' := 237) (av := [.inr (.inr (30, 7, 0)), .inl (h.1 41 0 7 0), .inl (1 : Int32)]) (st' := []) (pc' := 149) (loc' := [some (.inr (.inr (30, 7, 0))), some (.inl a1)]) (h' := h) 7 (fun _ _ => rfl) (eMo_closeNow (by omega) hx10) ?_
            have hz := Option.some.inj HF
            subst hz
            exact q_rtn 1 (fun _ _ => rfl)
          · rw [if_neg c25] at HF
            by_cases c26 : a1 = 9
            · rw [if_pos c26] at HF
              refine q_sw (o1 := 149) (pcx := 1) (pc' := 150) (loc' := [some (.inr (.inr (30, 7, 0))), some (.inl a1)]) (stk' := []) (h' := h) 2 (fun _ _ => rfl) (q_tsI c26 rfl) rfl ?_
              obtain ⟨x11, hx12, HF⟩ := q_bind HF
              refine q_cll (m' := 237) (av := [.inr (.inr (30, 7, 0)), .inl (h.1 41 0 7 0), .inl (2 : Int32)]) (st' := []) (pc' := 161) (loc' := [some (.inr (.inr (30, 7, 0))), some (.inl a1)]) (h' := h) 7 (fun _ _ => rfl) (eMo_closeNow (by omega) hx12) ?_
              have hz := Option.some.inj HF
              subst hz
              exact q_rtn 1 (fun _ _ => rfl)
            · rw [if_neg c26] at HF
              by_cases c27 : a1 = 10
              · rw [if_pos c27] at HF
                refine q_sw (o1 := 161) (pcx := 1) (pc' := 162) (loc' := [some (.inr (.inr (30, 7, 0))), some (.inl a1)]) (stk' := []) (h' := h) 2 (fun _ _ => rfl) (q_tsI c27 rfl) rfl ?_
                obtain ⟨x13, hx14, HF⟩ := q_bind HF
                refine q_cll (m' := 238) (av := [.inr (.inr (30, 7, 0)), .inl (h.1 41 0 7 0)]) (st' := []) (pc' := 172) (loc' := [some (.inr (.inr (30, 7, 0))), some (.inl a1)]) (h' := h) 6 (fun _ _ => rfl) (eMo_pruneNow (by omega) hx14) ?_
                have hz := Option.some.inj HF
                subst hz
                exact q_rtn 1 (fun _ _ => rfl)
              · rw [if_neg c27] at HF
                by_cases c28 : a1 = 11
                · rw [if_pos c28] at HF
                  refine q_sw (o1 := 172) (pcx := 1) (pc' := 173) (loc' := [some (.inr (.inr (30, 7, 0))), some (.inl a1)]) (stk' := []) (h' := h) 2 (fun _ _ => rfl) (q_tsI c28 rfl) rfl ?_
                  obtain ⟨x15, hx16, HF⟩ := q_bind HF
                  refine q_cll (m' := 224) (av := [.inr (.inr (30, 7, 0))]) (st' := []) (pc' := 177) (loc' := [some (.inr (.inr (30, 7, 0))), some (.inl a1)]) (h' := h) 2 (fun _ _ => rfl) (eMo_vacuums (by omega) hx16) ?_
                  have hz := Option.some.inj HF
                  subst hz
                  exact q_rtn 1 (fun _ _ => rfl)
                · rw [if_neg c28] at HF
                  by_cases c29 : a1 = 12
                  · rw [if_pos c29] at HF
                    refine q_sw (o1 := 177) (pcx := 1) (pc' := 178) (loc' := [some (.inr (.inr (30, 7, 0))), some (.inl a1)]) (stk' := []) (h' := h) 2 (fun _ _ => rfl) (q_tsI c29 rfl) rfl ?_
                    obtain ⟨x17, hx18, HF⟩ := q_bind HF
                    refine q_cll (m' := 239) (av := [.inr (.inr (30, 7, 0)), .inl (h.1 41 0 7 0), .inl (h.1 41 0 7 1)]) (st' := []) (pc' := 194) (loc' := [some (.inr (.inr (30, 7, 0))), some (.inl a1)]) (h' := h) 10 (fun _ _ => rfl) (eMo_lookNow (by omega) hx18) ?_
                    have hz := Option.some.inj HF
                    subst hz
                    exact q_rtn 1 (fun _ _ => rfl)
                  · rw [if_neg c29] at HF
                    refine q_sw (o1 := 194) (pcx := 1) (pc' := 195) (loc' := [some (.inr (.inr (30, 7, 0))), some (.inl a1)]) (stk' := []) (h' := h) 2 (fun _ _ => rfl) (q_tsD (a := a1) (lo := 4) (hi := 12) (by have z0 := q_neI c21 (a := 4) rfl; have z1 := q_neI c22 (a := 5) rfl; have z2 := q_neI c23 (a := 6) rfl; have z3 := q_neI c24 (a := 7) rfl; have z4 := q_neI c25 (a := 8) rfl; have z5 := q_neI c26 (a := 9) rfl; have z6 := q_neI c27 (a := 10) rfl; have z7 := q_neI c28 (a := 11) rfl; have z8 := q_neI c29 (a := 12) rfl; omega)) rfl ?_
                    obtain ⟨x19, hx20, HF⟩ := q_bind HF
                    refine q_cll (m' := 248) (av := [.inr (.inr (30, 7, 0))]) (st' := []) (pc' := 199) (loc' := [some (.inr (.inr (30, 7, 0))), some (.inl a1)]) (h' := h) 2 (fun _ _ => rfl) (eMo_repackNow (by omega) hx20) ?_
                    have hz := Option.some.inj HF
                    subst hz
                    exact q_rtn 1 (fun _ _ => rfl)
def Mo_insert (a1 : Int32) (a2 : Int32) (a3 : Int32) (a4 : Int32) (h : q_H) : Option (Int32 × q_H) :=
  (Mo_is (0 : Int32) h).bind fun x1 => (Mo_insertNow a1 a2 a3 a4 x1.2).bind fun x3 => some ((x3.1, x3.2))
set_option maxRecDepth 100000 in
set_option maxHeartbeats 4000000 in
theorem eMo_insert {d : Nat} (hd : 8 ≤ d) {a1 : Int32} {a2 : Int32} {a3 : Int32} {a4 : Int32} {h : q_H} {r : (Int32 × q_H)} (HF : Mo_insert a1 a2 a3 a4 h = some r) : q_T d 284 [.inr (.inr (30, 7, 0)), .inl a1, .inl a2, .inl a3, .inl a4] h (some (.inl r.1), r.2) := by
  obtain ⟨d, rfl⟩ : ∃ d', d = d' + 1 := ⟨d - 1, by omega⟩
  refine q_ent q_K284 rfl rfl rfl ?_
  unfold Mo_insert at HF
  obtain ⟨x1, hx2, HF⟩ := q_bind HF
  refine q_cll (m' := 183) (av := [.inr (.inr (30, 7, 0)), .inl (0 : Int32)]) (st' := []) (pc' := 5) (loc' := [some (.inr (.inr (30, 7, 0))), some (.inl a1), some (.inl a2), some (.inl a3), some (.inl a4)]) (h' := h) 3 (fun _ _ => rfl) (eMo_is (by omega) hx2) ?_
  obtain ⟨x3, hx4, HF⟩ := q_bind HF
  refine q_cll (m' := 230) (av := [.inr (.inr (30, 7, 0)), .inl a1, .inl a2, .inl a3, .inl a4]) (st' := []) (pc' := 15) (loc' := [some (.inr (.inr (30, 7, 0))), some (.inl a1), some (.inl a2), some (.inl a3), some (.inl a4)]) (h' := x1.2) 7 (fun _ _ => rfl) (eMo_insertNow (by omega) hx4) ?_
  have hz := Option.some.inj HF
  subst hz
  exact q_rtn 1 (fun _ _ => rfl)
def Mo_update (a1 : Int32) (a2 : Int32) (a3 : Int32) (a4 : Int32) (a5 : Int32) (h : q_H) : Option (Int32 × q_H) :=
  (Mo_is (0 : Int32) h).bind fun x1 => (Mo_updateNow a1 a2 a3 a4 a5 x1.2).bind fun x3 => some ((x3.1, x3.2))
set_option maxRecDepth 100000 in
set_option maxHeartbeats 4000000 in
theorem eMo_update {d : Nat} (hd : 8 ≤ d) {a1 : Int32} {a2 : Int32} {a3 : Int32} {a4 : Int32} {a5 : Int32} {h : q_H} {r : (Int32 × q_H)} (HF : Mo_update a1 a2 a3 a4 a5 h = some r) : q_T d 285 [.inr (.inr (30, 7, 0)), .inl a1, .inl a2, .inl a3, .inl a4, .inl a5] h (some (.inl r.1), r.2) := by
  obtain ⟨d, rfl⟩ : ∃ d', d = d' + 1 := ⟨d - 1, by omega⟩
  refine q_ent q_K285 rfl rfl rfl ?_
  unfold Mo_update at HF
  obtain ⟨x1, hx2, HF⟩ := q_bind HF
  refine q_cll (m' := 183) (av := [.inr (.inr (30, 7, 0)), .inl (0 : Int32)]) (st' := []) (pc' := 5) (loc' := [some (.inr (.inr (30, 7, 0))), some (.inl a1), some (.inl a2), some (.inl a3), some (.inl a4), some (.inl a5)]) (h' := h) 3 (fun _ _ => rfl) (eMo_is (by omega) hx2) ?_
  obtain ⟨x3, hx4, HF⟩ := q_bind HF
  refine q_cll (m' := 233) (av := [.inr (.inr (30, 7, 0)), .inl a1, .inl a2, .inl a3, .inl a4, .inl a5]) (st' := []) (pc' := 17) (loc' := [some (.inr (.inr (30, 7, 0))), some (.inl a1), some (.inl a2), some (.inl a3), some (.inl a4), some (.inl a5)]) (h' := x1.2) 8 (fun _ _ => rfl) (eMo_updateNow (by omega) hx4) ?_
  have hz := Option.some.inj HF
  subst hz
  exact q_rtn 1 (fun _ _ => rfl)
def Mo_prune (a1 : Int32) (h : q_H) : Option (Int32 × q_H) :=
  (Mo_is (0 : Int32) h).bind fun x1 => (Mo_pruneNow a1 x1.2).bind fun x3 => some ((x3.1, x3.2))
set_option maxRecDepth 100000 in
set_option maxHeartbeats 4000000 in
theorem eMo_prune {d : Nat} (hd : 8 ≤ d) {a1 : Int32} {h : q_H} {r : (Int32 × q_H)} (HF : Mo_prune a1 h = some r) : q_T d 287 [.inr (.inr (30, 7, 0)), .inl a1] h (some (.inl r.1), r.2) := by
  obtain ⟨d, rfl⟩ : ∃ d', d = d' + 1 := ⟨d - 1, by omega⟩
  refine q_ent q_K287 rfl rfl rfl ?_
  unfold Mo_prune at HF
  obtain ⟨x1, hx2, HF⟩ := q_bind HF
  refine q_cll (m' := 183) (av := [.inr (.inr (30, 7, 0)), .inl (0 : Int32)]) (st' := []) (pc' := 5) (loc' := [some (.inr (.inr (30, 7, 0))), some (.inl a1)]) (h' := h) 3 (fun _ _ => rfl) (eMo_is (by omega) hx2) ?_
  obtain ⟨x3, hx4, HF⟩ := q_bind HF
  refine q_cll (m' := 238) (av := [.inr (.inr (30, 7, 0)), .inl a1]) (st' := []) (pc' := 11) (loc' := [some (.inr (.inr (30, 7, 0))), some (.inl a1)]) (h' := x1.2) 4 (fun _ _ => rfl) (eMo_pruneNow (by omega) hx4) ?_
  have hz := Option.some.inj HF
  subst hz
  exact q_rtn 1 (fun _ _ => rfl)
def Mo_vacuum  (h : q_H) : Option (Int32 × q_H) :=
  (Mo_is (0 : Int32) h).bind fun x1 => (Mo_vacuums x1.2).bind fun x3 => some ((x3.1, x3.2))
set_option maxRecDepth 100000 in
set_option maxHeartbeats 4000000 in
theorem eMo_vacuum {d : Nat} (hd : 8 ≤ d)  {h : q_H} {r : (Int32 × q_H)} (HF : Mo_vacuum  h = some r) : q_T d 288 [.inr (.inr (30, 7, 0))] h (some (.inl r.1), r.2) := by
  obtain ⟨d, rfl⟩ : ∃ d', d = d' + 1 := ⟨d - 1, by omega⟩
  refine q_ent q_K288 rfl rfl rfl ?_
  unfold Mo_vacuum at HF
  obtain ⟨x1, hx2, HF⟩ := q_bind HF
  refine q_cll (m' := 183) (av := [.inr (.inr (30, 7, 0)), .inl (0 : Int32)]) (st' := []) (pc' := 5) (loc' := [some (.inr (.inr (30, 7, 0)))]) (h' := h) 3 (fun _ _ => rfl) (eMo_is (by omega) hx2) ?_
  obtain ⟨x3, hx4, HF⟩ := q_bind HF
  refine q_cll (m' := 224) (av := [.inr (.inr (30, 7, 0))]) (st' := []) (pc' := 10) (loc' := [some (.inr (.inr (30, 7, 0)))]) (h' := x1.2) 3 (fun _ _ => rfl) (eMo_vacuums (by omega) hx4) ?_
  have hz := Option.some.inj HF
  subst hz
  exact q_rtn 1 (fun _ _ => rfl)
def Mo_look (a1 : Int32) (a2 : Int32) (h : q_H) : Option (Int32 × q_H) :=
  (Mo_is (0 : Int32) h).bind fun x1 => (Mo_lookNow a1 a2 x1.2).bind fun x3 => some ((x3.1, x3.2))
set_option maxRecDepth 100000 in
set_option maxHeartbeats 4000000 in
theorem eMo_look {d : Nat} (hd : 8 ≤ d) {a1 : Int32} {a2 : Int32} {h : q_H} {r : (Int32 × q_H)} (HF : Mo_look a1 a2 h = some r) : q_T d 289 [.inr (.inr (30, 7, 0)), .inl a1, .inl a2] h (some (.inl r.1), r.2) := by
  obtain ⟨d, rfl⟩ : ∃ d', d = d' + 1 := ⟨d - 1, by omega⟩
  refine q_ent q_K289 rfl rfl rfl ?_
  unfold Mo_look at HF
  obtain ⟨x1, hx2, HF⟩ := q_bind HF
  refine q_cll (m' := 183) (av := [.inr (.inr (30, 7, 0)), .inl (0 : Int32)]) (st' := []) (pc' := 5) (loc' := [some (.inr (.inr (30, 7, 0))), some (.inl a1), some (.inl a2)]) (h' := h) 3 (fun _ _ => rfl) (eMo_is (by omega) hx2) ?_
  obtain ⟨x3, hx4, HF⟩ := q_bind HF
  refine q_cll (m' := 239) (av := [.inr (.inr (30, 7, 0)), .inl a1, .inl a2]) (st' := []) (pc' := 12) (loc' := [some (.inr (.inr (30, 7, 0))), some (.inl a1), some (.inl a2)]) (h' := x1.2) 5 (fun _ _ => rfl) (eMo_lookNow (by omega) hx4) ?_
  have hz := Option.some.inj HF
  subst hz
  exact q_rtn 1 (fun _ _ => rfl)
def Mo_gains (a1 : Int32) (h : q_H) : Option (Int32 × q_H) :=
  (Mo_isIn a1 (0 : Int32) (5 : Int32) h).bind fun x1 => Option.bind (α := Int32) (if x1 = 0 then (some ((1 : Int32))) else (some ((0 : Int32)))) (fun p8 => (Mo_is p8 h).bind fun x9 => if ¬ x9.1 = 0 then ((Mo_copy 31 7 33 7 x9.2).bind fun x11 => (Mo_allFree x11).bind fun x13 => (Mo_vacuums x11).bind fun x15 => if a1 = 0 then ((Mo_allFree x15.2).bind fun x17 => (Mo_copy 33 7 31 7 x15.2).bind fun x19 => some (((x17 - x13), x19))) else (if a1 = 1 then ((Mo_copy 33 7 31 7 x15.2).bind fun x21 => some ((((x15.2.1 31 0 7 10) - (x15.2.1 33 0 7 10)), x21))) else (if a1 = 2 then ((Mo_copy 33 7 31 7 x15.2).bind fun x23 => some ((x15.1, x23))) else (if a1 = 3 then ((Mo_copy 33 7 31 7 x15.2).bind fun x25 => some ((((x15.2.1 31 0 7 12) - (x15.2.1 33 0 7 12)), x25))) else (if a1 = 4 then ((Mo_copy 33 7 31 7 x15.2).bind fun x27 => some ((((x15.2.1 31 0 7 13) - (x15.2.1 33 0 7 13)), x27))) else ((Mo_copy 33 7 31 7 x15.2).bind fun x29 => some ((((x15.2.1 31 0 7 14) - (x15.2.1 33 0 7 14)), x29)))))))) else (some (((-1 : Int32), x9.2))))
set_option maxRecDepth 100000 in
set_option maxHeartbeats 4000000 in
theorem eMo_gains {d : Nat} (hd : 8 ≤ d) {a1 : Int32} {h : q_H} {r : (Int32 × q_H)} (HF : Mo_gains a1 h = some r) : q_T d 306 [.inr (.inr (30, 7, 0)), .inl a1] h (some (.inl r.1), r.2) := by
  obtain ⟨d, rfl⟩ : ∃ d', d = d' + 1 := ⟨d - 1, by omega⟩
  refine q_ent q_K306 rfl rfl rfl ?_
  unfold Mo_gains at HF
  obtain ⟨x1, hx2, HF⟩ := q_bind HF
  refine q_cll (m' := 184) (av := [.inl a1, .inl (0 : Int32), .inl (5 : Int32)]) (st' := [.inr (.inr (30, 7, 0))]) (pc' := 7) (loc' := [some (.inr (.inr (30, 7, 0))), some (.inl a1), none, none]) (h' := h) 5 (fun _ _ => rfl) (eMo_isIn (by omega) hx2) ?_
  obtain ⟨z3, HA4, HK5⟩ := q_bind HF
  have hP6 : ∀ p8 : Int32, ((Mo_is p8 h).bind fun x9 => if ¬ x9.1 = 0 then ((Mo_copy 31 7 33 7 x9.2).bind fun x11 => (Mo_allFree x11).bind fun x13 => (Mo_vacuums x11).bind fun x15 => if a1 = 0 then ((Mo_allFree x15.2).bind fun x17 => (Mo_copy 33 7 31 7 x15.2).bind fun x19 => some (((x17 - x13), x19))) else (if a1 = 1 then ((Mo_copy 33 7 31 7 x15.2).bind fun x21 => some ((((x15.2.1 31 0 7 10) - (x15.2.1 33 0 7 10)), x21))) else (if a1 = 2 then ((Mo_copy 33 7 31 7 x15.2).bind fun x23 => some ((x15.1, x23))) else (if a1 = 3 then ((Mo_copy 33 7 31 7 x15.2).bind fun x25 => some ((((x15.2.1 31 0 7 12) - (x15.2.1 33 0 7 12)), x25))) else (if a1 = 4 then ((Mo_copy 33 7 31 7 x15.2).bind fun x27 => some ((((x15.2.1 31 0 7 13) - (x15.2.1 33 0 7 13)), x27))) else ((Mo_copy 33 7 31 7 x15.2).bind fun x29 => some ((((x15.2.1 31 0 7 14) - (x15.2.1 33 0 7 14)), x29)))))))) else (some (((-1 : Int32), x9.2))) : Option (Int32 × q_H)) = some r → q_E d q_K306 15 [some (.inr (.inr (30, 7, 0))), some (.inl a1), none, none] [.inl p8, .inr (.inr (30, 7, 0))] h (some (.inl r.1), r.2) := by
    intro p8 HF
    obtain ⟨x9, hx10, HF⟩ := q_bind HF
    refine q_cll (m' := 183) (av := [.inr (.inr (30, 7, 0)), .inl p8]) (st' := []) (pc' := 18) (loc' := [some (.inr (.inr (30, 7, 0))), some (.inl a1), none, none]) (h' := h) 1 (fun _ _ => rfl) (eMo_is (by omega) hx10) ?_
    refine q_br (P := ¬ x9.1 = 0) (pcT := 23) (pcF := 21) (loc' := [some (.inr (.inr (30, 7, 0))), some (.inl a1), none, none]) (stk' := []) (h' := x9.2) 1 (fun _ _ => rfl) (fun c36 => ?_) (fun c36 => ?_)
    · rw [if_pos c36] at HF
      obtain ⟨x11, hx12, HF⟩ := q_bind HF
      refine q_cll (m' := 186) (av := [.inr (.inr (31, 7, 0)), .inr (.inr (33, 7, 0))]) (st' := []) (pc' := 34) (loc' := [some (.inr (.inr (30, 7, 0))), some (.inl a1), none, none]) (h' := x9.2) 5 (fun _ _ => rfl) (eMo_copy (by omega) hx12) ?_
      obtain ⟨x13, hx14, HF⟩ := q_bind HF
      refine q_cll (m' := 305) (av := [.inr (.inr (30, 7, 0))]) (st' := []) (pc' := 38) (loc' := [some (.inr (.inr (30, 7, 0))), some (.inl a1), none, none]) (h' := x11) 2 (fun _ _ => rfl) (eMo_allFree (by omega) hx14) ?_
      obtain ⟨x15, hx16, HF⟩ := q_bind HF
      refine q_cll (m' := 224) (av := [.inr (.inr (30, 7, 0))]) (st' := []) (pc' := 43) (loc' := [some (.inr (.inr (30, 7, 0))), some (.inl a1), some (.inl x13), none]) (h' := x11) 3 (fun _ _ => rfl) (eMo_vacuums (by omega) hx16) ?_
      by_cases c31 : a1 = 0
      · rw [if_pos c31] at HF
        refine q_sw (o1 := 35) (pcx := 45) (pc' := 80) (loc' := [some (.inr (.inr (30, 7, 0))), some (.inl a1), some (.inl x13), some (.inl x15.1)]) (stk' := []) (h' := x15.2) 3 (fun _ _ => rfl) (q_tsI c31 rfl) rfl ?_
        obtain ⟨x17, hx18, HF⟩ := q_bind HF
        refine q_cll (m' := 305) (av := [.inr (.inr (30, 7, 0))]) (st' := []) (pc' := 84) (loc' := [some (.inr (.inr (30, 7, 0))), some (.inl a1), some (.inl x13), some (.inl x15.1)]) (h' := x15.2) 2 (fun _ _ => rfl) (eMo_allFree (by omega) hx18) ?_
        obtain ⟨x19, hx20, HF⟩ := q_bind HF
        refine q_cll (m' := 186) (av := [.inr (.inr (33, 7, 0)), .inr (.inr (31, 7, 0))]) (st' := []) (pc' := 177) (loc' := [some (.inr (.inr (30, 7, 0))), some (.inl a1), some (.inl x13), some (.inl (x17 - x13))]) (h' := x15.2) 9 (fun _ _ => rfl) (eMo_copy (by omega) hx20) ?_
        have hz := Option.some.inj HF
        subst hz
        exact q_rtn 2 (fun _ _ => rfl)
      · rw [if_neg c31] at HF
        by_cases c32 : a1 = 1
        · rw [if_pos c32] at HF
          refine q_sw (o1 := 45) (pcx := 45) (pc' := 90) (loc' := [some (.inr (.inr (30, 7, 0))), some (.inl a1), some (.inl x13), some (.inl x15.1)]) (stk' := []) (h' := x15.2) 3 (fun _ _ => rfl) (q_tsI c32 rfl) rfl ?_
          obtain ⟨x21, hx22, HF⟩ := q_bind HF
          refine q_cll (m' := 186) (av := [.inr (.inr (33, 7, 0)), .inr (.inr (31, 7, 0))]) (st' := []) (pc' := 177) (loc' := [some (.inr (.inr (30, 7, 0))), some (.inl a1), some (.inl x13), some (.inl ((x15.2.1 31 0 7 10) - (x15.2.1 33 0 7 10)))]) (h' := x15.2) 16 (fun _ _ => rfl) (eMo_copy (by omega) hx22) ?_
          have hz := Option.some.inj HF
          subst hz
          exact q_rtn 2 (fun _ _ => rfl)
        · rw [if_neg c32] at HF
          by_cases c33 : a1 = 2
          · rw [if_pos c33] at HF
            refine q_sw (o1 := 64) (pcx := 45) (pc' := 109) (loc' := [some (.inr (.inr (30, 7, 0))), some (.inl a1), some (.inl x13), some (.inl x15.1)]) (stk' := []) (h' := x15.2) 3 (fun _ _ => rfl) (q_tsI c33 rfl) rfl ?_
            obtain ⟨x23, hx24, HF⟩ := q_bind HF
            refine q_cll (m' := 186) (av := [.inr (.inr (33, 7, 0)), .inr (.inr (31, 7, 0))]) (st' := []) (pc' := 177) (loc' := [some (.inr (.inr (30, 7, 0))), some (.inl a1), some (.inl x13), some (.inl x15.1)]) (h' := x15.2) 6 (fun _ _ => rfl) (eMo_copy (by omega) hx24) ?_
            have hz := Option.some.inj HF
            subst hz
            exact q_rtn 2 (fun _ _ => rfl)
          · rw [if_neg c33] at HF
            by_cases c34 : a1 = 3
            · rw [if_pos c34] at HF
              refine q_sw (o1 := 67) (pcx := 45) (pc' := 112) (loc' := [some (.inr (.inr (30, 7, 0))), some (.inl a1), some (.inl x13), some (.inl x15.1)]) (stk' := []) (h' := x15.2) 3 (fun _ _ => rfl) (q_tsI c34 rfl) rfl ?_
              obtain ⟨x25, hx26, HF⟩ := q_bind HF
              refine q_cll (m' := 186) (av := [.inr (.inr (33, 7, 0)), .inr (.inr (31, 7, 0))]) (st' := []) (pc' := 177) (loc' := [some (.inr (.inr (30, 7, 0))), some (.inl a1), some (.inl x13), some (.inl ((x15.2.1 31 0 7 12) - (x15.2.1 33 0 7 12)))]) (h' := x15.2) 16 (fun _ _ => rfl) (eMo_copy (by omega) hx26) ?_
              have hz := Option.some.inj HF
              subst hz
              exact q_rtn 2 (fun _ _ => rfl)
            · rw [if_neg c34] at HF
              by_cases c35 : a1 = 4
              · rw [if_pos c35] at HF
                refine q_sw (o1 := 86) (pcx := 45) (pc' := 131) (loc' := [some (.inr (.inr (30, 7, 0))), some (.inl a1), some (.inl x13), some (.inl x15.1)]) (stk' := []) (h' := x15.2) 3 (fun _ _ => rfl) (q_tsI c35 rfl) rfl ?_
                obtain ⟨x27, hx28, HF⟩ := q_bind HF
                refine q_cll (m' := 186) (av := [.inr (.inr (33, 7, 0)), .inr (.inr (31, 7, 0))]) (st' := []) (pc' := 177) (loc' := [some (.inr (.inr (30, 7, 0))), some (.inl a1), some (.inl x13), some (.inl ((x15.2.1 31 0 7 13) - (x15.2.1 33 0 7 13)))]) (h' := x15.2) 16 (fun _ _ => rfl) (eMo_copy (by omega) hx28) ?_
                have hz := Option.some.inj HF
                subst hz
                exact q_rtn 2 (fun _ _ => rfl)
              · rw [if_neg c35] at HF
                refine q_sw (o1 := 105) (pcx := 45) (pc' := 150) (loc' := [some (.inr (.inr (30, 7, 0))), some (.inl a1), some (.inl x13), some (.inl x15.1)]) (stk' := []) (h' := x15.2) 3 (fun _ _ => rfl) (q_tsD (a := a1) (lo := 0) (hi := 4) (by have z0 := q_neI c31 (a := 0) rfl; have z1 := q_neI c32 (a := 1) rfl; have z2 := q_neI c33 (a := 2) rfl; have z3 := q_neI c34 (a := 3) rfl; have z4 := q_neI c35 (a := 4) rfl; omega)) rfl ?_
                obtain ⟨x29, hx30, HF⟩ := q_bind HF
                refine q_cll (m' := 186) (av := [.inr (.inr (33, 7, 0)), .inr (.inr (31, 7, 0))]) (st' := []) (pc' := 177) (loc' := [some (.inr (.inr (30, 7, 0))), some (.inl a1), some (.inl x13), some (.inl ((x15.2.1 31 0 7 14) - (x15.2.1 33 0 7 14)))]) (h' := x15.2) 15 (fun _ _ => rfl) (eMo_copy (by omega) hx30) ?_
                have hz := Option.some.inj HF
                subst hz
                exact q_rtn 2 (fun _ _ => rfl)
    · rw [if_neg c36] at HF
      have hz := Option.some.inj HF
      subst hz
      exact q_rtn 2 (fun _ _ => rfl)
  replace HF := HA4
  refine q_br (P := x1 = 0) (pcT := 14) (pcF := 10) (loc' := [some (.inr (.inr (30, 7, 0))), some (.inl a1), none, none]) (stk' := [.inr (.inr (30, 7, 0))]) (h' := h) 1 (fun _ _ => rfl) (fun c7 => ?_) (fun c7 => ?_)
  · rw [if_pos c7] at HF
    refine q_blk (pc' := 15) (loc' := [some (.inr (.inr (30, 7, 0))), some (.inl a1), none, none]) (stk' := [.inl (1 : Int32), .inr (.inr (30, 7, 0))]) (h' := h) 1 (fun _ _ => rfl) ?_
    have hz := Option.some.inj HF
    subst hz
    exact hP6 (1 : Int32) HK5
  · rw [if_neg c7] at HF
    refine q_blk (pc' := 15) (loc' := [some (.inr (.inr (30, 7, 0))), some (.inl a1), none, none]) (stk' := [.inl (0 : Int32), .inr (.inr (30, 7, 0))]) (h' := h) 2 (fun _ _ => rfl) ?_
    have hz := Option.some.inj HF
    subst hz
    exact hP6 (0 : Int32) HK5
def Mo_most (a1 : Int32) (h : q_H) : Option (Int32 × q_H) :=
  (Mo_isPage a1 h).bind fun x1 => Option.bind (α := Int32) (if x1 = 0 then (some ((2 : Int32))) else (some ((0 : Int32)))) (fun p8 => (Mo_is p8 h).bind fun x9 => if ¬ x9.1 = 0 then ((Mo_copy 31 7 33 7 x9.2).bind fun x11 => (q_lp (fun s13 : Int32 × q_H => (if (s13.2.1 31 0 7 4) ≤ s13.1 then ((Mo_vacuums s13.2).bind fun x21 => (Mo_freeIn a1 x21.2).bind fun x23 => (Mo_copy 33 7 31 7 x21.2).bind fun x25 => some (.inr ((x23, x25)))) else ((Mo_isOpen s13.1 s13.2).bind fun x27 => Option.bind (α := q_H) (if x27 = 0 then (some (s13.2)) else (bif q_in ((1052 : Int32) + ((3 : Int32) * s13.1)) 1644 then (some ((q_si s13.2 31 0 7 ((1052 : Int32) + ((3 : Int32) * s13.1)).toNatClampNeg (1 : Int32)))) else none)) (fun p35 => some (.inl ((s13.1 + (1 : Int32)), p35)))) : Option ((Int32 × q_H) ⊕ (Int32 × q_H)))) q_fu (((1 : Int32), x11) : Int32 × q_H)).bind fun z20 => some z20) else (some (((-1 : Int32), x9.2))))
set_option maxRecDepth 100000 in
set_option maxHeartbeats 4000000 in
theorem eMo_most {d : Nat} (hd : 8 ≤ d) {a1 : Int32} {h : q_H} {r : (Int32 × q_H)} (HF : Mo_most a1 h = some r) : q_T d 309 [.inr (.inr (30, 7, 0)), .inl a1] h (some (.inl r.1), r.2) := by
  obtain ⟨d, rfl⟩ : ∃ d', d = d' + 1 := ⟨d - 1, by omega⟩
  refine q_ent q_K309 rfl rfl rfl ?_
  unfold Mo_most at HF
  obtain ⟨x1, hx2, HF⟩ := q_bind HF
  refine q_cll (m' := 265) (av := [.inl a1]) (st' := [.inr (.inr (30, 7, 0))]) (pc' := 5) (loc' := [some (.inr (.inr (30, 7, 0))), some (.inl a1), none]) (h' := h) 3 (fun _ _ => rfl) (eMo_isPage (by omega) hx2) ?_
  obtain ⟨z3, HA4, HK5⟩ := q_bind HF
  have hP6 : ∀ p8 : Int32, ((Mo_is p8 h).bind fun x9 => if ¬ x9.1 = 0 then ((Mo_copy 31 7 33 7 x9.2).bind fun x11 => (q_lp (fun s13 : Int32 × q_H => (if (s13.2.1 31 0 7 4) ≤ s13.1 then ((Mo_vacuums s13.2).bind fun x21 => (Mo_freeIn a1 x21.2).bind fun x23 => (Mo_copy 33 7 31 7 x21.2).bind fun x25 => some (.inr ((x23, x25)))) else ((Mo_isOpen s13.1 s13.2).bind fun x27 => Option.bind (α := q_H) (if x27 = 0 then (some (s13.2)) else (bif q_in ((1052 : Int32) + ((3 : Int32) * s13.1)) 1644 then (some ((q_si s13.2 31 0 7 ((1052 : Int32) + ((3 : Int32) * s13.1)).toNatClampNeg (1 : Int32)))) else none)) (fun p35 => some (.inl ((s13.1 + (1 : Int32)), p35)))) : Option ((Int32 × q_H) ⊕ (Int32 × q_H)))) q_fu (((1 : Int32), x11) : Int32 × q_H)).bind fun z20 => some z20) else (some (((-1 : Int32), x9.2))) : Option (Int32 × q_H)) = some r → q_E d q_K309 13 [some (.inr (.inr (30, 7, 0))), some (.inl a1), none] [.inl p8, .inr (.inr (30, 7, 0))] h (some (.inl r.1), r.2) := by
    intro p8 HF
    obtain ⟨x9, hx10, HF⟩ := q_bind HF
    refine q_cll (m' := 183) (av := [.inr (.inr (30, 7, 0)), .inl p8]) (st' := []) (pc' := 16) (loc' := [some (.inr (.inr (30, 7, 0))), some (.inl a1), none]) (h' := h) 1 (fun _ _ => rfl) (eMo_is (by omega) hx10) ?_
    refine q_br (P := ¬ x9.1 = 0) (pcT := 21) (pcF := 19) (loc' := [some (.inr (.inr (30, 7, 0))), some (.inl a1), none]) (stk' := []) (h' := x9.2) 1 (fun _ _ => rfl) (fun c38 => ?_) (fun c38 => ?_)
    · rw [if_pos c38] at HF
      obtain ⟨x11, hx12, HF⟩ := q_bind HF
      refine q_cll (m' := 186) (av := [.inr (.inr (31, 7, 0)), .inr (.inr (33, 7, 0))]) (st' := []) (pc' := 32) (loc' := [some (.inr (.inr (30, 7, 0))), some (.inl a1), none]) (h' := x9.2) 5 (fun _ _ => rfl) (eMo_copy (by omega) hx12) ?_
      refine q_blk (pc' := 34) (loc' := [some (.inr (.inr (30, 7, 0))), some (.inl a1), some (.inl (1 : Int32))]) (stk' := []) (h' := x11) 2 (fun _ _ => rfl) ?_
      obtain ⟨r18, hl19, HK16⟩ := q_bind HF
      refine q_lpE (E := fun s13 => q_E d q_K309 34 [some (.inr (.inr (30, 7, 0))), some (.inl a1), some (.inl s13.1)] [] s13.2 (some (.inl r.1), r.2)) r18 (fun s13 z20 HF H114 H215 => ?_) _ _ hl19
      refine q_br (P := (s13.2.1 31 0 7 4) ≤ s13.1) (pcT := 71) (pcF := 44) (loc' := [some (.inr (.inr (30, 7, 0))), some (.inl a1), some (.inl s13.1)]) (stk' := []) (h' := s13.2) 6 (fun _ _ => rfl) (fun c37 => ?_) (fun c37 => ?_)
      · rw [if_pos c37] at HF
        obtain ⟨x21, hx22, HF⟩ := q_bind HF
        refine q_cll (m' := 224) (av := [.inr (.inr (30, 7, 0))]) (st' := []) (pc' := 75) (loc' := [some (.inr (.inr (30, 7, 0))), some (.inl a1), some (.inl s13.1)]) (h' := s13.2) 2 (fun _ _ => rfl) (eMo_vacuums (by omega) hx22) ?_
        obtain ⟨x23, hx24, HF⟩ := q_bind HF
        refine q_cll (m' := 192) (av := [.inr (.inr (30, 7, 0)), .inl a1]) (st' := []) (pc' := 81) (loc' := [some (.inr (.inr (30, 7, 0))), some (.inl a1), some (.inl s13.1)]) (h' := x21.2) 4 (fun _ _ => rfl) (eMo_freeIn (by omega) hx24) ?_
        obtain ⟨x25, hx26, HF⟩ := q_bind HF
        refine q_cll (m' := 186) (av := [.inr (.inr (33, 7, 0)), .inr (.inr (31, 7, 0))]) (st' := []) (pc' := 93) (loc' := [some (.inr (.inr (30, 7, 0))), some (.inl a1), some (.inl x23)]) (h' := x21.2) 6 (fun _ _ => rfl) (eMo_copy (by omega) hx26) ?_
        have hz := Option.some.inj HF
        subst hz
        replace HF := HK16
        rw [← H215 _ rfl] at HF
        have hz := Option.some.inj HF
        subst hz
        exact q_rtn 2 (fun _ _ => rfl)
      · rw [if_neg c37] at HF
        obtain ⟨x27, hx28, HF⟩ := q_bind HF
        refine q_cll (m' := 197) (av := [.inr (.inr (30, 7, 0)), .inl s13.1]) (st' := []) (pc' := 49) (loc' := [some (.inr (.inr (30, 7, 0))), some (.inl a1), some (.inl s13.1)]) (h' := s13.2) 3 (fun _ _ => rfl) (eMo_isOpen (by omega) hx28) ?_
        obtain ⟨z29, HA30, HK31⟩ := q_bind HF
        have hP32 : ∀ p35 : q_H, (some (.inl ((s13.1 + (1 : Int32)), p35)) : Option ((Int32 × q_H) ⊕ (Int32 × q_H))) = some z20 → q_E d q_K309 65 [some (.inr (.inr (30, 7, 0))), some (.inl a1), some (.inl s13.1)] [] p35 (some (.inl r.1), r.2) := by
          intro p35 HF
          refine q_blk (pc' := 34) (loc' := [some (.inr (.inr (30, 7, 0))), some (.inl a1), some (.inl (s13.1 + (1 : Int32)))]) (stk' := []) (h' := p35) 2 (fun _ _ => rfl) ?_
          have hz := Option.some.inj HF
          subst hz
          exact H114 ((s13.1 + (1 : Int32)), p35) rfl
        replace HF := HA30
        refine q_br (P := x27 = 0) (pcT := 65) (pcF := 52) (loc' := [some (.inr (.inr (30, 7, 0))), some (.inl a1), some (.inl s13.1)]) (stk' := []) (h' := s13.2) 1 (fun _ _ => rfl) (fun c34 => ?_) (fun c34 => ?_)
        · rw [if_pos c34] at HF
          have hz := Option.some.inj HF
          subst hz
          exact hP32 (s13.2) HK31
        · rw [if_neg c34] at HF
          obtain ⟨g33, HF⟩ := q_gF HF
          refine q_gd (pc' := 65) (loc' := [some (.inr (.inr (30, 7, 0))), some (.inl a1), some (.inl s13.1)]) (stk' := []) (h' := (q_si s13.2 31 0 7 ((1052 : Int32) + ((3 : Int32) * s13.1)).toNatClampNeg (1 : Int32))) 9 (fun _ _ => rfl) g33 ?_
          have hz := Option.some.inj HF
          subst hz
          exact hP32 (q_si s13.2 31 0 7 ((1052 : Int32) + ((3 : Int32) * s13.1)).toNatClampNeg (1 : Int32)) HK31
    · rw [if_neg c38] at HF
      have hz := Option.some.inj HF
      subst hz
      exact q_rtn 2 (fun _ _ => rfl)
  replace HF := HA4
  refine q_br (P := x1 = 0) (pcT := 12) (pcF := 8) (loc' := [some (.inr (.inr (30, 7, 0))), some (.inl a1), none]) (stk' := [.inr (.inr (30, 7, 0))]) (h' := h) 1 (fun _ _ => rfl) (fun c7 => ?_) (fun c7 => ?_)
  · rw [if_pos c7] at HF
    refine q_blk (pc' := 13) (loc' := [some (.inr (.inr (30, 7, 0))), some (.inl a1), none]) (stk' := [.inl (2 : Int32), .inr (.inr (30, 7, 0))]) (h' := h) 1 (fun _ _ => rfl) ?_
    have hz := Option.some.inj HF
    subst hz
    exact hP6 (2 : Int32) HK5
  · rw [if_neg c7] at HF
    refine q_blk (pc' := 13) (loc' := [some (.inr (.inr (30, 7, 0))), some (.inl a1), none]) (stk' := [.inl (0 : Int32), .inr (.inr (30, 7, 0))]) (h' := h) 2 (fun _ _ => rfl) ?_
    have hz := Option.some.inj HF
    subst hz
    exact hP6 (0 : Int32) HK5
def Rp_load (a1 : Int32) (h : q_H) : Option (Int32 × q_H) :=
  if a1 < 0 then ((Rp_refuse (1 : Int32) h).bind fun x1 => some ((x1.1, x1.2))) else (if a1 ≤ (h.1 25 1 6 0) then ((St_copyFrom 2 0 h).bind fun x3 => (St_makeAnew 0 x3).bind fun x5 => (Tx_open a1 x5).bind fun x7 => (q_lp (fun s9 : Int32 × q_H => (Option.bind (α := (Unit) ⊕ ((Int32 × q_H) ⊕ (q_H))) (if (700 : Int32) < s9.1 then (some (.inr (.inr (s9.2)))) else (some (.inl ()))) (fun z17 => match z17 with | .inl p22 => (Tx_readLine s9.2).bind fun x23 => Option.bind (α := (Unit) ⊕ ((Int32 × q_H) ⊕ (q_H))) (if x23.1 = 0 then (some (.inr (.inr (x23.2)))) else (some (.inl ()))) (fun z25 => match z25 with | .inl p30 => (Rp_perform x23.2).bind fun x31 => some (.inl ((s9.1 + (1 : Int32)), x31)) | .inr z25 => some z25) | .inr z17 => some z17) : Option ((Int32 × q_H) ⊕ (q_H)))) q_fu (((0 : Int32), x7) : Int32 × q_H)).bind fun p35 => if (p35.1 25 15 6 0) = 0 then ((Rp_answer (p35.1 0 7 0 0) p35).bind fun x36 => some ((x36.1, x36.2))) else ((St_copyFrom 0 2 p35).bind fun x38 => (Rp_refuse (9 : Int32) x38).bind fun x40 => some ((x40.1, x40.2)))) else ((Rp_refuse (1 : Int32) h).bind fun x43 => some ((x43.1, x43.2))))
set_option maxRecDepth 100000 in
set_option maxHeartbeats 4000000 in
theorem eRp_load {d : Nat} (hd : 9 ≤ d) {a1 : Int32} {h : q_H} {r : (Int32 × q_H)} (HF : Rp_load a1 h = some r) : q_T d 7 [.inr (.inr (24, 6, 0)), .inl a1] h (some (.inl r.1), r.2) := by
  obtain ⟨d, rfl⟩ : ∃ d', d = d' + 1 := ⟨d - 1, by omega⟩
  refine q_ent q_K7 rfl rfl rfl ?_
  unfold Rp_load at HF
  refine q_br (P := a1 < 0) (pcT := 15) (pcF := 4) (loc' := [some (.inr (.inr (24, 6, 0))), some (.inl a1), none]) (stk' := []) (h' := h) 2 (fun _ _ => rfl) (fun c46 => ?_) (fun c46 => ?_)
  · rw [if_pos c46] at HF
    obtain ⟨x1, hx2, HF⟩ := q_bind HF
    refine q_cll (m' := 46) (av := [.inr (.inr (24, 6, 0)), .inl (1 : Int32)]) (st' := []) (pc' := 20) (loc' := [some (.inr (.inr (24, 6, 0))), some (.inl a1), none]) (h' := h) 3 (fun _ _ => rfl) (eRp_refuse (by omega) hx2) ?_
    have hz := Option.some.inj HF
    subst hz
    exact q_rtn 1 (fun _ _ => rfl)
  · rw [if_neg c46] at HF
    refine q_br (P := a1 ≤ (h.1 25 1 6 0)) (pcT := 21) (pcF := 15) (loc' := [some (.inr (.inr (24, 6, 0))), some (.inl a1), none]) (stk' := []) (h' := h) 5 (fun _ _ => rfl) (fun c45 => ?_) (fun c45 => ?_)
    · rw [if_pos c45] at HF
      obtain ⟨x3, hx4, HF⟩ := q_bind HF
      refine q_cll (m' := 142) (av := [.inr (.inr (0, 2, 0)), .inr (.inr (0, 0, 0))]) (st' := []) (pc' := 32) (loc' := [some (.inr (.inr (24, 6, 0))), some (.inl a1), none]) (h' := h) 5 (fun _ _ => rfl) (eSt_copyFrom (by omega) hx4) ?_
      obtain ⟨x5, hx6, HF⟩ := q_bind HF
      refine q_cll (m' := 143) (av := [.inr (.inr (0, 0, 0))]) (st' := []) (pc' := 39) (loc' := [some (.inr (.inr (24, 6, 0))), some (.inl a1), none]) (h' := x3) 3 (fun _ _ => rfl) (eSt_makeAnew (by omega) hx6) ?_
      obtain ⟨x7, hx8, HF⟩ := q_bind HF
      refine q_cll (m' := 124) (av := [.inr (.inr (25, 6, 0)), .inl a1]) (st' := []) (pc' := 47) (loc' := [some (.inr (.inr (24, 6, 0))), some (.inl a1), none]) (h' := x5) 4 (fun _ _ => rfl) (eTx_open (by omega) hx8) ?_
      refine q_blk (pc' := 49) (loc' := [some (.inr (.inr (24, 6, 0))), some (.inl a1), some (.inl (0 : Int32))]) (stk' := []) (h' := x7) 2 (fun _ _ => rfl) ?_
      obtain ⟨r14, hl15, HK12⟩ := q_bind HF
      have hP13 : ∀ p35 : q_H, (if (p35.1 25 15 6 0) = 0 then ((Rp_answer (p35.1 0 7 0 0) p35).bind fun x36 => some ((x36.1, x36.2))) else ((St_copyFrom 0 2 p35).bind fun x38 => (Rp_refuse (9 : Int32) x38).bind fun x40 => some ((x40.1, x40.2))) : Option (Int32 × q_H)) = some r → q_E d q_K7 76 [some (.inr (.inr (24, 6, 0))), some (.inl a1), none] [] p35 (some (.inl r.1), r.2) := by
        intro p35 HF
        refine q_br (P := (p35.1 25 15 6 0) = 0) (pcT := 104) (pcF := 86) (loc' := [some (.inr (.inr (24, 6, 0))), some (.inl a1), none]) (stk' := []) (h' := p35) 4 (fun _ _ => rfl) (fun c42 => ?_) (fun c42 => ?_)
        · rw [if_pos c42] at HF
          obtain ⟨x36, hx37, HF⟩ := q_bind HF
          refine q_cll (m' := 45) (av := [.inr (.inr (24, 6, 0)), .inl (p35.1 0 7 0 0)]) (st' := []) (pc' := 115) (loc' := [some (.inr (.inr (24, 6, 0))), some (.inl a1), none]) (h' := p35) 5 (fun _ _ => rfl) (eRp_answer (by omega) hx37) ?_
          have hz := Option.some.inj HF
          subst hz
          exact q_rtn 1 (fun _ _ => rfl)
        · rw [if_neg c42] at HF
          obtain ⟨x38, hx39, HF⟩ := q_bind HF
          refine q_cll (m' := 142) (av := [.inr (.inr (0, 0, 0)), .inr (.inr (0, 2, 0))]) (st' := []) (pc' := 97) (loc' := [some (.inr (.inr (24, 6, 0))), some (.inl a1), none]) (h' := p35) 5 (fun _ _ => rfl) (eSt_copyFrom (by omega) hx39) ?_
          obtain ⟨x40, hx41, HF⟩ := q_bind HF
          refine q_cll (m' := 46) (av := [.inr (.inr (24, 6, 0)), .inl (9 : Int32)]) (st' := []) (pc' := 103) (loc' := [some (.inr (.inr (24, 6, 0))), some (.inl a1), none]) (h' := x38) 3 (fun _ _ => rfl) (eRp_refuse (by omega) hx41) ?_
          have hz := Option.some.inj HF
          subst hz
          exact q_rtn 1 (fun _ _ => rfl)
      refine q_lpE (E := fun s9 => q_E d q_K7 49 [some (.inr (.inr (24, 6, 0))), some (.inl a1), some (.inl s9.1)] [] s9.2 (some (.inl r.1), r.2)) r14 (fun s9 z16 HF H110 H211 => ?_) _ _ hl15
      obtain ⟨z17, HA18, HK19⟩ := q_bind HF
      have hP20 : ∀ p22 : Unit, ((Tx_readLine s9.2).bind fun x23 => Option.bind (α := (Unit) ⊕ ((Int32 × q_H) ⊕ (q_H))) (if x23.1 = 0 then (some (.inr (.inr (x23.2)))) else (some (.inl ()))) (fun z25 => match z25 with | .inl p30 => (Rp_perform x23.2).bind fun x31 => some (.inl ((s9.1 + (1 : Int32)), x31)) | .inr z25 => some z25) : Option ((Int32 × q_H) ⊕ (q_H))) = some z16 → q_E d q_K7 56 [some (.inr (.inr (24, 6, 0))), some (.inl a1), some (.inl s9.1)] [] s9.2 (some (.inl r.1), r.2) := by
        intro p22 HF
        obtain ⟨x23, hx24, HF⟩ := q_bind HF
        refine q_cll (m' := 127) (av := [.inr (.inr (25, 6, 0))]) (st' := []) (pc' := 63) (loc' := [some (.inr (.inr (24, 6, 0))), some (.inl a1), some (.inl s9.1)]) (h' := s9.2) 3 (fun _ _ => rfl) (eTx_readLine (by omega) hx24) ?_
        obtain ⟨z25, HA26, HK27⟩ := q_bind HF
        have hP28 : ∀ p30 : Unit, ((Rp_perform x23.2).bind fun x31 => some (.inl ((s9.1 + (1 : Int32)), x31)) : Option ((Int32 × q_H) ⊕ (q_H))) = some z16 → q_E d q_K7 66 [some (.inr (.inr (24, 6, 0))), some (.inl a1), some (.inl s9.1)] [] x23.2 (some (.inl r.1), r.2) := by
          intro p30 HF
          obtain ⟨x31, hx32, HF⟩ := q_bind HF
          refine q_cll (m' := 53) (av := [.inr (.inr (24, 6, 0))]) (st' := []) (pc' := 70) (loc' := [some (.inr (.inr (24, 6, 0))), some (.inl a1), some (.inl s9.1)]) (h' := x23.2) 2 (fun _ _ => rfl) (eRp_perform (by omega) hx32) ?_
          refine q_blk (pc' := 49) (loc' := [some (.inr (.inr (24, 6, 0))), some (.inl a1), some (.inl (s9.1 + (1 : Int32)))]) (stk' := []) (h' := x31) 2 (fun _ _ => rfl) ?_
          have hz := Option.some.inj HF
          subst hz
          exact H110 ((s9.1 + (1 : Int32)), x31) rfl
        replace HF := HA26
        refine q_br (P := x23.1 = 0) (pcT := 76) (pcF := 66) (loc' := [some (.inr (.inr (24, 6, 0))), some (.inl a1), some (.inl s9.1)]) (stk' := []) (h' := x23.2) 1 (fun _ _ => rfl) (fun c29 => ?_) (fun c29 => ?_)
        · rw [if_pos c29] at HF
          have hz := Option.some.inj HF
          subst hz
          replace HF := HK27
          have hz := Option.some.inj HF
          subst hz
          rw [← H211 _ rfl] at HK12
          exact q_wk (loc := [some (.inr (.inr (24, 6, 0))), some (.inl a1), none]) ⟨Or.inl rfl, ⟨Or.inl rfl, ⟨Or.inr ⟨rfl, fun _ h => by cases h⟩, trivial⟩⟩⟩ (hP13 (x23.2) HK12)
        · rw [if_neg c29] at HF
          have hz := Option.some.inj HF
          subst hz
          exact hP28 () HK27
      replace HF := HA18
      refine q_br (P := (700 : Int32) < s9.1) (pcT := 76) (pcF := 56) (loc' := [some (.inr (.inr (24, 6, 0))), some (.inl a1), some (.inl s9.1)]) (stk' := []) (h' := s9.2) 3 (fun _ _ => rfl) (fun c21 => ?_) (fun c21 => ?_)
      · rw [if_pos c21] at HF
        have hz := Option.some.inj HF
        subst hz
        replace HF := HK19
        have hz := Option.some.inj HF
        subst hz
        rw [← H211 _ rfl] at HK12
        exact q_wk (loc := [some (.inr (.inr (24, 6, 0))), some (.inl a1), none]) ⟨Or.inl rfl, ⟨Or.inl rfl, ⟨Or.inr ⟨rfl, fun _ h => by cases h⟩, trivial⟩⟩⟩ (hP13 (s9.2) HK12)
      · rw [if_neg c21] at HF
        have hz := Option.some.inj HF
        subst hz
        exact hP20 () HK19
    · rw [if_neg c45] at HF
      obtain ⟨x43, hx44, HF⟩ := q_bind HF
      refine q_cll (m' := 46) (av := [.inr (.inr (24, 6, 0)), .inl (1 : Int32)]) (st' := []) (pc' := 20) (loc' := [some (.inr (.inr (24, 6, 0))), some (.inl a1), none]) (h' := h) 3 (fun _ _ => rfl) (eRp_refuse (by omega) hx44) ?_
      have hz := Option.some.inj HF
      subst hz
      exact q_rtn 1 (fun _ _ => rfl)
