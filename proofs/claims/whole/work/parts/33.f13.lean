def Rp_gains (a1 : Int32) (h : q_H) : Option (Int32 × q_H) :=
  if a1 < 0 then ((Rp_refuse (1 : Int32) h).bind fun x1 => some ((x1.1, x1.2))) else (if a1 ≤ (5 : Int32) then ((St_copyFrom 1 0 h).bind fun x3 => (St_vacuumAll 1 x3).bind fun x5 => if a1 = 0 then ((Pg_freeInAll 1 x5.2).bind fun x7 => (Pg_freeInAll 0 x5.2).bind fun x9 => (Rp_answer (x7 - x9) x5.2).bind fun x11 => some ((x11.1, x11.2))) else (if a1 = 1 then ((Rp_countGained (1 : Int32) x5.2).bind fun x13 => (Rp_answer x13 x5.2).bind fun x15 => some ((x15.1, x15.2))) else (if a1 = 2 then ((Rp_answer x5.1 x5.2).bind fun x17 => some ((x17.1, x17.2))) else (if a1 = 3 then ((Rp_countGained (3 : Int32) x5.2).bind fun x19 => (Rp_answer x19 x5.2).bind fun x21 => some ((x21.1, x21.2))) else (if a1 = 4 then ((Rp_countGained (4 : Int32) x5.2).bind fun x23 => (Rp_answer x23 x5.2).bind fun x25 => some ((x25.1, x25.2))) else ((Rp_countGained (5 : Int32) x5.2).bind fun x27 => (Rp_answer x27 x5.2).bind fun x29 => some ((x29.1, x29.2)))))))) else ((Rp_refuse (1 : Int32) h).bind fun x36 => some ((x36.1, x36.2))))
set_option maxRecDepth 100000 in
set_option maxHeartbeats 4000000 in
theorem eRp_gains {d : Nat} (hd : 6 ≤ d) {a1 : Int32} {h : q_H} {r : (Int32 × q_H)} (HF : Rp_gains a1 h = some r) : q_T d 41 [.inr (.inr (24, 6, 0)), .inl a1] h (some (.inl r.1), r.2) := by
  obtain ⟨d, rfl⟩ : ∃ d', d = d' + 1 := ⟨d - 1, by omega⟩
  refine q_ent q_K41 rfl rfl rfl ?_
  unfold Rp_gains at HF
  refine q_br (P := a1 < 0) (pcT := 9) (pcF := 4) (loc' := [some (.inr (.inr (24, 6, 0))), some (.inl a1), none]) (stk' := []) (h' := h) 2 (fun _ _ => rfl) (fun c39 => ?_) (fun c39 => ?_)
  · rw [if_pos c39] at HF
    obtain ⟨x1, hx2, HF⟩ := q_bind HF
    refine q_cll (m' := 46) (av := [.inr (.inr (24, 6, 0)), .inl (1 : Int32)]) (st' := []) (pc' := 14) (loc' := [some (.inr (.inr (24, 6, 0))), some (.inl a1), none]) (h' := h) 3 (fun _ _ => rfl) (eRp_refuse (by omega) hx2) ?_
    have hz := Option.some.inj HF
    subst hz
    exact q_rtn 1 (fun _ _ => rfl)
  · rw [if_neg c39] at HF
    refine q_br (P := a1 ≤ (5 : Int32)) (pcT := 15) (pcF := 9) (loc' := [some (.inr (.inr (24, 6, 0))), some (.inl a1), none]) (stk' := []) (h' := h) 3 (fun _ _ => rfl) (fun c38 => ?_) (fun c38 => ?_)
    · rw [if_pos c38] at HF
      obtain ⟨x3, hx4, HF⟩ := q_bind HF
      refine q_cll (m' := 142) (av := [.inr (.inr (0, 1, 0)), .inr (.inr (0, 0, 0))]) (st' := []) (pc' := 26) (loc' := [some (.inr (.inr (24, 6, 0))), some (.inl a1), none]) (h' := h) 5 (fun _ _ => rfl) (eSt_copyFrom (by omega) hx4) ?_
      obtain ⟨x5, hx6, HF⟩ := q_bind HF
      refine q_cll (m' := 166) (av := [.inr (.inr (0, 1, 0))]) (st' := []) (pc' := 33) (loc' := [some (.inr (.inr (24, 6, 0))), some (.inl a1), none]) (h' := x3) 3 (fun _ _ => rfl) (eSt_vacuumAll (by omega) hx6) ?_
      by_cases c31 : a1 = 0
      · rw [if_pos c31] at HF
        refine q_sw (o1 := 33) (pcx := 35) (pc' := 68) (loc' := [some (.inr (.inr (24, 6, 0))), some (.inl a1), some (.inl x5.1)]) (stk' := []) (h' := x5.2) 3 (fun _ _ => rfl) (q_tsI c31 rfl) rfl ?_
        obtain ⟨x7, hx8, HF⟩ := q_bind HF
        refine q_cll (m' := 95) (av := [.inr (.inr (1, 1, 0))]) (st' := [.inr (.inr (24, 6, 0))]) (pc' := 79) (loc' := [some (.inr (.inr (24, 6, 0))), some (.inl a1), some (.inl x5.1)]) (h' := x5.2) 5 (fun _ _ => rfl) (ePg_freeInAll (by omega) hx8) ?_
        obtain ⟨x9, hx10, HF⟩ := q_bind HF
        refine q_cll (m' := 95) (av := [.inr (.inr (1, 0, 0))]) (st' := [.inl x7, .inr (.inr (24, 6, 0))]) (pc' := 89) (loc' := [some (.inr (.inr (24, 6, 0))), some (.inl a1), some (.inl x5.1)]) (h' := x5.2) 4 (fun _ _ => rfl) (ePg_freeInAll (by omega) hx10) ?_
        obtain ⟨x11, hx12, HF⟩ := q_bind HF
        refine q_cll (m' := 45) (av := [.inr (.inr (24, 6, 0)), .inl (x7 - x9)]) (st' := []) (pc' := 93) (loc' := [some (.inr (.inr (24, 6, 0))), some (.inl a1), some (.inl x5.1)]) (h' := x5.2) 2 (fun _ _ => rfl) (eRp_answer (by omega) hx12) ?_
        have hz := Option.some.inj HF
        subst hz
        exact q_rtn 1 (fun _ _ => rfl)
      · rw [if_neg c31] at HF
        by_cases c32 : a1 = 1
        · rw [if_pos c32] at HF
          refine q_sw (o1 := 59) (pcx := 35) (pc' := 94) (loc' := [some (.inr (.inr (24, 6, 0))), some (.inl a1), some (.inl x5.1)]) (stk' := []) (h' := x5.2) 3 (fun _ _ => rfl) (q_tsI c32 rfl) rfl ?_
          obtain ⟨x13, hx14, HF⟩ := q_bind HF
          refine q_cll (m' := 52) (av := [.inr (.inr (24, 6, 0)), .inl (1 : Int32)]) (st' := [.inr (.inr (24, 6, 0))]) (pc' := 100) (loc' := [some (.inr (.inr (24, 6, 0))), some (.inl a1), some (.inl x5.1)]) (h' := x5.2) 4 (fun _ _ => rfl) (eRp_countGained (by omega) hx14) ?_
          obtain ⟨x15, hx16, HF⟩ := q_bind HF
          refine q_cll (m' := 45) (av := [.inr (.inr (24, 6, 0)), .inl x13]) (st' := []) (pc' := 103) (loc' := [some (.inr (.inr (24, 6, 0))), some (.inl a1), some (.inl x5.1)]) (h' := x5.2) 1 (fun _ _ => rfl) (eRp_answer (by omega) hx16) ?_
          have hz := Option.some.inj HF
          subst hz
          exact q_rtn 1 (fun _ _ => rfl)
        · rw [if_neg c32] at HF
          by_cases c33 : a1 = 2
          · rw [if_pos c33] at HF
            refine q_sw (o1 := 69) (pcx := 35) (pc' := 104) (loc' := [some (.inr (.inr (24, 6, 0))), some (.inl a1), some (.inl x5.1)]) (stk' := []) (h' := x5.2) 3 (fun _ _ => rfl) (q_tsI c33 rfl) rfl ?_
            obtain ⟨x17, hx18, HF⟩ := q_bind HF
            refine q_cll (m' := 45) (av := [.inr (.inr (24, 6, 0)), .inl x5.1]) (st' := []) (pc' := 109) (loc' := [some (.inr (.inr (24, 6, 0))), some (.inl a1), some (.inl x5.1)]) (h' := x5.2) 3 (fun _ _ => rfl) (eRp_answer (by omega) hx18) ?_
            have hz := Option.some.inj HF
            subst hz
            exact q_rtn 1 (fun _ _ => rfl)
          · rw [if_neg c33] at HF
            by_cases c34 : a1 = 3
            · rw [if_pos c34] at HF
              refine q_sw (o1 := 75) (pcx := 35) (pc' := 110) (loc' := [some (.inr (.inr (24, 6, 0))), some (.inl a1), some (.inl x5.1)]) (stk' := []) (h' := x5.2) 3 (fun _ _ => rfl) (q_tsI c34 rfl) rfl ?_
              obtain ⟨x19, hx20, HF⟩ := q_bind HF
              refine q_cll (m' := 52) (av := [.inr (.inr (24, 6, 0)), .inl (3 : Int32)]) (st' := [.inr (.inr (24, 6, 0))]) (pc' := 116) (loc' := [some (.inr (.inr (24, 6, 0))), some (.inl a1), some (.inl x5.1)]) (h' := x5.2) 4 (fun _ _ => rfl) (eRp_countGained (by omega) hx20) ?_
              obtain ⟨x21, hx22, HF⟩ := q_bind HF
              refine q_cll (m' := 45) (av := [.inr (.inr (24, 6, 0)), .inl x19]) (st' := []) (pc' := 119) (loc' := [some (.inr (.inr (24, 6, 0))), some (.inl a1), some (.inl x5.1)]) (h' := x5.2) 1 (fun _ _ => rfl) (eRp_answer (by omega) hx22) ?_
              have hz := Option.some.inj HF
              subst hz
              exact q_rtn 1 (fun _ _ => rfl)
            · rw [if_neg c34] at HF
              by_cases c35 : a1 = 4
              · rw [if_pos c35] at HF
                refine q_sw (o1 := 85) (pcx := 35) (pc' := 120) (loc' := [some (.inr (.inr (24, 6, 0))), some (.inl a1), some (.inl x5.1)]) (stk' := []) (h' := x5.2) 3 (fun _ _ => rfl) (q_tsI c35 rfl) rfl ?_
                obtain ⟨x23, hx24, HF⟩ := q_bind HF
                refine q_cll (m' := 52) (av := [.inr (.inr (24, 6, 0)), .inl (4 : Int32)]) (st' := [.inr (.inr (24, 6, 0))]) (pc' := 126) (loc' := [some (.inr (.inr (24, 6, 0))), some (.inl a1), some (.inl x5.1)]) (h' := x5.2) 4 (fun _ _ => rfl) (eRp_countGained (by omega) hx24) ?_
                obtain ⟨x25, hx26, HF⟩ := q_bind HF
                refine q_cll (m' := 45) (av := [.inr (.inr (24, 6, 0)), .inl x23]) (st' := []) (pc' := 129) (loc' := [some (.inr (.inr (24, 6, 0))), some (.inl a1), some (.inl x5.1)]) (h' := x5.2) 1 (fun _ _ => rfl) (eRp_answer (by omega) hx26) ?_
                have hz := Option.some.inj HF
                subst hz
                exact q_rtn 1 (fun _ _ => rfl)
              · rw [if_neg c35] at HF
                refine q_sw (o1 := 95) (pcx := 35) (pc' := 130) (loc' := [some (.inr (.inr (24, 6, 0))), some (.inl a1), some (.inl x5.1)]) (stk' := []) (h' := x5.2) 3 (fun _ _ => rfl) (q_tsD (a := a1) (lo := 0) (hi := 4) (by have z0 := q_neI c31 (a := 0) rfl; have z1 := q_neI c32 (a := 1) rfl; have z2 := q_neI c33 (a := 2) rfl; have z3 := q_neI c34 (a := 3) rfl; have z4 := q_neI c35 (a := 4) rfl; omega)) rfl ?_
                obtain ⟨x27, hx28, HF⟩ := q_bind HF
                refine q_cll (m' := 52) (av := [.inr (.inr (24, 6, 0)), .inl (5 : Int32)]) (st' := [.inr (.inr (24, 6, 0))]) (pc' := 136) (loc' := [some (.inr (.inr (24, 6, 0))), some (.inl a1), some (.inl x5.1)]) (h' := x5.2) 4 (fun _ _ => rfl) (eRp_countGained (by omega) hx28) ?_
                obtain ⟨x29, hx30, HF⟩ := q_bind HF
                refine q_cll (m' := 45) (av := [.inr (.inr (24, 6, 0)), .inl x27]) (st' := []) (pc' := 139) (loc' := [some (.inr (.inr (24, 6, 0))), some (.inl a1), some (.inl x5.1)]) (h' := x5.2) 1 (fun _ _ => rfl) (eRp_answer (by omega) hx30) ?_
                have hz := Option.some.inj HF
                subst hz
                exact q_rtn 1 (fun _ _ => rfl)
    · rw [if_neg c38] at HF
      obtain ⟨x36, hx37, HF⟩ := q_bind HF
      refine q_cll (m' := 46) (av := [.inr (.inr (24, 6, 0)), .inl (1 : Int32)]) (st' := []) (pc' := 14) (loc' := [some (.inr (.inr (24, 6, 0))), some (.inl a1), none]) (h' := h) 3 (fun _ _ => rfl) (eRp_refuse (by omega) hx37) ?_
      have hz := Option.some.inj HF
      subst hz
      exact q_rtn 1 (fun _ _ => rfl)
def Rp_most (a1 : Int32) (h : q_H) : Option (Int32 × q_H) :=
  (Rp_isPage a1 h).bind fun x1 => if ¬ x1 = 0 then ((St_copyFrom 1 0 h).bind fun x3 => (Tn_endAll 1 x3).bind fun x5 => (St_vacuumAll 1 x5).bind fun x7 => (Pg_freeOf 1 a1 x7.2).bind fun x9 => (Rp_answer x9 x7.2).bind fun x11 => some ((x11.1, x11.2))) else ((Rp_refuse (2 : Int32) h).bind fun x13 => some ((x13.1, x13.2)))
set_option maxRecDepth 100000 in
set_option maxHeartbeats 4000000 in
theorem eRp_most {d : Nat} (hd : 6 ≤ d) {a1 : Int32} {h : q_H} {r : (Int32 × q_H)} (HF : Rp_most a1 h = some r) : q_T d 44 [.inr (.inr (24, 6, 0)), .inl a1] h (some (.inl r.1), r.2) := by
  obtain ⟨d, rfl⟩ : ∃ d', d = d' + 1 := ⟨d - 1, by omega⟩
  refine q_ent q_K44 rfl rfl rfl ?_
  unfold Rp_most at HF
  obtain ⟨x1, hx2, HF⟩ := q_bind HF
  refine q_cll (m' := 56) (av := [.inl a1]) (st' := []) (pc' := 4) (loc' := [some (.inr (.inr (24, 6, 0))), some (.inl a1)]) (h' := h) 2 (fun _ _ => rfl) (eRp_isPage (by omega) hx2) ?_
  refine q_br (P := ¬ x1 = 0) (pcT := 13) (pcF := 7) (loc' := [some (.inr (.inr (24, 6, 0))), some (.inl a1)]) (stk' := []) (h' := h) 1 (fun _ _ => rfl) (fun c15 => ?_) (fun c15 => ?_)
  · rw [if_pos c15] at HF
    obtain ⟨x3, hx4, HF⟩ := q_bind HF
    refine q_cll (m' := 142) (av := [.inr (.inr (0, 1, 0)), .inr (.inr (0, 0, 0))]) (st' := []) (pc' := 24) (loc' := [some (.inr (.inr (24, 6, 0))), some (.inl a1)]) (h' := h) 5 (fun _ _ => rfl) (eSt_copyFrom (by omega) hx4) ?_
    obtain ⟨x5, hx6, HF⟩ := q_bind HF
    refine q_cll (m' := 114) (av := [.inr (.inr (6, 1, 0))]) (st' := []) (pc' := 34) (loc' := [some (.inr (.inr (24, 6, 0))), some (.inl a1)]) (h' := x3) 4 (fun _ _ => rfl) (eTn_endAll (by omega) hx6) ?_
    obtain ⟨x7, hx8, HF⟩ := q_bind HF
    refine q_cll (m' := 166) (av := [.inr (.inr (0, 1, 0))]) (st' := []) (pc' := 41) (loc' := [some (.inr (.inr (24, 6, 0))), some (.inl a1)]) (h' := x5) 3 (fun _ _ => rfl) (eSt_vacuumAll (by omega) hx8) ?_
    obtain ⟨x9, hx10, HF⟩ := q_bind HF
    refine q_cll (m' := 94) (av := [.inr (.inr (1, 1, 0)), .inl a1]) (st' := [.inr (.inr (24, 6, 0))]) (pc' := 54) (loc' := [some (.inr (.inr (24, 6, 0))), some (.inl a1)]) (h' := x7.2) 7 (fun _ _ => rfl) (ePg_freeOf (by omega) hx10) ?_
    obtain ⟨x11, hx12, HF⟩ := q_bind HF
    refine q_cll (m' := 45) (av := [.inr (.inr (24, 6, 0)), .inl x9]) (st' := []) (pc' := 57) (loc' := [some (.inr (.inr (24, 6, 0))), some (.inl a1)]) (h' := x7.2) 1 (fun _ _ => rfl) (eRp_answer (by omega) hx12) ?_
    have hz := Option.some.inj HF
    subst hz
    exact q_rtn 1 (fun _ _ => rfl)
  · rw [if_neg c15] at HF
    obtain ⟨x13, hx14, HF⟩ := q_bind HF
    refine q_cll (m' := 46) (av := [.inr (.inr (24, 6, 0)), .inl (2 : Int32)]) (st' := []) (pc' := 12) (loc' := [some (.inr (.inr (24, 6, 0))), some (.inl a1)]) (h' := h) 3 (fun _ _ => rfl) (eRp_refuse (by omega) hx14) ?_
    have hz := Option.some.inj HF
    subst hz
    exact q_rtn 1 (fun _ _ => rfl)
def Rp_addFirstRow (a1 : Int32) (a2 : Int32) (a3 : Int32) (h : q_H) : Option q_H :=
  (Pg_firstPlace 0 a3 h).bind fun x1 => if (40 : Int32) ≤ (h.1 0 7 0 0) then ((Rp_refuse (3 : Int32) h).bind fun x3 => some (x3.2)) else (if ¬ x1 = (-1 : Int32) then ((St_addRow 0 x1 a1 a2 a3 (1 : Int32) h).bind fun x5 => some (x5.2)) else ((Rp_refuse (3 : Int32) h).bind fun x7 => some (x7.2)))
set_option maxRecDepth 100000 in
set_option maxHeartbeats 4000000 in
theorem eRp_addFirstRow {d : Nat} (hd : 6 ≤ d) {a1 : Int32} {a2 : Int32} {a3 : Int32} {h : q_H} {r : q_H} (HF : Rp_addFirstRow a1 a2 a3 h = some r) : q_T d 54 [.inr (.inr (24, 6, 0)), .inl a1, .inl a2, .inl a3] h (none, r) := by
  obtain ⟨d, rfl⟩ : ∃ d', d = d' + 1 := ⟨d - 1, by omega⟩
  refine q_ent q_K54 rfl rfl rfl ?_
  unfold Rp_addFirstRow at HF
  obtain ⟨x1, hx2, HF⟩ := q_bind HF
  refine q_cll (m' := 100) (av := [.inr (.inr (1, 0, 0)), .inl a3]) (st' := []) (pc' := 11) (loc' := [some (.inr (.inr (24, 6, 0))), some (.inl a1), some (.inl a2), some (.inl a3), none]) (h' := h) 5 (fun _ _ => rfl) (ePg_firstPlace (by omega) hx2) ?_
  refine q_br (P := (40 : Int32) ≤ (h.1 0 7 0 0)) (pcT := 31) (pcF := 25) (loc' := [some (.inr (.inr (24, 6, 0))), some (.inl a1), some (.inl a2), some (.inl a3), some (.inl x1)]) (stk' := []) (h' := h) 6 (fun _ _ => rfl) (fun c10 => ?_) (fun c10 => ?_)
  · rw [if_pos c10] at HF
    obtain ⟨x3, hx4, HF⟩ := q_bind HF
    refine q_cll (m' := 46) (av := [.inr (.inr (24, 6, 0)), .inl (3 : Int32)]) (st' := []) (pc' := 36) (loc' := [some (.inr (.inr (24, 6, 0))), some (.inl a1), some (.inl a2), some (.inl a3), some (.inl x1)]) (h' := h) 3 (fun _ _ => rfl) (eRp_refuse (by omega) hx4) ?_
    have hz := Option.some.inj HF
    subst hz
    exact q_rtn 3 (fun _ _ => rfl)
  · rw [if_neg c10] at HF
    refine q_br (P := ¬ x1 = (-1 : Int32)) (pcT := 40) (pcF := 31) (loc' := [some (.inr (.inr (24, 6, 0))), some (.inl a1), some (.inl a2), some (.inl a3), some (.inl x1)]) (stk' := []) (h' := h) 3 (fun _ _ => rfl) (fun c9 => ?_) (fun c9 => ?_)
    · rw [if_pos c9] at HF
      obtain ⟨x5, hx6, HF⟩ := q_bind HF
      refine q_cll (m' := 160) (av := [.inr (.inr (0, 0, 0)), .inl x1, .inl a1, .inl a2, .inl a3, .inl (1 : Int32)]) (st' := []) (pc' := 53) (loc' := [some (.inr (.inr (24, 6, 0))), some (.inl a1), some (.inl a2), some (.inl a3), some (.inl x1)]) (h' := h) 8 (fun _ _ => rfl) (eSt_addRow (by omega) hx6) ?_
      have hz := Option.some.inj HF
      subst hz
      exact q_rtn 2 (fun _ _ => rfl)
    · rw [if_neg c9] at HF
      obtain ⟨x7, hx8, HF⟩ := q_bind HF
      refine q_cll (m' := 46) (av := [.inr (.inr (24, 6, 0)), .inl (3 : Int32)]) (st' := []) (pc' := 36) (loc' := [some (.inr (.inr (24, 6, 0))), some (.inl a1), some (.inl a2), some (.inl a3), some (.inl x1)]) (h' := h) 3 (fun _ _ => rfl) (eRp_refuse (by omega) hx8) ?_
      have hz := Option.some.inj HF
      subst hz
      exact q_rtn 3 (fun _ _ => rfl)
def Tx_readNumbers  (h : q_H) : Option (Int32 × q_H) :=
  (q_lp (fun s1 : Int32 × q_H => ((Tx_numbersOf (s1.2.1 25 7 6 0) s1.2).bind fun x9 => if x9 ≤ s1.1 then (some (.inr (((1 : Int32), s1.2)))) else ((Tx_readKind (2 : Int32) s1.2).bind fun x11 => if ¬ x11.1 = 0 then ((Tx_canBe s1.1 x11.2).bind fun x13 => if ¬ x13 = 0 then ((Rp_put 27 6 s1.1 (x11.2.1 25 6 6 0) x11.2).bind fun x15 => some (.inl ((s1.1 + (1 : Int32)), x15))) else ((Tx_blame (4 : Int32) (x11.2.1 25 5 6 0) x11.2).bind fun x17 => some (.inr (((0 : Int32), x17))))) else (some (.inr (((0 : Int32), x11.2))))) : Option ((Int32 × q_H) ⊕ (Int32 × q_H)))) q_fu (((0 : Int32), h) : Int32 × q_H)).bind fun z8 => some z8
set_option maxRecDepth 100000 in
set_option maxHeartbeats 4000000 in
theorem eTx_readNumbers {d : Nat} (hd : 6 ≤ d)  {h : q_H} {r : (Int32 × q_H)} (HF : Tx_readNumbers  h = some r) : q_T d 130 [.inr (.inr (25, 6, 0))] h (some (.inl r.1), r.2) := by
  obtain ⟨d, rfl⟩ : ∃ d', d = d' + 1 := ⟨d - 1, by omega⟩
  refine q_ent q_K130 rfl rfl rfl ?_
  unfold Tx_readNumbers at HF
  refine q_blk (pc' := 2) (loc' := [some (.inr (.inr (25, 6, 0))), some (.inl (0 : Int32))]) (stk' := []) (h' := h) 2 (fun _ _ => rfl) ?_
  obtain ⟨r6, hl7, HK4⟩ := q_bind HF
  refine q_lpE (E := fun s1 => q_E d q_K130 2 [some (.inr (.inr (25, 6, 0))), some (.inl s1.1)] [] s1.2 (some (.inl r.1), r.2)) r6 (fun s1 z8 HF H12 H23 => ?_) _ _ hl7
  obtain ⟨x9, hx10, HF⟩ := q_bind HF
  refine q_cll (m' := 140) (av := [.inl (s1.2.1 25 7 6 0)]) (st' := [.inl s1.1]) (pc' := 10) (loc' := [some (.inr (.inr (25, 6, 0))), some (.inl s1.1)]) (h' := s1.2) 4 (fun _ _ => rfl) (eTx_numbersOf (by omega) hx10) ?_
  refine q_br (P := x9 ≤ s1.1) (pcT := 60) (pcF := 13) (loc' := [some (.inr (.inr (25, 6, 0))), some (.inl s1.1)]) (stk' := []) (h' := s1.2) 1 (fun _ _ => rfl) (fun c21 => ?_) (fun c21 => ?_)
  · rw [if_pos c21] at HF
    have hz := Option.some.inj HF
    subst hz
    replace HF := HK4
    rw [← H23 _ rfl] at HF
    have hz := Option.some.inj HF
    subst hz
    exact q_rtn 2 (fun _ _ => rfl)
  · rw [if_neg c21] at HF
    obtain ⟨x11, hx12, HF⟩ := q_bind HF
    refine q_cll (m' := 132) (av := [.inr (.inr (25, 6, 0)), .inl (2 : Int32)]) (st' := []) (pc' := 18) (loc' := [some (.inr (.inr (25, 6, 0))), some (.inl s1.1)]) (h' := s1.2) 3 (fun _ _ => rfl) (eTx_readKind (by omega) hx12) ?_
    refine q_br (P := ¬ x11.1 = 0) (pcT := 23) (pcF := 21) (loc' := [some (.inr (.inr (25, 6, 0))), some (.inl s1.1)]) (stk' := []) (h' := x11.2) 1 (fun _ _ => rfl) (fun c20 => ?_) (fun c20 => ?_)
    · rw [if_pos c20] at HF
      obtain ⟨x13, hx14, HF⟩ := q_bind HF
      refine q_cll (m' := 131) (av := [.inr (.inr (25, 6, 0)), .inl s1.1]) (st' := []) (pc' := 28) (loc' := [some (.inr (.inr (25, 6, 0))), some (.inl s1.1)]) (h' := x11.2) 3 (fun _ _ => rfl) (eTx_canBe (by omega) hx14) ?_
      refine q_br (P := ¬ x13 = 0) (pcT := 42) (pcF := 31) (loc' := [some (.inr (.inr (25, 6, 0))), some (.inl s1.1)]) (stk' := []) (h' := x11.2) 1 (fun _ _ => rfl) (fun c19 => ?_) (fun c19 => ?_)
      · rw [if_pos c19] at HF
        obtain ⟨x15, hx16, HF⟩ := q_bind HF
        refine q_cll (m' := 61) (av := [.inr (.inr (27, 6, 0)), .inl s1.1, .inl (x11.2.1 25 6 6 0)]) (st' := []) (pc' := 54) (loc' := [some (.inr (.inr (25, 6, 0))), some (.inl s1.1)]) (h' := x11.2) 6 (fun _ _ => rfl) (eRp_put (by omega) hx16) ?_
        refine q_blk (pc' := 2) (loc' := [some (.inr (.inr (25, 6, 0))), some (.inl (s1.1 + (1 : Int32)))]) (stk' := []) (h' := x15) 2 (fun _ _ => rfl) ?_
        have hz := Option.some.inj HF
        subst hz
        exact H12 ((s1.1 + (1 : Int32)), x15) rfl
      · rw [if_neg c19] at HF
        obtain ⟨x17, hx18, HF⟩ := q_bind HF
        refine q_cll (m' := 125) (av := [.inr (.inr (25, 6, 0)), .inl (4 : Int32), .inl (x11.2.1 25 5 6 0)]) (st' := []) (pc' := 40) (loc' := [some (.inr (.inr (25, 6, 0))), some (.inl s1.1)]) (h' := x11.2) 5 (fun _ _ => rfl) (eTx_blame (by omega) hx18) ?_
        have hz := Option.some.inj HF
        subst hz
        replace HF := HK4
        rw [← H23 _ rfl] at HF
        have hz := Option.some.inj HF
        subst hz
        exact q_rtn 2 (fun _ _ => rfl)
    · rw [if_neg c20] at HF
      have hz := Option.some.inj HF
      subst hz
      replace HF := HK4
      rw [← H23 _ rfl] at HF
      have hz := Option.some.inj HF
      subst hz
      exact q_rtn 2 (fun _ _ => rfl)
def Tx_isSpelled (i1 : Nat) (h : q_H) : Option Int32 :=
  (q_slen i1).bind fun x1 => if x1 = ((h.1 25 3 6 0) - (h.1 25 5 6 0)) then ((q_lp (fun s3 : Int32 => ((q_slen i1).bind fun x11 => if x11 ≤ s3 then (some (.inr ((1 : Int32)))) else ((q_sch i1 s3).bind fun x13 => (Tx_byteAt ((h.1 25 5 6 0) + s3) h).bind fun x15 => if x13 = x15 then (some (.inl (s3 + (1 : Int32)))) else (some (.inr ((0 : Int32))))) : Option ((Int32) ⊕ Int32))) q_fu ((0 : Int32) : Int32)).bind fun z10 => some z10) else (some ((0 : Int32)))
set_option maxRecDepth 100000 in
set_option maxHeartbeats 4000000 in
theorem eTx_isSpelled {d : Nat} (hd : 6 ≤ d) {i1 : Nat} {h : q_H} {r : Int32} (HF : Tx_isSpelled i1 h = some r) : q_T d 139 [.inr (.inr (25, 6, 0)), .inr (.inr (60, 0, i1))] h (some (.inl r), h) := by
  obtain ⟨d, rfl⟩ : ∃ d', d = d' + 1 := ⟨d - 1, by omega⟩
  refine q_ent q_K139 rfl rfl rfl ?_
  unfold Tx_isSpelled at HF
  obtain ⟨x1, hx2, HF⟩ := q_bind HF
  refine q_cll (m' := 1) (av := [.inr (.inr (60, 0, i1))]) (st' := []) (pc' := 4) (loc' := [some (.inr (.inr (25, 6, 0))), some (.inr (.inr (60, 0, i1))), none]) (h' := h) 2 (fun _ _ => rfl) (eStr1 (by omega) hx2) ?_
  refine q_br (P := x1 = ((h.1 25 3 6 0) - (h.1 25 5 6 0))) (pcT := 18) (pcF := 16) (loc' := [some (.inr (.inr (25, 6, 0))), some (.inr (.inr (60, 0, i1))), none]) (stk' := []) (h' := h) 6 (fun _ _ => rfl) (fun c19 => ?_) (fun c19 => ?_)
  · rw [if_pos c19] at HF
    refine q_blk (pc' := 20) (loc' := [some (.inr (.inr (25, 6, 0))), some (.inr (.inr (60, 0, i1))), some (.inl (0 : Int32))]) (stk' := []) (h' := h) 2 (fun _ _ => rfl) ?_
    obtain ⟨r8, hl9, HK6⟩ := q_bind HF
    refine q_lpE (E := fun s3 => q_E d q_K139 20 [some (.inr (.inr (25, 6, 0))), some (.inr (.inr (60, 0, i1))), some (.inl s3)] [] h (some (.inl r), h)) r8 (fun s3 z10 HF H14 H25 => ?_) _ _ hl9
    obtain ⟨x11, hx12, HF⟩ := q_bind HF
    refine q_cll (m' := 1) (av := [.inr (.inr (60, 0, i1))]) (st' := [.inl s3]) (pc' := 25) (loc' := [some (.inr (.inr (25, 6, 0))), some (.inr (.inr (60, 0, i1))), some (.inl s3)]) (h' := h) 3 (fun _ _ => rfl) (eStr1 (by omega) hx12) ?_
    refine q_br (P := x11 ≤ s3) (pcT := 54) (pcF := 28) (loc' := [some (.inr (.inr (25, 6, 0))), some (.inr (.inr (60, 0, i1))), some (.inl s3)]) (stk' := []) (h' := h) 1 (fun _ _ => rfl) (fun c18 => ?_) (fun c18 => ?_)
    · rw [if_pos c18] at HF
      have hz := Option.some.inj HF
      subst hz
      replace HF := HK6
      rw [← H25 _ rfl] at HF
      have hz := Option.some.inj HF
      subst hz
      exact q_rtn 2 (fun _ _ => rfl)
    · rw [if_neg c18] at HF
      obtain ⟨x13, hx14, HF⟩ := q_bind HF
      refine q_cll (m' := 2) (av := [.inr (.inr (60, 0, i1)), .inl s3]) (st' := []) (pc' := 33) (loc' := [some (.inr (.inr (25, 6, 0))), some (.inr (.inr (60, 0, i1))), some (.inl s3)]) (h' := h) 3 (fun _ _ => rfl) (eStr2 (by omega) hx14) ?_
      obtain ⟨x15, hx16, HF⟩ := q_bind HF
      refine q_cll (m' := 134) (av := [.inr (.inr (25, 6, 0)), .inl ((h.1 25 5 6 0) + s3)]) (st' := [.inl x13]) (pc' := 43) (loc' := [some (.inr (.inr (25, 6, 0))), some (.inr (.inr (60, 0, i1))), some (.inl s3)]) (h' := h) 6 (fun _ _ => rfl) (eTx_byteAt (by omega) hx16) ?_
      refine q_br (P := x13 = x15) (pcT := 48) (pcF := 46) (loc' := [some (.inr (.inr (25, 6, 0))), some (.inr (.inr (60, 0, i1))), some (.inl s3)]) (stk' := []) (h' := h) 1 (fun _ _ => rfl) (fun c17 => ?_) (fun c17 => ?_)
      · rw [if_pos c17] at HF
        refine q_blk (pc' := 20) (loc' := [some (.inr (.inr (25, 6, 0))), some (.inr (.inr (60, 0, i1))), some (.inl (s3 + (1 : Int32)))]) (stk' := []) (h' := h) 2 (fun _ _ => rfl) ?_
        have hz := Option.some.inj HF
        subst hz
        exact H14 (s3 + (1 : Int32)) rfl
      · rw [if_neg c17] at HF
        have hz := Option.some.inj HF
        subst hz
        replace HF := HK6
        rw [← H25 _ rfl] at HF
        have hz := Option.some.inj HF
        subst hz
        exact q_rtn 2 (fun _ _ => rfl)
  · rw [if_neg c19] at HF
    have hz := Option.some.inj HF
    subst hz
    exact q_rtn 2 (fun _ _ => rfl)
def Mo_prunes (a1 : Int32) (h : q_H) : Option (Int32 × q_H) :=
  (Mo_horizon h).bind fun x1 => bif q_in ((17 : Int32) + a1) 1644 then ((q_lp (fun s3 : Int32 × Int32 × q_H => (if (((10 : Int32) * a1) + (h.1 31 0 7 ((17 : Int32) + a1).toNatClampNeg)) ≤ s3.2.1 then (some (.inr ((s3.1, s3.2.2)))) else ((Mo_of s3.2.1 (0 : Int32) s3.2.2).bind fun x11 => Option.bind (α := Int32 × q_H) (if x11 = (2 : Int32) then ((Mo_cuts s3.2.1 x1 s3.2.2).bind fun x17 => some (((s3.1 + x17.1), x17.2))) else ((Mo_isFull s3.2.1 s3.2.2).bind fun x19 => if x19 = 0 then (some ((s3.1, s3.2.2))) else ((Mo_of s3.2.1 (10 : Int32) s3.2.2).bind fun x21 => if ¬ x21 = 0 then (some ((s3.1, s3.2.2))) else ((Mo_cuts s3.2.1 x1 s3.2.2).bind fun x23 => some (((s3.1 + x23.1), x23.2)))))) (fun p28 => some (.inl (p28.1, (s3.2.1 + (1 : Int32)), p28.2)))) : Option ((Int32 × Int32 × q_H) ⊕ (Int32 × q_H)))) q_fu (((0 : Int32), ((10 : Int32) * a1), h) : Int32 × Int32 × q_H)).bind fun p31 => (q_lp (fun s32 : Int32 × Int32 × q_H => (if (((10 : Int32) * a1) + (h.1 31 0 7 ((17 : Int32) + a1).toNatClampNeg)) ≤ s32.2.1 then (some (.inr ((s32.1, s32.2.2)))) else ((Mo_isFull s32.2.1 s32.2.2).bind fun x40 => Option.bind (α := Int32 × q_H) (if x40 = 0 then (some ((s32.1, s32.2.2))) else ((Mo_of s32.2.1 (10 : Int32) s32.2.2).bind fun x46 => if x46 = 0 then (some ((s32.1, s32.2.2))) else ((Mo_of s32.2.1 (11 : Int32) s32.2.2).bind fun x48 => if x48 = (1 : Int32) then (some ((s32.1, s32.2.2))) else ((Mo_of s32.2.1 (6 : Int32) s32.2.2).bind fun x50 => (Mo_stateOf x50 s32.2.2).bind fun x52 => if x52 = (2 : Int32) then ((Mo_goes s32.2.1 s32.2.2).bind fun x54 => some (((s32.1 + (1 : Int32)), x54))) else (some ((s32.1, s32.2.2))))))) (fun p60 => some (.inl (p60.1, (s32.2.1 + (1 : Int32)), p60.2)))) : Option ((Int32 × Int32 × q_H) ⊕ (Int32 × q_H)))) q_fu ((p31.1, ((10 : Int32) * a1), p31.2) : Int32 × Int32 × q_H)).bind fun p63 => if ¬ p63.1 = 0 then ((Mo_tellsOf (0 : Int32) a1 (q_si (q_si p63.2 31 0 7 9 ((p63.2.1 31 0 7 9) + (1 : Int32))) 31 0 7 10 (((q_si p63.2 31 0 7 9 ((p63.2.1 31 0 7 9) + (1 : Int32))).1 31 0 7 10) + p63.1))).bind fun x64 => some ((p63.1, x64))) else (some (((0 : Int32), p63.2)))) else none
set_option maxRecDepth 100000 in
set_option maxHeartbeats 4000000 in
theorem eMo_prunes {d : Nat} (hd : 6 ≤ d) {a1 : Int32} {h : q_H} {r : (Int32 × q_H)} (HF : Mo_prunes a1 h = some r) : q_T d 215 [.inr (.inr (30, 7, 0)), .inl a1] h (some (.inl r.1), r.2) := by
  obtain ⟨d, rfl⟩ : ∃ d', d = d' + 1 := ⟨d - 1, by omega⟩
  refine q_ent q_K215 rfl rfl rfl ?_
  unfold Mo_prunes at HF
  obtain ⟨x1, hx2, HF⟩ := q_bind HF
  refine q_cll (m' := 205) (av := [.inr (.inr (30, 7, 0))]) (st' := []) (pc' := 4) (loc' := [some (.inr (.inr (30, 7, 0))), some (.inl a1), none, none, none, none, none]) (h' := h) 2 (fun _ _ => rfl) (eMo_horizon (by omega) hx2) ?_
  obtain ⟨g67, HF⟩ := q_gF HF
  refine q_gd (pc' := 20) (loc' := [some (.inr (.inr (30, 7, 0))), some (.inl a1), some (.inl x1), some (.inl ((10 : Int32) * a1)), none, none, none]) (stk' := [.inl (h.1 31 0 7 ((17 : Int32) + a1).toNatClampNeg), .inl ((10 : Int32) * a1)]) (h' := h) 12 (fun _ _ => rfl) g67 ?_
  refine q_blk (pc' := 29) (loc' := [some (.inr (.inr (30, 7, 0))), some (.inl a1), some (.inl x1), some (.inl ((10 : Int32) * a1)), some (.inl (((10 : Int32) * a1) + (h.1 31 0 7 ((17 : Int32) + a1).toNatClampNeg))), some (.inl (0 : Int32)), some (.inl ((10 : Int32) * a1))]) (stk' := []) (h' := h) 6 (fun _ _ => rfl) ?_
  obtain ⟨r8, hl9, HK6⟩ := q_bind HF
  have hP7 : ∀ p31 : Int32 × q_H, ((q_lp (fun s32 : Int32 × Int32 × q_H => (if (((10 : Int32) * a1) + (h.1 31 0 7 ((17 : Int32) + a1).toNatClampNeg)) ≤ s32.2.1 then (some (.inr ((s32.1, s32.2.2)))) else ((Mo_isFull s32.2.1 s32.2.2).bind fun x40 => Option.bind (α := Int32 × q_H) (if x40 = 0 then (some ((s32.1, s32.2.2))) else ((Mo_of s32.2.1 (10 : Int32) s32.2.2).bind fun x46 => if x46 = 0 then (some ((s32.1, s32.2.2))) else ((Mo_of s32.2.1 (11 : Int32) s32.2.2).bind fun x48 => if x48 = (1 : Int32) then (some ((s32.1, s32.2.2))) else ((Mo_of s32.2.1 (6 : Int32) s32.2.2).bind fun x50 => (Mo_stateOf x50 s32.2.2).bind fun x52 => if x52 = (2 : Int32) then ((Mo_goes s32.2.1 s32.2.2).bind fun x54 => some (((s32.1 + (1 : Int32)), x54))) else (some ((s32.1, s32.2.2))))))) (fun p60 => some (.inl (p60.1, (s32.2.1 + (1 : Int32)), p60.2)))) : Option ((Int32 × Int32 × q_H) ⊕ (Int32 × q_H)))) q_fu ((p31.1, ((10 : Int32) * a1), p31.2) : Int32 × Int32 × q_H)).bind fun p63 => if ¬ p63.1 = 0 then ((Mo_tellsOf (0 : Int32) a1 (q_si (q_si p63.2 31 0 7 9 ((p63.2.1 31 0 7 9) + (1 : Int32))) 31 0 7 10 (((q_si p63.2 31 0 7 9 ((p63.2.1 31 0 7 9) + (1 : Int32))).1 31 0 7 10) + p63.1))).bind fun x64 => some ((p63.1, x64))) else (some (((0 : Int32), p63.2))) : Option (Int32 × q_H)) = some r → q_E d q_K215 85 [some (.inr (.inr (30, 7, 0))), some (.inl a1), some (.inl x1), some (.inl ((10 : Int32) * a1)), some (.inl (((10 : Int32) * a1) + (h.1 31 0 7 ((17 : Int32) + a1).toNatClampNeg))), some (.inl p31.1), none] [] p31.2 (some (.inl r.1), r.2) := by
    intro p31 HF
    refine q_blk (pc' := 88) (loc' := [some (.inr (.inr (30, 7, 0))), some (.inl a1), some (.inl x1), some (.inl ((10 : Int32) * a1)), some (.inl (((10 : Int32) * a1) + (h.1 31 0 7 ((17 : Int32) + a1).toNatClampNeg))), some (.inl p31.1), some (.inl ((10 : Int32) * a1))]) (stk' := []) (h' := p31.2) 2 (fun _ _ => rfl) ?_
    obtain ⟨r37, hl38, HK35⟩ := q_bind HF
    have hP36 : ∀ p63 : Int32 × q_H, (if ¬ p63.1 = 0 then ((Mo_tellsOf (0 : Int32) a1 (q_si (q_si p63.2 31 0 7 9 ((p63.2.1 31 0 7 9) + (1 : Int32))) 31 0 7 10 (((q_si p63.2 31 0 7 9 ((p63.2.1 31 0 7 9) + (1 : Int32))).1 31 0 7 10) + p63.1))).bind fun x64 => some ((p63.1, x64))) else (some (((0 : Int32), p63.2))) : Option (Int32 × q_H)) = some r → q_E d q_K215 161 [some (.inr (.inr (30, 7, 0))), some (.inl a1), some (.inl x1), some (.inl ((10 : Int32) * a1)), some (.inl (((10 : Int32) * a1) + (h.1 31 0 7 ((17 : Int32) + a1).toNatClampNeg))), some (.inl p63.1), none] [] p63.2 (some (.inl r.1), r.2) := by
      intro p63 HF
      refine q_br (P := ¬ p63.1 = 0) (pcT := 168) (pcF := 166) (loc' := [some (.inr (.inr (30, 7, 0))), some (.inl a1), some (.inl x1), some (.inl ((10 : Int32) * a1)), some (.inl (((10 : Int32) * a1) + (h.1 31 0 7 ((17 : Int32) + a1).toNatClampNeg))), some (.inl p63.1), none]) (stk' := []) (h' := p63.2) 2 (fun _ _ => rfl) (fun c66 => ?_) (fun c66 => ?_)
      · rw [if_pos c66] at HF
        obtain ⟨x64, hx65, HF⟩ := q_bind HF
        refine q_cll (m' := 212) (av := [.inr (.inr (30, 7, 0)), .inl (0 : Int32), .inl a1]) (st' := []) (pc' := 197) (loc' := [some (.inr (.inr (30, 7, 0))), some (.inl a1), some (.inl x1), some (.inl ((10 : Int32) * a1)), some (.inl (((10 : Int32) * a1) + (h.1 31 0 7 ((17 : Int32) + a1).toNatClampNeg))), some (.inl p63.1), none]) (h' := (q_si (q_si p63.2 31 0 7 9 ((p63.2.1 31 0 7 9) + (1 : Int32))) 31 0 7 10 (((q_si p63.2 31 0 7 9 ((p63.2.1 31 0 7 9) + (1 : Int32))).1 31 0 7 10) + p63.1))) 20 (fun _ _ => rfl) (eMo_tellsOf (by omega) hx65) ?_
        have hz := Option.some.inj HF
        subst hz
        exact q_rtn 2 (fun _ _ => rfl)
      · rw [if_neg c66] at HF
        have hz := Option.some.inj HF
        subst hz
        exact q_rtn 2 (fun _ _ => rfl)
    refine q_lpE (E := fun s32 => q_E d q_K215 88 [some (.inr (.inr (30, 7, 0))), some (.inl a1), some (.inl x1), some (.inl ((10 : Int32) * a1)), some (.inl (((10 : Int32) * a1) + (h.1 31 0 7 ((17 : Int32) + a1).toNatClampNeg))), some (.inl s32.1), some (.inl s32.2.1)] [] s32.2.2 (some (.inl r.1), r.2)) r37 (fun s32 z39 HF H133 H234 => ?_) _ _ hl38
    refine q_br (P := (((10 : Int32) * a1) + (h.1 31 0 7 ((17 : Int32) + a1).toNatClampNeg)) ≤ s32.2.1) (pcT := 161) (pcF := 95) (loc' := [some (.inr (.inr (30, 7, 0))), some (.inl a1), some (.inl x1), some (.inl ((10 : Int32) * a1)), some (.inl (((10 : Int32) * a1) + (h.1 31 0 7 ((17 : Int32) + a1).toNatClampNeg))), some (.inl s32.1), some (.inl s32.2.1)]) (stk' := []) (h' := s32.2.2) 3 (fun _ _ => rfl) (fun c62 => ?_) (fun c62 => ?_)
    · rw [if_pos c62] at HF
      have hz := Option.some.inj HF
      subst hz
      rw [← H234 _ rfl] at HK35
      exact q_wk (loc := [some (.inr (.inr (30, 7, 0))), some (.inl a1), some (.inl x1), some (.inl ((10 : Int32) * a1)), some (.inl (((10 : Int32) * a1) + (h.1 31 0 7 ((17 : Int32) + a1).toNatClampNeg))), some (.inl s32.1), none]) ⟨Or.inl rfl, ⟨Or.inl rfl, ⟨Or.inl rfl, ⟨Or.inl rfl, ⟨Or.inl rfl, ⟨Or.inl rfl, ⟨Or.inr ⟨rfl, fun _ h => by cases h⟩, trivial⟩⟩⟩⟩⟩⟩⟩ (hP36 (s32.1, s32.2.2) HK35)
    · rw [if_neg c62] at HF
      obtain ⟨x40, hx41, HF⟩ := q_bind HF
      refine q_cll (m' := 189) (av := [.inr (.inr (30, 7, 0)), .inl s32.2.1]) (st' := []) (pc' := 101) (loc' := [some (.inr (.inr (30, 7, 0))), some (.inl a1), some (.inl x1), some (.inl ((10 : Int32) * a1)), some (.inl (((10 : Int32) * a1) + (h.1 31 0 7 ((17 : Int32) + a1).toNatClampNeg))), some (.inl s32.1), some (.inl s32.2.1)]) (h' := s32.2.2) 3 (fun _ _ => rfl) (eMo_isFull (by omega) hx41) ?_
      obtain ⟨z42, HA43, HK44⟩ := q_bind HF
      have hP45 : ∀ p60 : Int32 × q_H, (some (.inl (p60.1, (s32.2.1 + (1 : Int32)), p60.2)) : Option ((Int32 × Int32 × q_H) ⊕ (Int32 × q_H))) = some z39 → q_E d q_K215 155 [some (.inr (.inr (30, 7, 0))), some (.inl a1), some (.inl x1), some (.inl ((10 : Int32) * a1)), some (.inl (((10 : Int32) * a1) + (h.1 31 0 7 ((17 : Int32) + a1).toNatClampNeg))), some (.inl p60.1), some (.inl s32.2.1)] [] p60.2 (some (.inl r.1), r.2) := by
        intro p60 HF
        refine q_blk (pc' := 88) (loc' := [some (.inr (.inr (30, 7, 0))), some (.inl a1), some (.inl x1), some (.inl ((10 : Int32) * a1)), some (.inl (((10 : Int32) * a1) + (h.1 31 0 7 ((17 : Int32) + a1).toNatClampNeg))), some (.inl p60.1), some (.inl (s32.2.1 + (1 : Int32)))]) (stk' := []) (h' := p60.2) 2 (fun _ _ => rfl) ?_
        have hz := Option.some.inj HF
        subst hz
        exact H133 (p60.1, (s32.2.1 + (1 : Int32)), p60.2) rfl
      replace HF := HA43
      refine q_br (P := x40 = 0) (pcT := 155) (pcF := 104) (loc' := [some (.inr (.inr (30, 7, 0))), some (.inl a1), some (.inl x1), some (.inl ((10 : Int32) * a1)), some (.inl (((10 : Int32) * a1) + (h.1 31 0 7 ((17 : Int32) + a1).toNatClampNeg))), some (.inl s32.1), some (.inl s32.2.1)]) (stk' := []) (h' := s32.2.2) 1 (fun _ _ => rfl) (fun c59 => ?_) (fun c59 => ?_)
      · rw [if_pos c59] at HF
        have hz := Option.some.inj HF
        subst hz
        exact hP45 (s32.1, s32.2.2) HK44
      · rw [if_neg c59] at HF
        obtain ⟨x46, hx47, HF⟩ := q_bind HF
        refine q_cll (m' := 187) (av := [.inr (.inr (30, 7, 0)), .inl s32.2.1, .inl (10 : Int32)]) (st' := []) (pc' := 112) (loc' := [some (.inr (.inr (30, 7, 0))), some (.inl a1), some (.inl x1), some (.inl ((10 : Int32) * a1)), some (.inl (((10 : Int32) * a1) + (h.1 31 0 7 ((17 : Int32) + a1).toNatClampNeg))), some (.inl s32.1), some (.inl s32.2.1)]) (h' := s32.2.2) 4 (fun _ _ => rfl) (eMo_of (by omega) hx47) ?_
        refine q_br (P := x46 = 0) (pcT := 155) (pcF := 115) (loc' := [some (.inr (.inr (30, 7, 0))), some (.inl a1), some (.inl x1), some (.inl ((10 : Int32) * a1)), some (.inl (((10 : Int32) * a1) + (h.1 31 0 7 ((17 : Int32) + a1).toNatClampNeg))), some (.inl s32.1), some (.inl s32.2.1)]) (stk' := []) (h' := s32.2.2) 1 (fun _ _ => rfl) (fun c58 => ?_) (fun c58 => ?_)
        · rw [if_pos c58] at HF
          have hz := Option.some.inj HF
          subst hz
          exact hP45 (s32.1, s32.2.2) HK44
        · rw [if_neg c58] at HF
          obtain ⟨x48, hx49, HF⟩ := q_bind HF
          refine q_cll (m' := 187) (av := [.inr (.inr (30, 7, 0)), .inl s32.2.1, .inl (11 : Int32)]) (st' := []) (pc' := 123) (loc' := [some (.inr (.inr (30, 7, 0))), some (.inl a1), some (.inl x1), some (.inl ((10 : Int32) * a1)), some (.inl (((10 : Int32) * a1) + (h.1 31 0 7 ((17 : Int32) + a1).toNatClampNeg))), some (.inl s32.1), some (.inl s32.2.1)]) (h' := s32.2.2) 4 (fun _ _ => rfl) (eMo_of (by omega) hx49) ?_
          refine q_br (P := x48 = (1 : Int32)) (pcT := 155) (pcF := 127) (loc' := [some (.inr (.inr (30, 7, 0))), some (.inl a1), some (.inl x1), some (.inl ((10 : Int32) * a1)), some (.inl (((10 : Int32) * a1) + (h.1 31 0 7 ((17 : Int32) + a1).toNatClampNeg))), some (.inl s32.1), some (.inl s32.2.1)]) (stk' := []) (h' := s32.2.2) 2 (fun _ _ => rfl) (fun c57 => ?_) (fun c57 => ?_)
          · rw [if_pos c57] at HF
            have hz := Option.some.inj HF
            subst hz
            exact hP45 (s32.1, s32.2.2) HK44
          · rw [if_neg c57] at HF
            obtain ⟨x50, hx51, HF⟩ := q_bind HF
            refine q_cll (m' := 187) (av := [.inr (.inr (30, 7, 0)), .inl s32.2.1, .inl (6 : Int32)]) (st' := [.inr (.inr (30, 7, 0))]) (pc' := 136) (loc' := [some (.inr (.inr (30, 7, 0))), some (.inl a1), some (.inl x1), some (.inl ((10 : Int32) * a1)), some (.inl (((10 : Int32) * a1) + (h.1 31 0 7 ((17 : Int32) + a1).toNatClampNeg))), some (.inl s32.1), some (.inl s32.2.1)]) (h' := s32.2.2) 5 (fun _ _ => rfl) (eMo_of (by omega) hx51) ?_
            obtain ⟨x52, hx53, HF⟩ := q_bind HF
            refine q_cll (m' := 196) (av := [.inr (.inr (30, 7, 0)), .inl x50]) (st' := []) (pc' := 139) (loc' := [some (.inr (.inr (30, 7, 0))), some (.inl a1), some (.inl x1), some (.inl ((10 : Int32) * a1)), some (.inl (((10 : Int32) * a1) + (h.1 31 0 7 ((17 : Int32) + a1).toNatClampNeg))), some (.inl s32.1), some (.inl s32.2.1)]) (h' := s32.2.2) 1 (fun _ _ => rfl) (eMo_stateOf (by omega) hx53) ?_
            refine q_br (P := x52 = (2 : Int32)) (pcT := 146) (pcF := 143) (loc' := [some (.inr (.inr (30, 7, 0))), some (.inl a1), some (.inl x1), some (.inl ((10 : Int32) * a1)), some (.inl (((10 : Int32) * a1) + (h.1 31 0 7 ((17 : Int32) + a1).toNatClampNeg))), some (.inl s32.1), some (.inl s32.2.1)]) (stk' := []) (h' := s32.2.2) 2 (fun _ _ => rfl) (fun c56 => ?_) (fun c56 => ?_)
            · rw [if_pos c56] at HF
              obtain ⟨x54, hx55, HF⟩ := q_bind HF
              refine q_cll (m' := 213) (av := [.inr (.inr (30, 7, 0)), .inl s32.2.1]) (st' := []) (pc' := 152) (loc' := [some (.inr (.inr (30, 7, 0))), some (.inl a1), some (.inl x1), some (.inl ((10 : Int32) * a1)), some (.inl (((10 : Int32) * a1) + (h.1 31 0 7 ((17 : Int32) + a1).toNatClampNeg))), some (.inl s32.1), some (.inl s32.2.1)]) (h' := s32.2.2) 3 (fun _ _ => rfl) (eMo_goes (by omega) hx55) ?_
              refine q_blk (pc' := 155) (loc' := [some (.inr (.inr (30, 7, 0))), some (.inl a1), some (.inl x1), some (.inl ((10 : Int32) * a1)), some (.inl (((10 : Int32) * a1) + (h.1 31 0 7 ((17 : Int32) + a1).toNatClampNeg))), some (.inl (s32.1 + (1 : Int32))), some (.inl s32.2.1)]) (stk' := []) (h' := x54) 1 (fun _ _ => rfl) ?_
              have hz := Option.some.inj HF
              subst hz
              exact hP45 ((s32.1 + (1 : Int32)), x54) HK44
            · rw [if_neg c56] at HF
              refine q_blk (pc' := 155) (loc' := [some (.inr (.inr (30, 7, 0))), some (.inl a1), some (.inl x1), some (.inl ((10 : Int32) * a1)), some (.inl (((10 : Int32) * a1) + (h.1 31 0 7 ((17 : Int32) + a1).toNatClampNeg))), some (.inl s32.1), some (.inl s32.2.1)]) (stk' := []) (h' := s32.2.2) 1 (fun _ _ => rfl) ?_
              have hz := Option.some.inj HF
              subst hz
              exact hP45 (s32.1, s32.2.2) HK44
  refine q_lpE (E := fun s3 => q_E d q_K215 29 [some (.inr (.inr (30, 7, 0))), some (.inl a1), some (.inl x1), some (.inl ((10 : Int32) * a1)), some (.inl (((10 : Int32) * a1) + (h.1 31 0 7 ((17 : Int32) + a1).toNatClampNeg))), some (.inl s3.1), some (.inl s3.2.1)] [] s3.2.2 (some (.inl r.1), r.2)) r8 (fun s3 z10 HF H14 H25 => ?_) _ _ hl9
  refine q_br (P := (((10 : Int32) * a1) + (h.1 31 0 7 ((17 : Int32) + a1).toNatClampNeg)) ≤ s3.2.1) (pcT := 85) (pcF := 36) (loc' := [some (.inr (.inr (30, 7, 0))), some (.inl a1), some (.inl x1), some (.inl ((10 : Int32) * a1)), some (.inl (((10 : Int32) * a1) + (h.1 31 0 7 ((17 : Int32) + a1).toNatClampNeg))), some (.inl s3.1), some (.inl s3.2.1)]) (stk' := []) (h' := s3.2.2) 3 (fun _ _ => rfl) (fun c30 => ?_) (fun c30 => ?_)
  · rw [if_pos c30] at HF
    have hz := Option.some.inj HF
    subst hz
    rw [← H25 _ rfl] at HK6
    exact q_wk (loc := [some (.inr (.inr (30, 7, 0))), some (.inl a1), some (.inl x1), some (.inl ((10 : Int32) * a1)), some (.inl (((10 : Int32) * a1) + (h.1 31 0 7 ((17 : Int32) + a1).toNatClampNeg))), some (.inl s3.1), none]) ⟨Or.inl rfl, ⟨Or.inl rfl, ⟨Or.inl rfl, ⟨Or.inl rfl, ⟨Or.inl rfl, ⟨Or.inl rfl, ⟨Or.inr ⟨rfl, fun _ h => by cases h⟩, trivial⟩⟩⟩⟩⟩⟩⟩ (hP7 (s3.1, s3.2.2) HK6)
  · rw [if_neg c30] at HF
    obtain ⟨x11, hx12, HF⟩ := q_bind HF
    refine q_cll (m' := 187) (av := [.inr (.inr (30, 7, 0)), .inl s3.2.1, .inl (0 : Int32)]) (st' := []) (pc' := 43) (loc' := [some (.inr (.inr (30, 7, 0))), some (.inl a1), some (.inl x1), some (.inl ((10 : Int32) * a1)), some (.inl (((10 : Int32) * a1) + (h.1 31 0 7 ((17 : Int32) + a1).toNatClampNeg))), some (.inl s3.1), some (.inl s3.2.1)]) (h' := s3.2.2) 4 (fun _ _ => rfl) (eMo_of (by omega) hx12) ?_
    obtain ⟨z13, HA14, HK15⟩ := q_bind HF
    have hP16 : ∀ p28 : Int32 × q_H, (some (.inl (p28.1, (s3.2.1 + (1 : Int32)), p28.2)) : Option ((Int32 × Int32 × q_H) ⊕ (Int32 × q_H))) = some z10 → q_E d q_K215 79 [some (.inr (.inr (30, 7, 0))), some (.inl a1), some (.inl x1), some (.inl ((10 : Int32) * a1)), some (.inl (((10 : Int32) * a1) + (h.1 31 0 7 ((17 : Int32) + a1).toNatClampNeg))), some (.inl p28.1), some (.inl s3.2.1)] [] p28.2 (some (.inl r.1), r.2) := by
      intro p28 HF
      refine q_blk (pc' := 29) (loc' := [some (.inr (.inr (30, 7, 0))), some (.inl a1), some (.inl x1), some (.inl ((10 : Int32) * a1)), some (.inl (((10 : Int32) * a1) + (h.1 31 0 7 ((17 : Int32) + a1).toNatClampNeg))), some (.inl p28.1), some (.inl (s3.2.1 + (1 : Int32)))]) (stk' := []) (h' := p28.2) 2 (fun _ _ => rfl) ?_
      have hz := Option.some.inj HF
      subst hz
      exact H14 (p28.1, (s3.2.1 + (1 : Int32)), p28.2) rfl
    replace HF := HA14
    refine q_br (P := x11 = (2 : Int32)) (pcT := 67) (pcF := 47) (loc' := [some (.inr (.inr (30, 7, 0))), some (.inl a1), some (.inl x1), some (.inl ((10 : Int32) * a1)), some (.inl (((10 : Int32) * a1) + (h.1 31 0 7 ((17 : Int32) + a1).toNatClampNeg))), some (.inl s3.1), some (.inl s3.2.1)]) (stk' := []) (h' := s3.2.2) 2 (fun _ _ => rfl) (fun c27 => ?_) (fun c27 => ?_)
    · rw [if_pos c27] at HF
      obtain ⟨x17, hx18, HF⟩ := q_bind HF
      refine q_cll (m' := 214) (av := [.inr (.inr (30, 7, 0)), .inl s3.2.1, .inl x1]) (st' := [.inl s3.1]) (pc' := 76) (loc' := [some (.inr (.inr (30, 7, 0))), some (.inl a1), some (.inl x1), some (.inl ((10 : Int32) * a1)), some (.inl (((10 : Int32) * a1) + (h.1 31 0 7 ((17 : Int32) + a1).toNatClampNeg))), some (.inl s3.1), some (.inl s3.2.1)]) (h' := s3.2.2) 5 (fun _ _ => rfl) (eMo_cuts (by omega) hx18) ?_
      refine q_blk (pc' := 79) (loc' := [some (.inr (.inr (30, 7, 0))), some (.inl a1), some (.inl x1), some (.inl ((10 : Int32) * a1)), some (.inl (((10 : Int32) * a1) + (h.1 31 0 7 ((17 : Int32) + a1).toNatClampNeg))), some (.inl (s3.1 + x17.1)), some (.inl s3.2.1)]) (stk' := []) (h' := x17.2) 2 (fun _ _ => rfl) ?_
      have hz := Option.some.inj HF
      subst hz
      exact hP16 ((s3.1 + x17.1), x17.2) HK15
    · rw [if_neg c27] at HF
      obtain ⟨x19, hx20, HF⟩ := q_bind HF
      refine q_cll (m' := 189) (av := [.inr (.inr (30, 7, 0)), .inl s3.2.1]) (st' := []) (pc' := 53) (loc' := [some (.inr (.inr (30, 7, 0))), some (.inl a1), some (.inl x1), some (.inl ((10 : Int32) * a1)), some (.inl (((10 : Int32) * a1) + (h.1 31 0 7 ((17 : Int32) + a1).toNatClampNeg))), some (.inl s3.1), some (.inl s3.2.1)]) (h' := s3.2.2) 3 (fun _ _ => rfl) (eMo_isFull (by omega) hx20) ?_
      refine q_br (P := x19 = 0) (pcT := 79) (pcF := 56) (loc' := [some (.inr (.inr (30, 7, 0))), some (.inl a1), some (.inl x1), some (.inl ((10 : Int32) * a1)), some (.inl (((10 : Int32) * a1) + (h.1 31 0 7 ((17 : Int32) + a1).toNatClampNeg))), some (.inl s3.1), some (.inl s3.2.1)]) (stk' := []) (h' := s3.2.2) 1 (fun _ _ => rfl) (fun c26 => ?_) (fun c26 => ?_)
      · rw [if_pos c26] at HF
        have hz := Option.some.inj HF
        subst hz
        exact hP16 (s3.1, s3.2.2) HK15
      · rw [if_neg c26] at HF
        obtain ⟨x21, hx22, HF⟩ := q_bind HF
        refine q_cll (m' := 187) (av := [.inr (.inr (30, 7, 0)), .inl s3.2.1, .inl (10 : Int32)]) (st' := []) (pc' := 64) (loc' := [some (.inr (.inr (30, 7, 0))), some (.inl a1), some (.inl x1), some (.inl ((10 : Int32) * a1)), some (.inl (((10 : Int32) * a1) + (h.1 31 0 7 ((17 : Int32) + a1).toNatClampNeg))), some (.inl s3.1), some (.inl s3.2.1)]) (h' := s3.2.2) 4 (fun _ _ => rfl) (eMo_of (by omega) hx22) ?_
        refine q_br (P := ¬ x21 = 0) (pcT := 79) (pcF := 67) (loc' := [some (.inr (.inr (30, 7, 0))), some (.inl a1), some (.inl x1), some (.inl ((10 : Int32) * a1)), some (.inl (((10 : Int32) * a1) + (h.1 31 0 7 ((17 : Int32) + a1).toNatClampNeg))), some (.inl s3.1), some (.inl s3.2.1)]) (stk' := []) (h' := s3.2.2) 1 (fun _ _ => rfl) (fun c25 => ?_) (fun c25 => ?_)
        · rw [if_pos c25] at HF
          have hz := Option.some.inj HF
          subst hz
          exact hP16 (s3.1, s3.2.2) HK15
        · rw [if_neg c25] at HF
          obtain ⟨x23, hx24, HF⟩ := q_bind HF
          refine q_cll (m' := 214) (av := [.inr (.inr (30, 7, 0)), .inl s3.2.1, .inl x1]) (st' := [.inl s3.1]) (pc' := 76) (loc' := [some (.inr (.inr (30, 7, 0))), some (.inl a1), some (.inl x1), some (.inl ((10 : Int32) * a1)), some (.inl (((10 : Int32) * a1) + (h.1 31 0 7 ((17 : Int32) + a1).toNatClampNeg))), some (.inl s3.1), some (.inl s3.2.1)]) (h' := s3.2.2) 5 (fun _ _ => rfl) (eMo_cuts (by omega) hx24) ?_
          refine q_blk (pc' := 79) (loc' := [some (.inr (.inr (30, 7, 0))), some (.inl a1), some (.inl x1), some (.inl ((10 : Int32) * a1)), some (.inl (((10 : Int32) * a1) + (h.1 31 0 7 ((17 : Int32) + a1).toNatClampNeg))), some (.inl (s3.1 + x23.1)), some (.inl s3.2.1)]) (stk' := []) (h' := x23.2) 2 (fun _ _ => rfl) ?_
          have hz := Option.some.inj HF
          subst hz
          exact hP16 ((s3.1 + x23.1), x23.2) HK15
def Mo_inserts (a1 : Int32) (a2 : Int32) (a3 : Int32) (a4 : Int32) (h : q_H) : Option (Int32 × q_H) :=
  (Mo_firstPlace a4 h).bind fun x1 => (Mo_fills x1 (h.1 31 0 7 3) a2 a3 a4 a1 (0 : Int32) h).bind fun x3 => (Mo_enters a2 x1 x3).bind fun x5 => some (((((q_si x5 31 0 7 3 ((x5.1 31 0 7 3) + (1 : Int32))).1 31 0 7 3) - (1 : Int32)), (q_si x5 31 0 7 3 ((x5.1 31 0 7 3) + (1 : Int32)))))
set_option maxRecDepth 100000 in
set_option maxHeartbeats 4000000 in
theorem eMo_inserts {d : Nat} (hd : 6 ≤ d) {a1 : Int32} {a2 : Int32} {a3 : Int32} {a4 : Int32} {h : q_H} {r : (Int32 × q_H)} (HF : Mo_inserts a1 a2 a3 a4 h = some r) : q_T d 226 [.inr (.inr (30, 7, 0)), .inl a1, .inl a2, .inl a3, .inl a4] h (some (.inl r.1), r.2) := by
  obtain ⟨d, rfl⟩ : ∃ d', d = d' + 1 := ⟨d - 1, by omega⟩
  refine q_ent q_K226 rfl rfl rfl ?_
  unfold Mo_inserts at HF
  obtain ⟨x1, hx2, HF⟩ := q_bind HF
  refine q_cll (m' := 194) (av := [.inr (.inr (30, 7, 0)), .inl a4]) (st' := []) (pc' := 6) (loc' := [some (.inr (.inr (30, 7, 0))), some (.inl a1), some (.inl a2), some (.inl a3), some (.inl a4), none]) (h' := h) 3 (fun _ _ => rfl) (eMo_firstPlace (by omega) hx2) ?_
  obtain ⟨x3, hx4, HF⟩ := q_bind HF
  refine q_cll (m' := 195) (av := [.inr (.inr (30, 7, 0)), .inl x1, .inl (h.1 31 0 7 3), .inl a2, .inl a3, .inl a4, .inl a1, .inl (0 : Int32)]) (st' := []) (pc' := 26) (loc' := [some (.inr (.inr (30, 7, 0))), some (.inl a1), some (.inl a2), some (.inl a3), some (.inl a4), some (.inl x1)]) (h' := h) 13 (fun _ _ => rfl) (eMo_fills (by omega) hx4) ?_
  obtain ⟨x5, hx6, HF⟩ := q_bind HF
  refine q_cll (m' := 218) (av := [.inr (.inr (30, 7, 0)), .inl a2, .inl x1]) (st' := []) (pc' := 33) (loc' := [some (.inr (.inr (30, 7, 0))), some (.inl a1), some (.inl a2), some (.inl a3), some (.inl a4), some (.inl x1)]) (h' := x3) 4 (fun _ _ => rfl) (eMo_enters (by omega) hx6) ?_
  have hz := Option.some.inj HF
  subst hz
  exact q_rtn 15 (fun _ _ => rfl)
def Mo_deleteNow (a1 : Int32) (a2 : Int32) (h : q_H) : Option (Int32 × q_H) :=
  (Mo_touched a1 a2 h).bind fun x1 => if 0 ≤ x1.1 then ((Mo_endsAt x1.1 a1 (-1 : Int32) (-1 : Int32) x1.2).bind fun x3 => (Mo_versionsOf a2 x3).bind fun x5 => some ((x5, x3))) else (some (((-1 : Int32), x1.2)))
set_option maxRecDepth 100000 in
set_option maxHeartbeats 4000000 in
theorem eMo_deleteNow {d : Nat} (hd : 6 ≤ d) {a1 : Int32} {a2 : Int32} {h : q_H} {r : (Int32 × q_H)} (HF : Mo_deleteNow a1 a2 h = some r) : q_T d 235 [.inr (.inr (30, 7, 0)), .inl a1, .inl a2] h (some (.inl r.1), r.2) := by
  obtain ⟨d, rfl⟩ : ∃ d', d = d' + 1 := ⟨d - 1, by omega⟩
  refine q_ent q_K235 rfl rfl rfl ?_
  unfold Mo_deleteNow at HF
  obtain ⟨x1, hx2, HF⟩ := q_bind HF
  refine q_cll (m' := 232) (av := [.inr (.inr (30, 7, 0)), .inl a1, .inl a2]) (st' := []) (pc' := 6) (loc' := [some (.inr (.inr (30, 7, 0))), some (.inl a1), some (.inl a2), none]) (h' := h) 4 (fun _ _ => rfl) (eMo_touched (by omega) hx2) ?_
  refine q_br (P := 0 ≤ x1.1) (pcT := 13) (pcF := 11) (loc' := [some (.inr (.inr (30, 7, 0))), some (.inl a1), some (.inl a2), some (.inl x1.1)]) (stk' := []) (h' := x1.2) 3 (fun _ _ => rfl) (fun c7 => ?_) (fun c7 => ?_)
  · rw [if_pos c7] at HF
    obtain ⟨x3, hx4, HF⟩ := q_bind HF
    refine q_cll (m' := 227) (av := [.inr (.inr (30, 7, 0)), .inl x1.1, .inl a1, .inl (-1 : Int32), .inl (-1 : Int32)]) (st' := []) (pc' := 21) (loc' := [some (.inr (.inr (30, 7, 0))), some (.inl a1), some (.inl a2), some (.inl x1.1)]) (h' := x1.2) 6 (fun _ _ => rfl) (eMo_endsAt (by omega) hx4) ?_
    obtain ⟨x5, hx6, HF⟩ := q_bind HF
    refine q_cll (m' := 234) (av := [.inr (.inr (30, 7, 0)), .inl a2]) (st' := []) (pc' := 26) (loc' := [some (.inr (.inr (30, 7, 0))), some (.inl a1), some (.inl a2), some (.inl x1.1)]) (h' := x3) 3 (fun _ _ => rfl) (eMo_versionsOf (by omega) hx6) ?_
    have hz := Option.some.inj HF
    subst hz
    exact q_rtn 1 (fun _ _ => rfl)
  · rw [if_neg c7] at HF
    have hz := Option.some.inj HF
    subst hz
    exact q_rtn 2 (fun _ _ => rfl)
def Mo_looks (a1 : Int32) (a2 : Int32) (h : q_H) : Option (Int32 × q_H) :=
  (Mo_horizon h).bind fun x1 => (q_lp (fun s3 : Int32 × q_H => (if (s3.2.1 31 0 7 5) ≤ s3.1 then (some (.inr (((s3.2.1 31 0 7 7), s3.2)))) else ((Mo_entryOf s3.1 (0 : Int32) s3.2).bind fun x11 => Option.bind (α := q_H) (if ¬ x11 = a2 then (some (s3.2)) else ((Mo_entryOf s3.1 (3 : Int32) s3.2).bind fun x17 => if ¬ x17 = 0 then (some (s3.2)) else ((Mo_looksAt a1 a2 s3.1 x1 s3.2).bind fun x19 => some (x19)))) (fun p23 => some (.inl ((s3.1 + (1 : Int32)), p23)))) : Option ((Int32 × q_H) ⊕ (Int32 × q_H)))) q_fu (((0 : Int32), (q_si h 31 0 7 7 (0 : Int32))) : Int32 × q_H)).bind fun z10 => some z10
set_option maxRecDepth 100000 in
set_option maxHeartbeats 4000000 in
theorem eMo_looks {d : Nat} (hd : 6 ≤ d) {a1 : Int32} {a2 : Int32} {h : q_H} {r : (Int32 × q_H)} (HF : Mo_looks a1 a2 h = some r) : q_T d 240 [.inr (.inr (30, 7, 0)), .inl a1, .inl a2] h (some (.inl r.1), r.2) := by
  obtain ⟨d, rfl⟩ : ∃ d', d = d' + 1 := ⟨d - 1, by omega⟩
  refine q_ent q_K240 rfl rfl rfl ?_
  unfold Mo_looks at HF
  obtain ⟨x1, hx2, HF⟩ := q_bind HF
  refine q_cll (m' := 205) (av := [.inr (.inr (30, 7, 0))]) (st' := []) (pc' := 4) (loc' := [some (.inr (.inr (30, 7, 0))), some (.inl a1), some (.inl a2), none, none]) (h' := h) 2 (fun _ _ => rfl) (eMo_horizon (by omega) hx2) ?_
  refine q_blk (pc' := 16) (loc' := [some (.inr (.inr (30, 7, 0))), some (.inl a1), some (.inl a2), some (.inl x1), some (.inl (0 : Int32))]) (stk' := []) (h' := (q_si h 31 0 7 7 (0 : Int32))) 8 (fun _ _ => rfl) ?_
  obtain ⟨r8, hl9, HK6⟩ := q_bind HF
  refine q_lpE (E := fun s3 => q_E d q_K240 16 [some (.inr (.inr (30, 7, 0))), some (.inl a1), some (.inl a2), some (.inl x1), some (.inl s3.1)] [] s3.2 (some (.inl r.1), r.2)) r8 (fun s3 z10 HF H14 H25 => ?_) _ _ hl9
  refine q_br (P := (s3.2.1 31 0 7 5) ≤ s3.1) (pcT := 63) (pcF := 27) (loc' := [some (.inr (.inr (30, 7, 0))), some (.inl a1), some (.inl a2), some (.inl x1), some (.inl s3.1)]) (stk' := []) (h' := s3.2) 6 (fun _ _ => rfl) (fun c25 => ?_) (fun c25 => ?_)
  · rw [if_pos c25] at HF
    have hz := Option.some.inj HF
    subst hz
    replace HF := HK6
    rw [← H25 _ rfl] at HF
    have hz := Option.some.inj HF
    subst hz
    exact q_rtn 5 (fun _ _ => rfl)
  · rw [if_neg c25] at HF
    obtain ⟨x11, hx12, HF⟩ := q_bind HF
    refine q_cll (m' := 216) (av := [.inr (.inr (30, 7, 0)), .inl s3.1, .inl (0 : Int32)]) (st' := []) (pc' := 34) (loc' := [some (.inr (.inr (30, 7, 0))), some (.inl a1), some (.inl a2), some (.inl x1), some (.inl s3.1)]) (h' := s3.2) 4 (fun _ _ => rfl) (eMo_entryOf (by omega) hx12) ?_
    obtain ⟨z13, HA14, HK15⟩ := q_bind HF
    have hP16 : ∀ p23 : q_H, (some (.inl ((s3.1 + (1 : Int32)), p23)) : Option ((Int32 × q_H) ⊕ (Int32 × q_H))) = some z10 → q_E d q_K240 57 [some (.inr (.inr (30, 7, 0))), some (.inl a1), some (.inl a2), some (.inl x1), some (.inl s3.1)] [] p23 (some (.inl r.1), r.2) := by
      intro p23 HF
      refine q_blk (pc' := 16) (loc' := [some (.inr (.inr (30, 7, 0))), some (.inl a1), some (.inl a2), some (.inl x1), some (.inl (s3.1 + (1 : Int32)))]) (stk' := []) (h' := p23) 2 (fun _ _ => rfl) ?_
      have hz := Option.some.inj HF
      subst hz
      exact H14 ((s3.1 + (1 : Int32)), p23) rfl
    replace HF := HA14
    refine q_br (P := ¬ x11 = a2) (pcT := 57) (pcF := 38) (loc' := [some (.inr (.inr (30, 7, 0))), some (.inl a1), some (.inl a2), some (.inl x1), some (.inl s3.1)]) (stk' := []) (h' := s3.2) 2 (fun _ _ => rfl) (fun c22 => ?_) (fun c22 => ?_)
    · rw [if_pos c22] at HF
      have hz := Option.some.inj HF
      subst hz
      exact hP16 (s3.2) HK15
    · rw [if_neg c22] at HF
      obtain ⟨x17, hx18, HF⟩ := q_bind HF
      refine q_cll (m' := 216) (av := [.inr (.inr (30, 7, 0)), .inl s3.1, .inl (3 : Int32)]) (st' := []) (pc' := 45) (loc' := [some (.inr (.inr (30, 7, 0))), some (.inl a1), some (.inl a2), some (.inl x1), some (.inl s3.1)]) (h' := s3.2) 4 (fun _ _ => rfl) (eMo_entryOf (by omega) hx18) ?_
      refine q_br (P := ¬ x17 = 0) (pcT := 57) (pcF := 48) (loc' := [some (.inr (.inr (30, 7, 0))), some (.inl a1), some (.inl a2), some (.inl x1), some (.inl s3.1)]) (stk' := []) (h' := s3.2) 1 (fun _ _ => rfl) (fun c21 => ?_) (fun c21 => ?_)
      · rw [if_pos c21] at HF
        have hz := Option.some.inj HF
        subst hz
        exact hP16 (s3.2) HK15
      · rw [if_neg c21] at HF
        obtain ⟨x19, hx20, HF⟩ := q_bind HF
        refine q_cll (m' := 241) (av := [.inr (.inr (30, 7, 0)), .inl a1, .inl a2, .inl s3.1, .inl x1]) (st' := []) (pc' := 57) (loc' := [some (.inr (.inr (30, 7, 0))), some (.inl a1), some (.inl a2), some (.inl x1), some (.inl s3.1)]) (h' := s3.2) 6 (fun _ _ => rfl) (eMo_looksAt (by omega) hx20) ?_
        have hz := Option.some.inj HF
        subst hz
        exact hP16 (x19) HK15
def Mo_repackNow  (h : q_H) : Option (Int32 × q_H) :=
  (Mo_isAnyOpen h).bind fun x1 => if x1 = 0 then ((Mo_copy 31 7 32 7 h).bind fun x3 => (Mo_staying x3).bind fun x5 => (q_lp (fun s7 : Int32 × q_H => (if (6 : Int32) ≤ s7.1 then (some (.inr (s7.2))) else (bif q_in ((17 : Int32) + s7.1) 1644 then (bif q_in ((23 : Int32) + s7.1) 1644 then (some (.inl ((s7.1 + (1 : Int32)), (q_si (q_si s7.2 31 0 7 ((17 : Int32) + s7.1).toNatClampNeg (0 : Int32)) 31 0 7 ((23 : Int32) + s7.1).toNatClampNeg (0 : Int32))))) else none) else none) : Option ((Int32 × q_H) ⊕ (q_H)))) q_fu (((0 : Int32), x5.2) : Int32 × q_H)).bind fun p18 => (q_lp (fun s19 : Int32 × q_H => (if x5.1 ≤ s19.1 then (some (.inr (.inl s19.2))) else (bif q_in s19.1 60 then ((Mo_oldOf (s19.2.1 37 0 7 s19.1.toNatClampNeg) (5 : Int32) s19.2).bind fun x27 => (Mo_firstPlace x27 s19.2).bind fun x29 => if 0 ≤ x29 then ((Mo_oldOf (s19.2.1 37 0 7 s19.1.toNatClampNeg) (2 : Int32) s19.2).bind fun x31 => (Mo_oldOf (s19.2.1 37 0 7 s19.1.toNatClampNeg) (3 : Int32) s19.2).bind fun x33 => (Mo_oldOf (s19.2.1 37 0 7 s19.1.toNatClampNeg) (4 : Int32) s19.2).bind fun x35 => (Mo_oldOf (s19.2.1 37 0 7 s19.1.toNatClampNeg) (5 : Int32) s19.2).bind fun x37 => (Mo_oldOf (s19.2.1 37 0 7 s19.1.toNatClampNeg) (6 : Int32) s19.2).bind fun x39 => (Mo_fills x29 x31 x33 x35 x37 x39 (0 : Int32) s19.2).bind fun x41 => (Mo_oldOf (s19.2.1 37 0 7 s19.1.toNatClampNeg) (11 : Int32) x41).bind fun x43 => (Mo_sets x29 (11 : Int32) x43 x41).bind fun x45 => (Mo_oldOf (s19.2.1 37 0 7 s19.1.toNatClampNeg) (12 : Int32) x45).bind fun x47 => (Mo_sets x29 (12 : Int32) x47 x45).bind fun x49 => (Mo_oldOf (s19.2.1 37 0 7 s19.1.toNatClampNeg) (3 : Int32) x49).bind fun x51 => (Mo_enters x51 x29 x49).bind fun x53 => some (.inl ((s19.1 + (1 : Int32)), x53))) else ((Mo_copy 32 7 31 7 s19.2).bind fun x55 => (Mo_refuse (5 : Int32) x55).bind fun x57 => some (.inr (.inr ((x57.1, x57.2)))))) else none) : Option ((Int32 × q_H) ⊕ ((q_H) ⊕ (Int32 × q_H))))) q_fu (((0 : Int32), (q_si p18 31 0 7 5 (0 : Int32))) : Int32 × q_H)).bind fun z26 => match z26 with | .inl p62 => (q_lp (fun s63 : Int32 × Int32 => (if (6 : Int32) ≤ s63.2 then (some (.inr ((s63.1, p62)))) else (bif q_in ((17 : Int32) + s63.2) 1644 then (Option.bind (α := Int32) (if (p62.1 31 0 7 ((17 : Int32) + s63.2).toNatClampNeg) ≤ 0 then (some ((0 : Int32))) else (some ((1 : Int32)))) (fun p76 => some (.inl ((s63.1 + p76), (s63.2 + (1 : Int32)))))) else none) : Option ((Int32 × Int32) ⊕ (Int32 × q_H)))) q_fu (((0 : Int32), (0 : Int32)) : Int32 × Int32)).bind fun z70 => some z70 | .inr z26 => some z26) else ((Mo_refuse (10 : Int32) h).bind fun x80 => some ((x80.1, x80.2)))
set_option maxRecDepth 100000 in
set_option maxHeartbeats 4000000 in
theorem eMo_repackNow {d : Nat} (hd : 6 ≤ d)  {h : q_H} {r : (Int32 × q_H)} (HF : Mo_repackNow  h = some r) : q_T d 248 [.inr (.inr (30, 7, 0))] h (some (.inl r.1), r.2) := by
  obtain ⟨d, rfl⟩ : ∃ d', d = d' + 1 := ⟨d - 1, by omega⟩
  refine q_ent q_K248 rfl rfl rfl ?_
  unfold Mo_repackNow at HF
  obtain ⟨x1, hx2, HF⟩ := q_bind HF
  refine q_cll (m' := 243) (av := [.inr (.inr (30, 7, 0))]) (st' := []) (pc' := 4) (loc' := [some (.inr (.inr (30, 7, 0))), none, none, none, none]) (h' := h) 2 (fun _ _ => rfl) (eMo_isAnyOpen (by omega) hx2) ?_
  refine q_br (P := x1 = 0) (pcT := 14) (pcF := 7) (loc' := [some (.inr (.inr (30, 7, 0))), none, none, none, none]) (stk' := []) (h' := h) 1 (fun _ _ => rfl) (fun c82 => ?_) (fun c82 => ?_)
  · rw [if_pos c82] at HF
    obtain ⟨x3, hx4, HF⟩ := q_bind HF
    refine q_cll (m' := 186) (av := [.inr (.inr (31, 7, 0)), .inr (.inr (32, 7, 0))]) (st' := []) (pc' := 25) (loc' := [some (.inr (.inr (30, 7, 0))), none, none, none, none]) (h' := h) 5 (fun _ _ => rfl) (eMo_copy (by omega) hx4) ?_
    obtain ⟨x5, hx6, HF⟩ := q_bind HF
    refine q_cll (m' := 247) (av := [.inr (.inr (30, 7, 0))]) (st' := []) (pc' := 29) (loc' := [some (.inr (.inr (30, 7, 0))), none, none, none, none]) (h' := x3) 2 (fun _ _ => rfl) (eMo_staying (by omega) hx6) ?_
    refine q_blk (pc' := 32) (loc' := [some (.inr (.inr (30, 7, 0))), some (.inl x5.1), some (.inl (0 : Int32)), none, none]) (stk' := []) (h' := x5.2) 3 (fun _ _ => rfl) ?_
    obtain ⟨r12, hl13, HK10⟩ := q_bind HF
    have hP11 : ∀ p18 : q_H, ((q_lp (fun s19 : Int32 × q_H => (if x5.1 ≤ s19.1 then (some (.inr (.inl s19.2))) else (bif q_in s19.1 60 then ((Mo_oldOf (s19.2.1 37 0 7 s19.1.toNatClampNeg) (5 : Int32) s19.2).bind fun x27 => (Mo_firstPlace x27 s19.2).bind fun x29 => if 0 ≤ x29 then ((Mo_oldOf (s19.2.1 37 0 7 s19.1.toNatClampNeg) (2 : Int32) s19.2).bind fun x31 => (Mo_oldOf (s19.2.1 37 0 7 s19.1.toNatClampNeg) (3 : Int32) s19.2).bind fun x33 => (Mo_oldOf (s19.2.1 37 0 7 s19.1.toNatClampNeg) (4 : Int32) s19.2).bind fun x35 => (Mo_oldOf (s19.2.1 37 0 7 s19.1.toNatClampNeg) (5 : Int32) s19.2).bind fun x37 => (Mo_oldOf (s19.2.1 37 0 7 s19.1.toNatClampNeg) (6 : Int32) s19.2).bind fun x39 => (Mo_fills x29 x31 x33 x35 x37 x39 (0 : Int32) s19.2).bind fun x41 => (Mo_oldOf (s19.2.1 37 0 7 s19.1.toNatClampNeg) (11 : Int32) x41).bind fun x43 => (Mo_sets x29 (11 : Int32) x43 x41).bind fun x45 => (Mo_oldOf (s19.2.1 37 0 7 s19.1.toNatClampNeg) (12 : Int32) x45).bind fun x47 => (Mo_sets x29 (12 : Int32) x47 x45).bind fun x49 => (Mo_oldOf (s19.2.1 37 0 7 s19.1.toNatClampNeg) (3 : Int32) x49).bind fun x51 => (Mo_enters x51 x29 x49).bind fun x53 => some (.inl ((s19.1 + (1 : Int32)), x53))) else ((Mo_copy 32 7 31 7 s19.2).bind fun x55 => (Mo_refuse (5 : Int32) x55).bind fun x57 => some (.inr (.inr ((x57.1, x57.2)))))) else none) : Option ((Int32 × q_H) ⊕ ((q_H) ⊕ (Int32 × q_H))))) q_fu (((0 : Int32), (q_si p18 31 0 7 5 (0 : Int32))) : Int32 × q_H)).bind fun z26 => match z26 with | .inl p62 => (q_lp (fun s63 : Int32 × Int32 => (if (6 : Int32) ≤ s63.2 then (some (.inr ((s63.1, p62)))) else (bif q_in ((17 : Int32) + s63.2) 1644 then (Option.bind (α := Int32) (if (p62.1 31 0 7 ((17 : Int32) + s63.2).toNatClampNeg) ≤ 0 then (some ((0 : Int32))) else (some ((1 : Int32)))) (fun p76 => some (.inl ((s63.1 + p76), (s63.2 + (1 : Int32)))))) else none) : Option ((Int32 × Int32) ⊕ (Int32 × q_H)))) q_fu (((0 : Int32), (0 : Int32)) : Int32 × Int32)).bind fun z70 => some z70 | .inr z26 => some z26 : Option (Int32 × q_H)) = some r → q_E d q_K248 64 [some (.inr (.inr (30, 7, 0))), some (.inl x5.1), none, none, none] [] p18 (some (.inl r.1), r.2) := by
      intro p18 HF
      refine q_blk (pc' := 73) (loc' := [some (.inr (.inr (30, 7, 0))), some (.inl x5.1), some (.inl (0 : Int32)), none, none]) (stk' := []) (h' := (q_si p18 31 0 7 5 (0 : Int32))) 7 (fun _ _ => rfl) ?_
      obtain ⟨r24, hl25, HK22⟩ := q_bind HF
      have hP23 : ∀ p62 : q_H, ((q_lp (fun s63 : Int32 × Int32 => (if (6 : Int32) ≤ s63.2 then (some (.inr ((s63.1, p62)))) else (bif q_in ((17 : Int32) + s63.2) 1644 then (Option.bind (α := Int32) (if (p62.1 31 0 7 ((17 : Int32) + s63.2).toNatClampNeg) ≤ 0 then (some ((0 : Int32))) else (some ((1 : Int32)))) (fun p76 => some (.inl ((s63.1 + p76), (s63.2 + (1 : Int32)))))) else none) : Option ((Int32 × Int32) ⊕ (Int32 × q_H)))) q_fu (((0 : Int32), (0 : Int32)) : Int32 × Int32)).bind fun z70 => some z70 : Option (Int32 × q_H)) = some r → q_E d q_K248 205 [some (.inr (.inr (30, 7, 0))), some (.inl x5.1), none, none, none] [] p62 (some (.inl r.1), r.2) := by
        intro p62 HF
        refine q_blk (pc' := 209) (loc' := [some (.inr (.inr (30, 7, 0))), some (.inl x5.1), some (.inl (0 : Int32)), some (.inl (0 : Int32)), none]) (stk' := []) (h' := p62) 4 (fun _ _ => rfl) ?_
        obtain ⟨r68, hl69, HK66⟩ := q_bind HF
        refine q_lpE (E := fun s63 => q_E d q_K248 209 [some (.inr (.inr (30, 7, 0))), some (.inl x5.1), some (.inl s63.1), some (.inl s63.2), none] [] p62 (some (.inl r.1), r.2)) r68 (fun s63 z70 HF H164 H265 => ?_) _ _ hl69
        refine q_br (P := (6 : Int32) ≤ s63.2) (pcT := 241) (pcF := 215) (loc' := [some (.inr (.inr (30, 7, 0))), some (.inl x5.1), some (.inl s63.1), some (.inl s63.2), none]) (stk' := []) (h' := p62) 3 (fun _ _ => rfl) (fun c79 => ?_) (fun c79 => ?_)
        · rw [if_pos c79] at HF
          have hz := Option.some.inj HF
          subst hz
          replace HF := HK66
          rw [← H265 _ rfl] at HF
          have hz := Option.some.inj HF
          subst hz
          exact q_rtn 2 (fun _ _ => rfl)
        · rw [if_neg c79] at HF
          obtain ⟨g78, HF⟩ := q_gF HF
          refine q_gd (pc' := 225) (loc' := [some (.inr (.inr (30, 7, 0))), some (.inl x5.1), some (.inl s63.1), some (.inl s63.2), none]) (stk' := [.inl (p62.1 31 0 7 ((17 : Int32) + s63.2).toNatClampNeg), .inl s63.1]) (h' := p62) 7 (fun _ _ => rfl) g78 ?_
          obtain ⟨z71, HA72, HK73⟩ := q_bind HF
          have hP74 : ∀ p76 : Int32, (some (.inl ((s63.1 + p76), (s63.2 + (1 : Int32)))) : Option ((Int32 × Int32) ⊕ (Int32 × q_H))) = some z70 → q_E d q_K248 233 [some (.inr (.inr (30, 7, 0))), some (.inl x5.1), some (.inl s63.1), some (.inl s63.2), none] [.inl p76, .inl s63.1] p62 (some (.inl r.1), r.2) := by
            intro p76 HF
            refine q_blk (pc' := 209) (loc' := [some (.inr (.inr (30, 7, 0))), some (.inl x5.1), some (.inl (s63.1 + p76)), some (.inl (s63.2 + (1 : Int32))), none]) (stk' := []) (h' := p62) 4 (fun _ _ => rfl) ?_
            have hz := Option.some.inj HF
            subst hz
            exact H164 ((s63.1 + p76), (s63.2 + (1 : Int32))) rfl
          replace HF := HA72
          refine q_br (P := (p62.1 31 0 7 ((17 : Int32) + s63.2).toNatClampNeg) ≤ 0) (pcT := 232) (pcF := 228) (loc' := [some (.inr (.inr (30, 7, 0))), some (.inl x5.1), some (.inl s63.1), some (.inl s63.2), none]) (stk' := [.inl s63.1]) (h' := p62) 1 (fun _ _ => rfl) (fun c75 => ?_) (fun c75 => ?_)
          · rw [if_pos c75] at HF
            refine q_blk (pc' := 233) (loc' := [some (.inr (.inr (30, 7, 0))), some (.inl x5.1), some (.inl s63.1), some (.inl s63.2), none]) (stk' := [.inl (0 : Int32), .inl s63.1]) (h' := p62) 1 (fun _ _ => rfl) ?_
            have hz := Option.some.inj HF
            subst hz
            exact hP74 (0 : Int32) HK73
          · rw [if_neg c75] at HF
            refine q_blk (pc' := 233) (loc' := [some (.inr (.inr (30, 7, 0))), some (.inl x5.1), some (.inl s63.1), some (.inl s63.2), none]) (stk' := [.inl (1 : Int32), .inl s63.1]) (h' := p62) 2 (fun _ _ => rfl) ?_
            have hz := Option.some.inj HF
            subst hz
            exact hP74 (1 : Int32) HK73
      refine q_lpE (E := fun s19 => q_E d q_K248 73 [some (.inr (.inr (30, 7, 0))), some (.inl x5.1), some (.inl s19.1), none, none] [] s19.2 (some (.inl r.1), r.2)) r24 (fun s19 z26 HF H120 H221 => ?_) _ _ hl25
      refine q_br (P := x5.1 ≤ s19.1) (pcT := 205) (pcF := 78) (loc' := [some (.inr (.inr (30, 7, 0))), some (.inl x5.1), some (.inl s19.1), none, none]) (stk' := []) (h' := s19.2) 3 (fun _ _ => rfl) (fun c61 => ?_) (fun c61 => ?_)
      · rw [if_pos c61] at HF
        have hz := Option.some.inj HF
        subst hz
        rw [← H221 _ rfl] at HK22
        exact q_wk (loc := [some (.inr (.inr (30, 7, 0))), some (.inl x5.1), none, none, none]) ⟨Or.inl rfl, ⟨Or.inl rfl, ⟨Or.inr ⟨rfl, fun _ h => by cases h⟩, ⟨Or.inl rfl, ⟨Or.inl rfl, trivial⟩⟩⟩⟩⟩ (hP23 (s19.2) HK22)
      · rw [if_neg c61] at HF
        obtain ⟨g60, HF⟩ := q_gF HF
        refine q_gd (pc' := 84) (loc' := [some (.inr (.inr (30, 7, 0))), some (.inl x5.1), some (.inl s19.1), none, none]) (stk' := [.inl (s19.2.1 37 0 7 s19.1.toNatClampNeg)]) (h' := s19.2) 4 (fun _ _ => rfl) g60 ?_
        obtain ⟨x27, hx28, HF⟩ := q_bind HF
        refine q_cll (m' := 245) (av := [.inr (.inr (30, 7, 0)), .inl (s19.2.1 37 0 7 s19.1.toNatClampNeg), .inl (5 : Int32)]) (st' := [.inr (.inr (30, 7, 0))]) (pc' := 92) (loc' := [some (.inr (.inr (30, 7, 0))), some (.inl x5.1), some (.inl s19.1), some (.inl (s19.2.1 37 0 7 s19.1.toNatClampNeg)), none]) (h' := s19.2) 6 (fun _ _ => rfl) (eMo_oldOf (by omega) hx28) ?_
        obtain ⟨x29, hx30, HF⟩ := q_bind HF
        refine q_cll (m' := 194) (av := [.inr (.inr (30, 7, 0)), .inl x27]) (st' := []) (pc' := 95) (loc' := [some (.inr (.inr (30, 7, 0))), some (.inl x5.1), some (.inl s19.1), some (.inl (s19.2.1 37 0 7 s19.1.toNatClampNeg)), none]) (h' := s19.2) 1 (fun _ _ => rfl) (eMo_firstPlace (by omega) hx30) ?_
        refine q_br (P := 0 ≤ x29) (pcT := 119) (pcF := 102) (loc' := [some (.inr (.inr (30, 7, 0))), some (.inl x5.1), some (.inl s19.1), some (.inl (s19.2.1 37 0 7 s19.1.toNatClampNeg)), some (.inl x29)]) (stk' := []) (h' := s19.2) 3 (fun _ _ => rfl) (fun c59 => ?_) (fun c59 => ?_)
        · rw [if_pos c59] at HF
          obtain ⟨x31, hx32, HF⟩ := q_bind HF
          refine q_cll (m' := 245) (av := [.inr (.inr (30, 7, 0)), .inl (s19.2.1 37 0 7 s19.1.toNatClampNeg), .inl (2 : Int32)]) (st' := [.inl x29, .inr (.inr (30, 7, 0))]) (pc' := 128) (loc' := [some (.inr (.inr (30, 7, 0))), some (.inl x5.1), some (.inl s19.1), some (.inl (s19.2.1 37 0 7 s19.1.toNatClampNeg)), some (.inl x29)]) (h' := s19.2) 6 (fun _ _ => rfl) (eMo_oldOf (by omega) hx32) ?_
          obtain ⟨x33, hx34, HF⟩ := q_bind HF
          refine q_cll (m' := 245) (av := [.inr (.inr (30, 7, 0)), .inl (s19.2.1 37 0 7 s19.1.toNatClampNeg), .inl (3 : Int32)]) (st' := [.inl x31, .inl x29, .inr (.inr (30, 7, 0))]) (pc' := 134) (loc' := [some (.inr (.inr (30, 7, 0))), some (.inl x5.1), some (.inl s19.1), some (.inl (s19.2.1 37 0 7 s19.1.toNatClampNeg)), some (.inl x29)]) (h' := s19.2) 4 (fun _ _ => rfl) (eMo_oldOf (by omega) hx34) ?_
          obtain ⟨x35, hx36, HF⟩ := q_bind HF
          refine q_cll (m' := 245) (av := [.inr (.inr (30, 7, 0)), .inl (s19.2.1 37 0 7 s19.1.toNatClampNeg), .inl (4 : Int32)]) (st' := [.inl x33, .inl x31, .inl x29, .inr (.inr (30, 7, 0))]) (pc' := 140) (loc' := [some (.inr (.inr (30, 7, 0))), some (.inl x5.1), some (.inl s19.1), some (.inl (s19.2.1 37 0 7 s19.1.toNatClampNeg)), some (.inl x29)]) (h' := s19.2) 4 (fun _ _ => rfl) (eMo_oldOf (by omega) hx36) ?_
          obtain ⟨x37, hx38, HF⟩ := q_bind HF
          refine q_cll (m' := 245) (av := [.inr (.inr (30, 7, 0)), .inl (s19.2.1 37 0 7 s19.1.toNatClampNeg), .inl (5 : Int32)]) (st' := [.inl x35, .inl x33, .inl x31, .inl x29, .inr (.inr (30, 7, 0))]) (pc' := 146) (loc' := [some (.inr (.inr (30, 7, 0))), some (.inl x5.1), some (.inl s19.1), some (.inl (s19.2.1 37 0 7 s19.1.toNatClampNeg)), some (.inl x29)]) (h' := s19.2) 4 (fun _ _ => rfl) (eMo_oldOf (by omega) hx38) ?_
          obtain ⟨x39, hx40, HF⟩ := q_bind HF
          refine q_cll (m' := 245) (av := [.inr (.inr (30, 7, 0)), .inl (s19.2.1 37 0 7 s19.1.toNatClampNeg), .inl (6 : Int32)]) (st' := [.inl x37, .inl x35, .inl x33, .inl x31, .inl x29, .inr (.inr (30, 7, 0))]) (pc' := 153) (loc' := [some (.inr (.inr (30, 7, 0))), some (.inl x5.1), some (.inl s19.1), some (.inl (s19.2.1 37 0 7 s19.1.toNatClampNeg)), some (.inl x29)]) (h' := s19.2) 4 (fun _ _ => rfl) (eMo_oldOf (by omega) hx40) ?_
          obtain ⟨x41, hx42, HF⟩ := q_bind HF
          refine q_cll (m' := 195) (av := [.inr (.inr (30, 7, 0)), .inl x29, .inl x31, .inl x33, .inl x35, .inl x37, .inl x39, .inl (0 : Int32)]) (st' := []) (pc' := 157) (loc' := [some (.inr (.inr (30, 7, 0))), some (.inl x5.1), some (.inl s19.1), some (.inl (s19.2.1 37 0 7 s19.1.toNatClampNeg)), some (.inl x29)]) (h' := s19.2) 2 (fun _ _ => rfl) (eMo_fills (by omega) hx42) ?_
          obtain ⟨x43, hx44, HF⟩ := q_bind HF
          refine q_cll (m' := 245) (av := [.inr (.inr (30, 7, 0)), .inl (s19.2.1 37 0 7 s19.1.toNatClampNeg), .inl (11 : Int32)]) (st' := [.inl (11 : Int32), .inl x29, .inr (.inr (30, 7, 0))]) (pc' := 169) (loc' := [some (.inr (.inr (30, 7, 0))), some (.inl x5.1), some (.inl s19.1), some (.inl (s19.2.1 37 0 7 s19.1.toNatClampNeg)), some (.inl x29)]) (h' := x41) 7 (fun _ _ => rfl) (eMo_oldOf (by omega) hx44) ?_
          obtain ⟨x45, hx46, HF⟩ := q_bind HF
          refine q_cll (m' := 188) (av := [.inr (.inr (30, 7, 0)), .inl x29, .inl (11 : Int32), .inl x43]) (st' := []) (pc' := 172) (loc' := [some (.inr (.inr (30, 7, 0))), some (.inl x5.1), some (.inl s19.1), some (.inl (s19.2.1 37 0 7 s19.1.toNatClampNeg)), some (.inl x29)]) (h' := x41) 1 (fun _ _ => rfl) (eMo_sets (by omega) hx46) ?_
          obtain ⟨x47, hx48, HF⟩ := q_bind HF
          refine q_cll (m' := 245) (av := [.inr (.inr (30, 7, 0)), .inl (s19.2.1 37 0 7 s19.1.toNatClampNeg), .inl (12 : Int32)]) (st' := [.inl (12 : Int32), .inl x29, .inr (.inr (30, 7, 0))]) (pc' := 184) (loc' := [some (.inr (.inr (30, 7, 0))), some (.inl x5.1), some (.inl s19.1), some (.inl (s19.2.1 37 0 7 s19.1.toNatClampNeg)), some (.inl x29)]) (h' := x45) 7 (fun _ _ => rfl) (eMo_oldOf (by omega) hx48) ?_
          obtain ⟨x49, hx50, HF⟩ := q_bind HF
          refine q_cll (m' := 188) (av := [.inr (.inr (30, 7, 0)), .inl x29, .inl (12 : Int32), .inl x47]) (st' := []) (pc' := 187) (loc' := [some (.inr (.inr (30, 7, 0))), some (.inl x5.1), some (.inl s19.1), some (.inl (s19.2.1 37 0 7 s19.1.toNatClampNeg)), some (.inl x29)]) (h' := x45) 1 (fun _ _ => rfl) (eMo_sets (by omega) hx50) ?_
          obtain ⟨x51, hx52, HF⟩ := q_bind HF
          refine q_cll (m' := 245) (av := [.inr (.inr (30, 7, 0)), .inl (s19.2.1 37 0 7 s19.1.toNatClampNeg), .inl (3 : Int32)]) (st' := [.inr (.inr (30, 7, 0))]) (pc' := 194) (loc' := [some (.inr (.inr (30, 7, 0))), some (.inl x5.1), some (.inl s19.1), some (.inl (s19.2.1 37 0 7 s19.1.toNatClampNeg)), some (.inl x29)]) (h' := x49) 5 (fun _ _ => rfl) (eMo_oldOf (by omega) hx52) ?_
          obtain ⟨x53, hx54, HF⟩ := q_bind HF
          refine q_cll (m' := 218) (av := [.inr (.inr (30, 7, 0)), .inl x51, .inl x29]) (st' := []) (pc' := 199) (loc' := [some (.inr (.inr (30, 7, 0))), some (.inl x5.1), some (.inl s19.1), some (.inl (s19.2.1 37 0 7 s19.1.toNatClampNeg)), some (.inl x29)]) (h' := x49) 2 (fun _ _ => rfl) (eMo_enters (by omega) hx54) ?_
          refine q_blk (pc' := 73) (loc' := [some (.inr (.inr (30, 7, 0))), some (.inl x5.1), some (.inl (s19.1 + (1 : Int32))), some (.inl (s19.2.1 37 0 7 s19.1.toNatClampNeg)), some (.inl x29)]) (stk' := []) (h' := x53) 2 (fun _ _ => rfl) ?_
          have hz := Option.some.inj HF
          subst hz
          exact q_wk (loc := [some (.inr (.inr (30, 7, 0))), some (.inl x5.1), some (.inl (s19.1 + (1 : Int32))), none, none]) ⟨Or.inl rfl, ⟨Or.inl rfl, ⟨Or.inl rfl, ⟨Or.inr ⟨rfl, fun _ h => by cases h⟩, ⟨Or.inr ⟨rfl, fun _ h => by cases h⟩, trivial⟩⟩⟩⟩⟩ (H120 ((s19.1 + (1 : Int32)), x53) rfl)
        · rw [if_neg c59] at HF
          obtain ⟨x55, hx56, HF⟩ := q_bind HF
          refine q_cll (m' := 186) (av := [.inr (.inr (32, 7, 0)), .inr (.inr (31, 7, 0))]) (st' := []) (pc' := 113) (loc' := [some (.inr (.inr (30, 7, 0))), some (.inl x5.1), some (.inl s19.1), some (.inl (s19.2.1 37 0 7 s19.1.toNatClampNeg)), some (.inl x29)]) (h' := s19.2) 5 (fun _ _ => rfl) (eMo_copy (by omega) hx56) ?_
          obtain ⟨x57, hx58, HF⟩ := q_bind HF
          refine q_cll (m' := 182) (av := [.inr (.inr (30, 7, 0)), .inl (5 : Int32)]) (st' := []) (pc' := 118) (loc' := [some (.inr (.inr (30, 7, 0))), some (.inl x5.1), some (.inl s19.1), some (.inl (s19.2.1 37 0 7 s19.1.toNatClampNeg)), some (.inl x29)]) (h' := x55) 3 (fun _ _ => rfl) (eMo_refuse (by omega) hx58) ?_
          have hz := Option.some.inj HF
          subst hz
          replace HF := HK22
          rw [← H221 _ rfl] at HF
          have hz := Option.some.inj HF
          subst hz
          exact q_rtn 1 (fun _ _ => rfl)
    refine q_lpE (E := fun s7 => q_E d q_K248 32 [some (.inr (.inr (30, 7, 0))), some (.inl x5.1), some (.inl s7.1), none, none] [] s7.2 (some (.inl r.1), r.2)) r12 (fun s7 z14 HF H18 H29 => ?_) _ _ hl13
    refine q_br (P := (6 : Int32) ≤ s7.1) (pcT := 64) (pcF := 38) (loc' := [some (.inr (.inr (30, 7, 0))), some (.inl x5.1), some (.inl s7.1), none, none]) (stk' := []) (h' := s7.2) 3 (fun _ _ => rfl) (fun c17 => ?_) (fun c17 => ?_)
    · rw [if_pos c17] at HF
      have hz := Option.some.inj HF
      subst hz
      rw [← H29 _ rfl] at HK10
      exact q_wk (loc := [some (.inr (.inr (30, 7, 0))), some (.inl x5.1), none, none, none]) ⟨Or.inl rfl, ⟨Or.inl rfl, ⟨Or.inr ⟨rfl, fun _ h => by cases h⟩, ⟨Or.inl rfl, ⟨Or.inl rfl, trivial⟩⟩⟩⟩⟩ (hP11 (s7.2) HK10)
    · rw [if_neg c17] at HF
      obtain ⟨g16, HF⟩ := q_gF HF
      refine q_gd (pc' := 48) (loc' := [some (.inr (.inr (30, 7, 0))), some (.inl x5.1), some (.inl s7.1), none, none]) (stk' := []) (h' := (q_si s7.2 31 0 7 ((17 : Int32) + s7.1).toNatClampNeg (0 : Int32))) 7 (fun _ _ => rfl) g16 ?_
      obtain ⟨g15, HF⟩ := q_gF HF
      refine q_gd (pc' := 58) (loc' := [some (.inr (.inr (30, 7, 0))), some (.inl x5.1), some (.inl s7.1), none, none]) (stk' := []) (h' := (q_si (q_si s7.2 31 0 7 ((17 : Int32) + s7.1).toNatClampNeg (0 : Int32)) 31 0 7 ((23 : Int32) + s7.1).toNatClampNeg (0 : Int32))) 7 (fun _ _ => rfl) g15 ?_
      refine q_blk (pc' := 32) (loc' := [some (.inr (.inr (30, 7, 0))), some (.inl x5.1), some (.inl (s7.1 + (1 : Int32))), none, none]) (stk' := []) (h' := (q_si (q_si s7.2 31 0 7 ((17 : Int32) + s7.1).toNatClampNeg (0 : Int32)) 31 0 7 ((23 : Int32) + s7.1).toNatClampNeg (0 : Int32))) 2 (fun _ _ => rfl) ?_
      have hz := Option.some.inj HF
      subst hz
      exact H18 ((s7.1 + (1 : Int32)), (q_si (q_si s7.2 31 0 7 ((17 : Int32) + s7.1).toNatClampNeg (0 : Int32)) 31 0 7 ((23 : Int32) + s7.1).toNatClampNeg (0 : Int32))) rfl
  · rw [if_neg c82] at HF
    obtain ⟨x80, hx81, HF⟩ := q_bind HF
    refine q_cll (m' := 182) (av := [.inr (.inr (30, 7, 0)), .inl (10 : Int32)]) (st' := []) (pc' := 13) (loc' := [some (.inr (.inr (30, 7, 0))), none, none, none, none]) (h' := h) 3 (fun _ _ => rfl) (eMo_refuse (by omega) hx81) ?_
    have hz := Option.some.inj HF
    subst hz
    exact q_rtn 1 (fun _ _ => rfl)
