def Rp_insert (a1 : Int32) (a2 : Int32) (a3 : Int32) (a4 : Int32) (h : q_H) : Option (Int32 × q_H) :=
  (Rp_isVersion a2 a3 a4 h).bind fun x1 => if ¬ x1 = 0 then ((Tn_has 0 a1 h).bind fun x3 => if ¬ x3 = 0 then (if (40 : Int32) ≤ (h.1 0 7 0 0) then ((Rp_refuse (3 : Int32) h).bind fun x5 => some ((x5.1, x5.2))) else (if (h.1 11 3 0 0) < (60 : Int32) then ((Rp_asFree a1 h).bind fun x7 => if x7 = 0 then ((Pg_firstPlace 0 a4 h).bind fun x9 => if ¬ x9 = (-1 : Int32) then ((St_addRow 0 x9 a2 a3 a4 a1 h).bind fun x11 => (Rp_answer x11.1 x11.2).bind fun x13 => some ((x13.1, x13.2))) else ((Rp_refuse (5 : Int32) h).bind fun x15 => some ((x15.1, x15.2)))) else ((Rp_refuse x7 h).bind fun x18 => some ((x18.1, x18.2)))) else ((Rp_refuse (3 : Int32) h).bind fun x21 => some ((x21.1, x21.2))))) else ((Rp_refuse (2 : Int32) h).bind fun x25 => some ((x25.1, x25.2)))) else ((Rp_refuse (1 : Int32) h).bind fun x28 => some ((x28.1, x28.2)))
set_option maxRecDepth 100000 in
set_option maxHeartbeats 4000000 in
theorem eRp_insert {d : Nat} (hd : 6 ≤ d) {a1 : Int32} {a2 : Int32} {a3 : Int32} {a4 : Int32} {h : q_H} {r : (Int32 × q_H)} (HF : Rp_insert a1 a2 a3 a4 h = some r) : q_T d 24 [.inr (.inr (24, 6, 0)), .inl a1, .inl a2, .inl a3, .inl a4] h (some (.inl r.1), r.2) := by
  obtain ⟨d, rfl⟩ : ∃ d', d = d' + 1 := ⟨d - 1, by omega⟩
  refine q_ent q_K24 rfl rfl rfl ?_
  unfold Rp_insert at HF
  obtain ⟨x1, hx2, HF⟩ := q_bind HF
  refine q_cll (m' := 57) (av := [.inl a2, .inl a3, .inl a4]) (st' := []) (pc' := 7) (loc' := [some (.inr (.inr (24, 6, 0))), some (.inl a1), some (.inl a2), some (.inl a3), some (.inl a4), none, none]) (h' := h) 4 (fun _ _ => rfl) (eRp_isVersion (by omega) hx2) ?_
  refine q_br (P := ¬ x1 = 0) (pcT := 16) (pcF := 10) (loc' := [some (.inr (.inr (24, 6, 0))), some (.inl a1), some (.inl a2), some (.inl a3), some (.inl a4), none, none]) (stk' := []) (h' := h) 1 (fun _ _ => rfl) (fun c30 => ?_) (fun c30 => ?_)
  · rw [if_pos c30] at HF
    obtain ⟨x3, hx4, HF⟩ := q_bind HF
    refine q_cll (m' := 105) (av := [.inr (.inr (6, 0, 0)), .inl a1]) (st' := []) (pc' := 27) (loc' := [some (.inr (.inr (24, 6, 0))), some (.inl a1), some (.inl a2), some (.inl a3), some (.inl a4), none, none]) (h' := h) 5 (fun _ _ => rfl) (eTn_has (by omega) hx4) ?_
    refine q_br (P := ¬ x3 = 0) (pcT := 36) (pcF := 30) (loc' := [some (.inr (.inr (24, 6, 0))), some (.inl a1), some (.inl a2), some (.inl a3), some (.inl a4), none, none]) (stk' := []) (h' := h) 1 (fun _ _ => rfl) (fun c27 => ?_) (fun c27 => ?_)
    · rw [if_pos c27] at HF
      refine q_br (P := (40 : Int32) ≤ (h.1 0 7 0 0)) (pcT := 63) (pcF := 48) (loc' := [some (.inr (.inr (24, 6, 0))), some (.inl a1), some (.inl a2), some (.inl a3), some (.inl a4), none, none]) (stk' := []) (h' := h) 5 (fun _ _ => rfl) (fun c24 => ?_) (fun c24 => ?_)
      · rw [if_pos c24] at HF
        obtain ⟨x5, hx6, HF⟩ := q_bind HF
        refine q_cll (m' := 46) (av := [.inr (.inr (24, 6, 0)), .inl (3 : Int32)]) (st' := []) (pc' := 68) (loc' := [some (.inr (.inr (24, 6, 0))), some (.inl a1), some (.inl a2), some (.inl a3), some (.inl a4), none, none]) (h' := h) 3 (fun _ _ => rfl) (eRp_refuse (by omega) hx6) ?_
        have hz := Option.some.inj HF
        subst hz
        exact q_rtn 1 (fun _ _ => rfl)
      · rw [if_neg c24] at HF
        refine q_br (P := (h.1 11 3 0 0) < (60 : Int32)) (pcT := 69) (pcF := 63) (loc' := [some (.inr (.inr (24, 6, 0))), some (.inl a1), some (.inl a2), some (.inl a3), some (.inl a4), none, none]) (stk' := []) (h' := h) 6 (fun _ _ => rfl) (fun c23 => ?_) (fun c23 => ?_)
        · rw [if_pos c23] at HF
          obtain ⟨x7, hx8, HF⟩ := q_bind HF
          refine q_cll (m' := 48) (av := [.inr (.inr (24, 6, 0)), .inl a1]) (st' := []) (pc' := 74) (loc' := [some (.inr (.inr (24, 6, 0))), some (.inl a1), some (.inl a2), some (.inl a3), some (.inl a4), none, none]) (h' := h) 3 (fun _ _ => rfl) (eRp_asFree (by omega) hx8) ?_
          refine q_br (P := x7 = 0) (pcT := 88) (pcF := 81) (loc' := [some (.inr (.inr (24, 6, 0))), some (.inl a1), some (.inl a2), some (.inl a3), some (.inl a4), some (.inl x7), none]) (stk' := []) (h' := h) 3 (fun _ _ => rfl) (fun c20 => ?_) (fun c20 => ?_)
          · rw [if_pos c20] at HF
            obtain ⟨x9, hx10, HF⟩ := q_bind HF
            refine q_cll (m' := 100) (av := [.inr (.inr (1, 0, 0)), .inl a4]) (st' := []) (pc' := 100) (loc' := [some (.inr (.inr (24, 6, 0))), some (.inl a1), some (.inl a2), some (.inl a3), some (.inl a4), some (.inl x7), none]) (h' := h) 5 (fun _ _ => rfl) (ePg_firstPlace (by omega) hx10) ?_
            refine q_br (P := ¬ x9 = (-1 : Int32)) (pcT := 114) (pcF := 108) (loc' := [some (.inr (.inr (24, 6, 0))), some (.inl a1), some (.inl a2), some (.inl a3), some (.inl a4), some (.inl x7), some (.inl x9)]) (stk' := []) (h' := h) 4 (fun _ _ => rfl) (fun c17 => ?_) (fun c17 => ?_)
            · rw [if_pos c17] at HF
              obtain ⟨x11, hx12, HF⟩ := q_bind HF
              refine q_cll (m' := 160) (av := [.inr (.inr (0, 0, 0)), .inl x9, .inl a2, .inl a3, .inl a4, .inl a1]) (st' := [.inr (.inr (24, 6, 0))]) (pc' := 129) (loc' := [some (.inr (.inr (24, 6, 0))), some (.inl a1), some (.inl a2), some (.inl a3), some (.inl a4), some (.inl x7), some (.inl x9)]) (h' := h) 9 (fun _ _ => rfl) (eSt_addRow (by omega) hx12) ?_
              obtain ⟨x13, hx14, HF⟩ := q_bind HF
              refine q_cll (m' := 45) (av := [.inr (.inr (24, 6, 0)), .inl x11.1]) (st' := []) (pc' := 132) (loc' := [some (.inr (.inr (24, 6, 0))), some (.inl a1), some (.inl a2), some (.inl a3), some (.inl a4), some (.inl x7), some (.inl x9)]) (h' := x11.2) 1 (fun _ _ => rfl) (eRp_answer (by omega) hx14) ?_
              have hz := Option.some.inj HF
              subst hz
              exact q_rtn 1 (fun _ _ => rfl)
            · rw [if_neg c17] at HF
              obtain ⟨x15, hx16, HF⟩ := q_bind HF
              refine q_cll (m' := 46) (av := [.inr (.inr (24, 6, 0)), .inl (5 : Int32)]) (st' := []) (pc' := 113) (loc' := [some (.inr (.inr (24, 6, 0))), some (.inl a1), some (.inl a2), some (.inl a3), some (.inl a4), some (.inl x7), some (.inl x9)]) (h' := h) 3 (fun _ _ => rfl) (eRp_refuse (by omega) hx16) ?_
              have hz := Option.some.inj HF
              subst hz
              exact q_rtn 1 (fun _ _ => rfl)
          · rw [if_neg c20] at HF
            obtain ⟨x18, hx19, HF⟩ := q_bind HF
            refine q_cll (m' := 46) (av := [.inr (.inr (24, 6, 0)), .inl x7]) (st' := []) (pc' := 87) (loc' := [some (.inr (.inr (24, 6, 0))), some (.inl a1), some (.inl a2), some (.inl a3), some (.inl a4), some (.inl x7), none]) (h' := h) 3 (fun _ _ => rfl) (eRp_refuse (by omega) hx19) ?_
            have hz := Option.some.inj HF
            subst hz
            exact q_rtn 1 (fun _ _ => rfl)
        · rw [if_neg c23] at HF
          obtain ⟨x21, hx22, HF⟩ := q_bind HF
          refine q_cll (m' := 46) (av := [.inr (.inr (24, 6, 0)), .inl (3 : Int32)]) (st' := []) (pc' := 68) (loc' := [some (.inr (.inr (24, 6, 0))), some (.inl a1), some (.inl a2), some (.inl a3), some (.inl a4), none, none]) (h' := h) 3 (fun _ _ => rfl) (eRp_refuse (by omega) hx22) ?_
          have hz := Option.some.inj HF
          subst hz
          exact q_rtn 1 (fun _ _ => rfl)
    · rw [if_neg c27] at HF
      obtain ⟨x25, hx26, HF⟩ := q_bind HF
      refine q_cll (m' := 46) (av := [.inr (.inr (24, 6, 0)), .inl (2 : Int32)]) (st' := []) (pc' := 35) (loc' := [some (.inr (.inr (24, 6, 0))), some (.inl a1), some (.inl a2), some (.inl a3), some (.inl a4), none, none]) (h' := h) 3 (fun _ _ => rfl) (eRp_refuse (by omega) hx26) ?_
      have hz := Option.some.inj HF
      subst hz
      exact q_rtn 1 (fun _ _ => rfl)
  · rw [if_neg c30] at HF
    obtain ⟨x28, hx29, HF⟩ := q_bind HF
    refine q_cll (m' := 46) (av := [.inr (.inr (24, 6, 0)), .inl (1 : Int32)]) (st' := []) (pc' := 15) (loc' := [some (.inr (.inr (24, 6, 0))), some (.inl a1), some (.inl a2), some (.inl a3), some (.inl a4), none, none]) (h' := h) 3 (fun _ _ => rfl) (eRp_refuse (by omega) hx29) ?_
    have hz := Option.some.inj HF
    subst hz
    exact q_rtn 1 (fun _ _ => rfl)
def Rp_update (a1 : Int32) (a2 : Int32) (a3 : Int32) (a4 : Int32) (a5 : Int32) (h : q_H) : Option (Int32 × q_H) :=
  (Rp_isVersion a3 a4 a5 h).bind fun x1 => if ¬ x1 = 0 then ((Rp_asChanger a1 a2 h).bind fun x3 => if x3 = 0 then ((St_copyFrom 1 0 h).bind fun x5 => (St_seenPlace 0 a1 a2 x5).bind fun x7 => (St_placeBehind 0 x7 a5 x5).bind fun x9 => (Rp_pageOf x9.1 x9.2).bind fun x11 => (Rp_pageOf x7 x9.2).bind fun x13 => Option.bind (α := Int32) (if ¬ x11 = x13 then (some ((0 : Int32))) else ((Pg_at 0 x7 x9.2).bind fun x19 => if ¬ (x9.2.1 3 3 0 x19) = a3 then (some ((0 : Int32))) else (some ((1 : Int32))))) (fun p23 => if x9.1 = (-1 : Int32) then ((St_copyFrom 0 1 x9.2).bind fun x24 => if ¬ x9.1 = (-1 : Int32) then ((Rp_refuse (3 : Int32) x24).bind fun x26 => some ((x26.1, x26.2))) else ((Rp_refuse (5 : Int32) x24).bind fun x28 => some ((x28.1, x28.2)))) else (if ¬ p23 = 0 then ((St_addVersion 0 x9.1 a2 a3 a4 a5 a1 p23 x9.2).bind fun x31 => (St_endVersion 0 x7 a1 x9.1 x31).bind fun x33 => if p23 = 0 then ((Rp_answer (0 : Int32) x33).bind fun x35 => some ((x35.1, x35.2))) else ((Rp_answer (1 : Int32) x33).bind fun x37 => some ((x37.1, x37.2)))) else (if (x9.2.1 11 3 0 0) < (60 : Int32) then ((St_addVersion 0 x9.1 a2 a3 a4 a5 a1 p23 x9.2).bind fun x40 => (St_endVersion 0 x7 a1 x9.1 x40).bind fun x42 => if p23 = 0 then ((Rp_answer (0 : Int32) x42).bind fun x44 => some ((x44.1, x44.2))) else ((Rp_answer (1 : Int32) x42).bind fun x46 => some ((x46.1, x46.2)))) else ((St_copyFrom 0 1 x9.2).bind fun x49 => if ¬ x9.1 = (-1 : Int32) then ((Rp_refuse (3 : Int32) x49).bind fun x51 => some ((x51.1, x51.2))) else ((Rp_refuse (5 : Int32) x49).bind fun x53 => some ((x53.1, x53.2)))))))) else ((Rp_refuse x3 h).bind fun x60 => some ((x60.1, x60.2)))) else ((Rp_refuse (1 : Int32) h).bind fun x63 => some ((x63.1, x63.2)))
set_option maxRecDepth 100000 in
set_option maxHeartbeats 4000000 in
theorem eRp_update {d : Nat} (hd : 6 ≤ d) {a1 : Int32} {a2 : Int32} {a3 : Int32} {a4 : Int32} {a5 : Int32} {h : q_H} {r : (Int32 × q_H)} (HF : Rp_update a1 a2 a3 a4 a5 h = some r) : q_T d 25 [.inr (.inr (24, 6, 0)), .inl a1, .inl a2, .inl a3, .inl a4, .inl a5] h (some (.inl r.1), r.2) := by
  obtain ⟨d, rfl⟩ : ∃ d', d = d' + 1 := ⟨d - 1, by omega⟩
  refine q_ent q_K25 rfl rfl rfl ?_
  unfold Rp_update at HF
  obtain ⟨x1, hx2, HF⟩ := q_bind HF
  refine q_cll (m' := 57) (av := [.inl a3, .inl a4, .inl a5]) (st' := []) (pc' := 8) (loc' := [some (.inr (.inr (24, 6, 0))), some (.inl a1), some (.inl a2), some (.inl a3), some (.inl a4), some (.inl a5), none, none, none, none]) (h' := h) 4 (fun _ _ => rfl) (eRp_isVersion (by omega) hx2) ?_
  refine q_br (P := ¬ x1 = 0) (pcT := 17) (pcF := 11) (loc' := [some (.inr (.inr (24, 6, 0))), some (.inl a1), some (.inl a2), some (.inl a3), some (.inl a4), some (.inl a5), none, none, none, none]) (stk' := []) (h' := h) 1 (fun _ _ => rfl) (fun c65 => ?_) (fun c65 => ?_)
  · rw [if_pos c65] at HF
    obtain ⟨x3, hx4, HF⟩ := q_bind HF
    refine q_cll (m' := 50) (av := [.inr (.inr (24, 6, 0)), .inl a1, .inl a2]) (st' := []) (pc' := 23) (loc' := [some (.inr (.inr (24, 6, 0))), some (.inl a1), some (.inl a2), some (.inl a3), some (.inl a4), some (.inl a5), none, none, none, none]) (h' := h) 4 (fun _ _ => rfl) (eRp_asChanger (by omega) hx4) ?_
    refine q_br (P := x3 = 0) (pcT := 37) (pcF := 30) (loc' := [some (.inr (.inr (24, 6, 0))), some (.inl a1), some (.inl a2), some (.inl a3), some (.inl a4), some (.inl a5), some (.inl x3), none, none, none]) (stk' := []) (h' := h) 3 (fun _ _ => rfl) (fun c62 => ?_) (fun c62 => ?_)
    · rw [if_pos c62] at HF
      obtain ⟨x5, hx6, HF⟩ := q_bind HF
      refine q_cll (m' := 142) (av := [.inr (.inr (0, 1, 0)), .inr (.inr (0, 0, 0))]) (st' := []) (pc' := 48) (loc' := [some (.inr (.inr (24, 6, 0))), some (.inl a1), some (.inl a2), some (.inl a3), some (.inl a4), some (.inl a5), some (.inl x3), none, none, none]) (h' := h) 5 (fun _ _ => rfl) (eSt_copyFrom (by omega) hx6) ?_
      obtain ⟨x7, hx8, HF⟩ := q_bind HF
      refine q_cll (m' := 156) (av := [.inr (.inr (0, 0, 0)), .inl a1, .inl a2]) (st' := []) (pc' := 57) (loc' := [some (.inr (.inr (24, 6, 0))), some (.inl a1), some (.inl a2), some (.inl a3), some (.inl a4), some (.inl a5), some (.inl x3), none, none, none]) (h' := x5) 5 (fun _ _ => rfl) (eSt_seenPlace (by omega) hx8) ?_
      obtain ⟨x9, hx10, HF⟩ := q_bind HF
      refine q_cll (m' := 163) (av := [.inr (.inr (0, 0, 0)), .inl x7, .inl a5]) (st' := []) (pc' := 70) (loc' := [some (.inr (.inr (24, 6, 0))), some (.inl a1), some (.inl a2), some (.inl a3), some (.inl a4), some (.inl a5), some (.inl x3), some (.inl x7), none, none]) (h' := x5) 6 (fun _ _ => rfl) (eSt_placeBehind (by omega) hx10) ?_
      obtain ⟨x11, hx12, HF⟩ := q_bind HF
      refine q_cll (m' := 58) (av := [.inl x9.1]) (st' := []) (pc' := 77) (loc' := [some (.inr (.inr (24, 6, 0))), some (.inl a1), some (.inl a2), some (.inl a3), some (.inl a4), some (.inl a5), some (.inl x3), some (.inl x7), some (.inl x9.1), none]) (h' := x9.2) 3 (fun _ _ => rfl) (eRp_pageOf (by omega) hx12) ?_
      obtain ⟨x13, hx14, HF⟩ := q_bind HF
      refine q_cll (m' := 58) (av := [.inl x7]) (st' := [.inl x11]) (pc' := 82) (loc' := [some (.inr (.inr (24, 6, 0))), some (.inl a1), some (.inl a2), some (.inl a3), some (.inl a4), some (.inl a5), some (.inl x3), some (.inl x7), some (.inl x9.1), none]) (h' := x9.2) 2 (fun _ _ => rfl) (eRp_pageOf (by omega) hx14) ?_
      obtain ⟨z15, HA16, HK17⟩ := q_bind HF
      have hP18 : ∀ p23 : Int32, (if x9.1 = (-1 : Int32) then ((St_copyFrom 0 1 x9.2).bind fun x24 => if ¬ x9.1 = (-1 : Int32) then ((Rp_refuse (3 : Int32) x24).bind fun x26 => some ((x26.1, x26.2))) else ((Rp_refuse (5 : Int32) x24).bind fun x28 => some ((x28.1, x28.2)))) else (if ¬ p23 = 0 then ((St_addVersion 0 x9.1 a2 a3 a4 a5 a1 p23 x9.2).bind fun x31 => (St_endVersion 0 x7 a1 x9.1 x31).bind fun x33 => if p23 = 0 then ((Rp_answer (0 : Int32) x33).bind fun x35 => some ((x35.1, x35.2))) else ((Rp_answer (1 : Int32) x33).bind fun x37 => some ((x37.1, x37.2)))) else (if (x9.2.1 11 3 0 0) < (60 : Int32) then ((St_addVersion 0 x9.1 a2 a3 a4 a5 a1 p23 x9.2).bind fun x40 => (St_endVersion 0 x7 a1 x9.1 x40).bind fun x42 => if p23 = 0 then ((Rp_answer (0 : Int32) x42).bind fun x44 => some ((x44.1, x44.2))) else ((Rp_answer (1 : Int32) x42).bind fun x46 => some ((x46.1, x46.2)))) else ((St_copyFrom 0 1 x9.2).bind fun x49 => if ¬ x9.1 = (-1 : Int32) then ((Rp_refuse (3 : Int32) x49).bind fun x51 => some ((x51.1, x51.2))) else ((Rp_refuse (5 : Int32) x49).bind fun x53 => some ((x53.1, x53.2)))))) : Option (Int32 × q_H)) = some r → q_E d q_K25 109 [some (.inr (.inr (24, 6, 0))), some (.inl a1), some (.inl a2), some (.inl a3), some (.inl a4), some (.inl a5), some (.inl x3), some (.inl x7), some (.inl x9.1), none] [.inl p23] x9.2 (some (.inl r.1), r.2) := by
        intro p23 HF
        refine q_br (P := x9.1 = (-1 : Int32)) (pcT := 137) (pcF := 117) (loc' := [some (.inr (.inr (24, 6, 0))), some (.inl a1), some (.inl a2), some (.inl a3), some (.inl a4), some (.inl a5), some (.inl x3), some (.inl x7), some (.inl x9.1), some (.inl p23)]) (stk' := []) (h' := x9.2) 4 (fun _ _ => rfl) (fun c58 => ?_) (fun c58 => ?_)
        · rw [if_pos c58] at HF
          obtain ⟨x24, hx25, HF⟩ := q_bind HF
          refine q_cll (m' := 142) (av := [.inr (.inr (0, 0, 0)), .inr (.inr (0, 1, 0))]) (st' := []) (pc' := 148) (loc' := [some (.inr (.inr (24, 6, 0))), some (.inl a1), some (.inl a2), some (.inl a3), some (.inl a4), some (.inl a5), some (.inl x3), some (.inl x7), some (.inl x9.1), some (.inl p23)]) (h' := x9.2) 5 (fun _ _ => rfl) (eSt_copyFrom (by omega) hx25) ?_
          refine q_br (P := ¬ x9.1 = (-1 : Int32)) (pcT := 159) (pcF := 155) (loc' := [some (.inr (.inr (24, 6, 0))), some (.inl a1), some (.inl a2), some (.inl a3), some (.inl a4), some (.inl a5), some (.inl x3), some (.inl x7), some (.inl x9.1), some (.inl p23)]) (stk' := [.inr (.inr (24, 6, 0))]) (h' := x24) 4 (fun _ _ => rfl) (fun c30 => ?_) (fun c30 => ?_)
          · rw [if_pos c30] at HF
            obtain ⟨x26, hx27, HF⟩ := q_bind HF
            refine q_cll (m' := 46) (av := [.inr (.inr (24, 6, 0)), .inl (3 : Int32)]) (st' := []) (pc' := 163) (loc' := [some (.inr (.inr (24, 6, 0))), some (.inl a1), some (.inl a2), some (.inl a3), some (.inl a4), some (.inl a5), some (.inl x3), some (.inl x7), some (.inl x9.1), some (.inl p23)]) (h' := x24) 2 (fun _ _ => rfl) (eRp_refuse (by omega) hx27) ?_
            have hz := Option.some.inj HF
            subst hz
            exact q_rtn 1 (fun _ _ => rfl)
          · rw [if_neg c30] at HF
            obtain ⟨x28, hx29, HF⟩ := q_bind HF
            refine q_cll (m' := 46) (av := [.inr (.inr (24, 6, 0)), .inl (5 : Int32)]) (st' := []) (pc' := 163) (loc' := [some (.inr (.inr (24, 6, 0))), some (.inl a1), some (.inl a2), some (.inl a3), some (.inl a4), some (.inl a5), some (.inl x3), some (.inl x7), some (.inl x9.1), some (.inl p23)]) (h' := x24) 3 (fun _ _ => rfl) (eRp_refuse (by omega) hx29) ?_
            have hz := Option.some.inj HF
            subst hz
            exact q_rtn 1 (fun _ _ => rfl)
        · rw [if_neg c58] at HF
          refine q_br (P := ¬ p23 = 0) (pcT := 164) (pcF := 122) (loc' := [some (.inr (.inr (24, 6, 0))), some (.inl a1), some (.inl a2), some (.inl a3), some (.inl a4), some (.inl a5), some (.inl x3), some (.inl x7), some (.inl x9.1), some (.inl p23)]) (stk' := []) (h' := x9.2) 2 (fun _ _ => rfl) (fun c57 => ?_) (fun c57 => ?_)
          · rw [if_pos c57] at HF
            obtain ⟨x31, hx32, HF⟩ := q_bind HF
            refine q_cll (m' := 161) (av := [.inr (.inr (0, 0, 0)), .inl x9.1, .inl a2, .inl a3, .inl a4, .inl a5, .inl a1, .inl p23]) (st' := []) (pc' := 182) (loc' := [some (.inr (.inr (24, 6, 0))), some (.inl a1), some (.inl a2), some (.inl a3), some (.inl a4), some (.inl a5), some (.inl x3), some (.inl x7), some (.inl x9.1), some (.inl p23)]) (h' := x9.2) 10 (fun _ _ => rfl) (eSt_addVersion (by omega) hx32) ?_
            obtain ⟨x33, hx34, HF⟩ := q_bind HF
            refine q_cll (m' := 162) (av := [.inr (.inr (0, 0, 0)), .inl x7, .inl a1, .inl x9.1]) (st' := []) (pc' := 194) (loc' := [some (.inr (.inr (24, 6, 0))), some (.inl a1), some (.inl a2), some (.inl a3), some (.inl a4), some (.inl a5), some (.inl x3), some (.inl x7), some (.inl x9.1), some (.inl p23)]) (h' := x31) 6 (fun _ _ => rfl) (eSt_endVersion (by omega) hx34) ?_
            refine q_br (P := p23 = 0) (pcT := 204) (pcF := 200) (loc' := [some (.inr (.inr (24, 6, 0))), some (.inl a1), some (.inl a2), some (.inl a3), some (.inl a4), some (.inl a5), some (.inl x3), some (.inl x7), some (.inl x9.1), some (.inl p23)]) (stk' := [.inr (.inr (24, 6, 0))]) (h' := x33) 3 (fun _ _ => rfl) (fun c39 => ?_) (fun c39 => ?_)
            · rw [if_pos c39] at HF
              obtain ⟨x35, hx36, HF⟩ := q_bind HF
              refine q_cll (m' := 45) (av := [.inr (.inr (24, 6, 0)), .inl (0 : Int32)]) (st' := []) (pc' := 208) (loc' := [some (.inr (.inr (24, 6, 0))), some (.inl a1), some (.inl a2), some (.inl a3), some (.inl a4), some (.inl a5), some (.inl x3), some (.inl x7), some (.inl x9.1), some (.inl p23)]) (h' := x33) 2 (fun _ _ => rfl) (eRp_answer (by omega) hx36) ?_
              have hz := Option.some.inj HF
              subst hz
              exact q_rtn 1 (fun _ _ => rfl)
            · rw [if_neg c39] at HF
              obtain ⟨x37, hx38, HF⟩ := q_bind HF
              refine q_cll (m' := 45) (av := [.inr (.inr (24, 6, 0)), .inl (1 : Int32)]) (st' := []) (pc' := 208) (loc' := [some (.inr (.inr (24, 6, 0))), some (.inl a1), some (.inl a2), some (.inl a3), some (.inl a4), some (.inl a5), some (.inl x3), some (.inl x7), some (.inl x9.1), some (.inl p23)]) (h' := x33) 3 (fun _ _ => rfl) (eRp_answer (by omega) hx38) ?_
              have hz := Option.some.inj HF
              subst hz
              exact q_rtn 1 (fun _ _ => rfl)
          · rw [if_neg c57] at HF
            refine q_br (P := (x9.2.1 11 3 0 0) < (60 : Int32)) (pcT := 164) (pcF := 137) (loc' := [some (.inr (.inr (24, 6, 0))), some (.inl a1), some (.inl a2), some (.inl a3), some (.inl a4), some (.inl a5), some (.inl x3), some (.inl x7), some (.inl x9.1), some (.inl p23)]) (stk' := []) (h' := x9.2) 6 (fun _ _ => rfl) (fun c56 => ?_) (fun c56 => ?_)
            · rw [if_pos c56] at HF
              obtain ⟨x40, hx41, HF⟩ := q_bind HF
              refine q_cll (m' := 161) (av := [.inr (.inr (0, 0, 0)), .inl x9.1, .inl a2, .inl a3, .inl a4, .inl a5, .inl a1, .inl p23]) (st' := []) (pc' := 182) (loc' := [some (.inr (.inr (24, 6, 0))), some (.inl a1), some (.inl a2), some (.inl a3), some (.inl a4), some (.inl a5), some (.inl x3), some (.inl x7), some (.inl x9.1), some (.inl p23)]) (h' := x9.2) 10 (fun _ _ => rfl) (eSt_addVersion (by omega) hx41) ?_
              obtain ⟨x42, hx43, HF⟩ := q_bind HF
              refine q_cll (m' := 162) (av := [.inr (.inr (0, 0, 0)), .inl x7, .inl a1, .inl x9.1]) (st' := []) (pc' := 194) (loc' := [some (.inr (.inr (24, 6, 0))), some (.inl a1), some (.inl a2), some (.inl a3), some (.inl a4), some (.inl a5), some (.inl x3), some (.inl x7), some (.inl x9.1), some (.inl p23)]) (h' := x40) 6 (fun _ _ => rfl) (eSt_endVersion (by omega) hx43) ?_
              refine q_br (P := p23 = 0) (pcT := 204) (pcF := 200) (loc' := [some (.inr (.inr (24, 6, 0))), some (.inl a1), some (.inl a2), some (.inl a3), some (.inl a4), some (.inl a5), some (.inl x3), some (.inl x7), some (.inl x9.1), some (.inl p23)]) (stk' := [.inr (.inr (24, 6, 0))]) (h' := x42) 3 (fun _ _ => rfl) (fun c48 => ?_) (fun c48 => ?_)
              · rw [if_pos c48] at HF
                obtain ⟨x44, hx45, HF⟩ := q_bind HF
                refine q_cll (m' := 45) (av := [.inr (.inr (24, 6, 0)), .inl (0 : Int32)]) (st' := []) (pc' := 208) (loc' := [some (.inr (.inr (24, 6, 0))), some (.inl a1), some (.inl a2), some (.inl a3), some (.inl a4), some (.inl a5), some (.inl x3), some (.inl x7), some (.inl x9.1), some (.inl p23)]) (h' := x42) 2 (fun _ _ => rfl) (eRp_answer (by omega) hx45) ?_
                have hz := Option.some.inj HF
                subst hz
                exact q_rtn 1 (fun _ _ => rfl)
              · rw [if_neg c48] at HF
                obtain ⟨x46, hx47, HF⟩ := q_bind HF
                refine q_cll (m' := 45) (av := [.inr (.inr (24, 6, 0)), .inl (1 : Int32)]) (st' := []) (pc' := 208) (loc' := [some (.inr (.inr (24, 6, 0))), some (.inl a1), some (.inl a2), some (.inl a3), some (.inl a4), some (.inl a5), some (.inl x3), some (.inl x7), some (.inl x9.1), some (.inl p23)]) (h' := x42) 3 (fun _ _ => rfl) (eRp_answer (by omega) hx47) ?_
                have hz := Option.some.inj HF
                subst hz
                exact q_rtn 1 (fun _ _ => rfl)
            · rw [if_neg c56] at HF
              obtain ⟨x49, hx50, HF⟩ := q_bind HF
              refine q_cll (m' := 142) (av := [.inr (.inr (0, 0, 0)), .inr (.inr (0, 1, 0))]) (st' := []) (pc' := 148) (loc' := [some (.inr (.inr (24, 6, 0))), some (.inl a1), some (.inl a2), some (.inl a3), some (.inl a4), some (.inl a5), some (.inl x3), some (.inl x7), some (.inl x9.1), some (.inl p23)]) (h' := x9.2) 5 (fun _ _ => rfl) (eSt_copyFrom (by omega) hx50) ?_
              refine q_br (P := ¬ x9.1 = (-1 : Int32)) (pcT := 159) (pcF := 155) (loc' := [some (.inr (.inr (24, 6, 0))), some (.inl a1), some (.inl a2), some (.inl a3), some (.inl a4), some (.inl a5), some (.inl x3), some (.inl x7), some (.inl x9.1), some (.inl p23)]) (stk' := [.inr (.inr (24, 6, 0))]) (h' := x49) 4 (fun _ _ => rfl) (fun c55 => ?_) (fun c55 => ?_)
              · rw [if_pos c55] at HF
                obtain ⟨x51, hx52, HF⟩ := q_bind HF
                refine q_cll (m' := 46) (av := [.inr (.inr (24, 6, 0)), .inl (3 : Int32)]) (st' := []) (pc' := 163) (loc' := [some (.inr (.inr (24, 6, 0))), some (.inl a1), some (.inl a2), some (.inl a3), some (.inl a4), some (.inl a5), some (.inl x3), some (.inl x7), some (.inl x9.1), some (.inl p23)]) (h' := x49) 2 (fun _ _ => rfl) (eRp_refuse (by omega) hx52) ?_
                have hz := Option.some.inj HF
                subst hz
                exact q_rtn 1 (fun _ _ => rfl)
              · rw [if_neg c55] at HF
                obtain ⟨x53, hx54, HF⟩ := q_bind HF
                refine q_cll (m' := 46) (av := [.inr (.inr (24, 6, 0)), .inl (5 : Int32)]) (st' := []) (pc' := 163) (loc' := [some (.inr (.inr (24, 6, 0))), some (.inl a1), some (.inl a2), some (.inl a3), some (.inl a4), some (.inl a5), some (.inl x3), some (.inl x7), some (.inl x9.1), some (.inl p23)]) (h' := x49) 3 (fun _ _ => rfl) (eRp_refuse (by omega) hx54) ?_
                have hz := Option.some.inj HF
                subst hz
                exact q_rtn 1 (fun _ _ => rfl)
      replace HF := HA16
      refine q_br (P := ¬ x11 = x13) (pcT := 108) (pcF := 85) (loc' := [some (.inr (.inr (24, 6, 0))), some (.inl a1), some (.inl a2), some (.inl a3), some (.inl a4), some (.inl a5), some (.inl x3), some (.inl x7), some (.inl x9.1), none]) (stk' := []) (h' := x9.2) 1 (fun _ _ => rfl) (fun c22 => ?_) (fun c22 => ?_)
      · rw [if_pos c22] at HF
        refine q_blk (pc' := 109) (loc' := [some (.inr (.inr (24, 6, 0))), some (.inl a1), some (.inl a2), some (.inl a3), some (.inl a4), some (.inl a5), some (.inl x3), some (.inl x7), some (.inl x9.1), none]) (stk' := [.inl (0 : Int32)]) (h' := x9.2) 1 (fun _ _ => rfl) ?_
        have hz := Option.some.inj HF
        subst hz
        exact hP18 (0 : Int32) HK17
      · rw [if_neg c22] at HF
        obtain ⟨x19, hx20, HF⟩ := q_bind HF
        refine q_cll (m' := 89) (av := [.inr (.inr (1, 0, 0)), .inl x7]) (st' := []) (pc' := 97) (loc' := [some (.inr (.inr (24, 6, 0))), some (.inl a1), some (.inl a2), some (.inl a3), some (.inl a4), some (.inl a5), some (.inl x3), some (.inl x7), some (.inl x9.1), none]) (h' := x9.2) 5 (fun _ _ => rfl) (ePg_at (by omega) hx20) ?_
        refine q_br (P := ¬ (x9.2.1 3 3 0 x19) = a3) (pcT := 108) (pcF := 104) (loc' := [some (.inr (.inr (24, 6, 0))), some (.inl a1), some (.inl a2), some (.inl a3), some (.inl a4), some (.inl a5), some (.inl x3), some (.inl x7), some (.inl x9.1), none]) (stk' := []) (h' := x9.2) 3 (fun _ _ => rfl) (fun c21 => ?_) (fun c21 => ?_)
        · rw [if_pos c21] at HF
          refine q_blk (pc' := 109) (loc' := [some (.inr (.inr (24, 6, 0))), some (.inl a1), some (.inl a2), some (.inl a3), some (.inl a4), some (.inl a5), some (.inl x3), some (.inl x7), some (.inl x9.1), none]) (stk' := [.inl (0 : Int32)]) (h' := x9.2) 1 (fun _ _ => rfl) ?_
          have hz := Option.some.inj HF
          subst hz
          exact hP18 (0 : Int32) HK17
        · rw [if_neg c21] at HF
          refine q_blk (pc' := 109) (loc' := [some (.inr (.inr (24, 6, 0))), some (.inl a1), some (.inl a2), some (.inl a3), some (.inl a4), some (.inl a5), some (.inl x3), some (.inl x7), some (.inl x9.1), none]) (stk' := [.inl (1 : Int32)]) (h' := x9.2) 2 (fun _ _ => rfl) ?_
          have hz := Option.some.inj HF
          subst hz
          exact hP18 (1 : Int32) HK17
    · rw [if_neg c62] at HF
      obtain ⟨x60, hx61, HF⟩ := q_bind HF
      refine q_cll (m' := 46) (av := [.inr (.inr (24, 6, 0)), .inl x3]) (st' := []) (pc' := 36) (loc' := [some (.inr (.inr (24, 6, 0))), some (.inl a1), some (.inl a2), some (.inl a3), some (.inl a4), some (.inl a5), some (.inl x3), none, none, none]) (h' := h) 3 (fun _ _ => rfl) (eRp_refuse (by omega) hx61) ?_
      have hz := Option.some.inj HF
      subst hz
      exact q_rtn 1 (fun _ _ => rfl)
  · rw [if_neg c65] at HF
    obtain ⟨x63, hx64, HF⟩ := q_bind HF
    refine q_cll (m' := 46) (av := [.inr (.inr (24, 6, 0)), .inl (1 : Int32)]) (st' := []) (pc' := 16) (loc' := [some (.inr (.inr (24, 6, 0))), some (.inl a1), some (.inl a2), some (.inl a3), some (.inl a4), some (.inl a5), none, none, none, none]) (h' := h) 3 (fun _ _ => rfl) (eRp_refuse (by omega) hx64) ?_
    have hz := Option.some.inj HF
    subst hz
    exact q_rtn 1 (fun _ _ => rfl)
def Rp_delete (a1 : Int32) (a2 : Int32) (h : q_H) : Option (Int32 × q_H) :=
  (Rp_asChanger a1 a2 h).bind fun x1 => if x1 = 0 then ((St_seenPlace 0 a1 a2 h).bind fun x3 => (St_endVersion 0 x3 a1 (-1 : Int32) h).bind fun x5 => (St_versionsOf 0 a2 x5).bind fun x7 => (Rp_answer x7 x5).bind fun x9 => some ((x9.1, x9.2))) else ((Rp_refuse x1 h).bind fun x11 => some ((x11.1, x11.2)))
set_option maxRecDepth 100000 in
set_option maxHeartbeats 4000000 in
theorem eRp_delete {d : Nat} (hd : 6 ≤ d) {a1 : Int32} {a2 : Int32} {h : q_H} {r : (Int32 × q_H)} (HF : Rp_delete a1 a2 h = some r) : q_T d 26 [.inr (.inr (24, 6, 0)), .inl a1, .inl a2] h (some (.inl r.1), r.2) := by
  obtain ⟨d, rfl⟩ : ∃ d', d = d' + 1 := ⟨d - 1, by omega⟩
  refine q_ent q_K26 rfl rfl rfl ?_
  unfold Rp_delete at HF
  obtain ⟨x1, hx2, HF⟩ := q_bind HF
  refine q_cll (m' := 50) (av := [.inr (.inr (24, 6, 0)), .inl a1, .inl a2]) (st' := []) (pc' := 6) (loc' := [some (.inr (.inr (24, 6, 0))), some (.inl a1), some (.inl a2), none]) (h' := h) 4 (fun _ _ => rfl) (eRp_asChanger (by omega) hx2) ?_
  refine q_br (P := x1 = 0) (pcT := 17) (pcF := 11) (loc' := [some (.inr (.inr (24, 6, 0))), some (.inl a1), some (.inl a2), some (.inl x1)]) (stk' := []) (h' := h) 3 (fun _ _ => rfl) (fun c13 => ?_) (fun c13 => ?_)
  · rw [if_pos c13] at HF
    obtain ⟨x3, hx4, HF⟩ := q_bind HF
    refine q_cll (m' := 156) (av := [.inr (.inr (0, 0, 0)), .inl a1, .inl a2]) (st' := [.inr (.inr (0, 0, 0))]) (pc' := 30) (loc' := [some (.inr (.inr (24, 6, 0))), some (.inl a1), some (.inl a2), some (.inl x1)]) (h' := h) 7 (fun _ _ => rfl) (eSt_seenPlace (by omega) hx4) ?_
    obtain ⟨x5, hx6, HF⟩ := q_bind HF
    refine q_cll (m' := 162) (av := [.inr (.inr (0, 0, 0)), .inl x3, .inl a1, .inl (-1 : Int32)]) (st' := []) (pc' := 35) (loc' := [some (.inr (.inr (24, 6, 0))), some (.inl a1), some (.inl a2), some (.inl x1)]) (h' := h) 3 (fun _ _ => rfl) (eSt_endVersion (by omega) hx6) ?_
    obtain ⟨x7, hx8, HF⟩ := q_bind HF
    refine q_cll (m' := 150) (av := [.inr (.inr (0, 0, 0)), .inl a2]) (st' := [.inr (.inr (24, 6, 0))]) (pc' := 44) (loc' := [some (.inr (.inr (24, 6, 0))), some (.inl a1), some (.inl a2), some (.inl x1)]) (h' := x5) 5 (fun _ _ => rfl) (eSt_versionsOf (by omega) hx8) ?_
    obtain ⟨x9, hx10, HF⟩ := q_bind HF
    refine q_cll (m' := 45) (av := [.inr (.inr (24, 6, 0)), .inl x7]) (st' := []) (pc' := 47) (loc' := [some (.inr (.inr (24, 6, 0))), some (.inl a1), some (.inl a2), some (.inl x1)]) (h' := x5) 1 (fun _ _ => rfl) (eRp_answer (by omega) hx10) ?_
    have hz := Option.some.inj HF
    subst hz
    exact q_rtn 1 (fun _ _ => rfl)
  · rw [if_neg c13] at HF
    obtain ⟨x11, hx12, HF⟩ := q_bind HF
    refine q_cll (m' := 46) (av := [.inr (.inr (24, 6, 0)), .inl x1]) (st' := []) (pc' := 16) (loc' := [some (.inr (.inr (24, 6, 0))), some (.inl a1), some (.inl a2), some (.inl x1)]) (h' := h) 3 (fun _ _ => rfl) (eRp_refuse (by omega) hx12) ?_
    have hz := Option.some.inj HF
    subst hz
    exact q_rtn 1 (fun _ _ => rfl)
def Rp_vacuum  (h : q_H) : Option (Int32 × q_H) :=
  (St_vacuumAll 0 h).bind fun x1 => (Rp_answer x1.1 x1.2).bind fun x3 => some ((x3.1, x3.2))
set_option maxRecDepth 100000 in
set_option maxHeartbeats 4000000 in
theorem eRp_vacuum {d : Nat} (hd : 6 ≤ d)  {h : q_H} {r : (Int32 × q_H)} (HF : Rp_vacuum  h = some r) : q_T d 29 [.inr (.inr (24, 6, 0))] h (some (.inl r.1), r.2) := by
  obtain ⟨d, rfl⟩ : ∃ d', d = d' + 1 := ⟨d - 1, by omega⟩
  refine q_ent q_K29 rfl rfl rfl ?_
  unfold Rp_vacuum at HF
  obtain ⟨x1, hx2, HF⟩ := q_bind HF
  refine q_cll (m' := 166) (av := [.inr (.inr (0, 0, 0))]) (st' := [.inr (.inr (24, 6, 0))]) (pc' := 8) (loc' := [some (.inr (.inr (24, 6, 0)))]) (h' := h) 4 (fun _ _ => rfl) (eSt_vacuumAll (by omega) hx2) ?_
  obtain ⟨x3, hx4, HF⟩ := q_bind HF
  refine q_cll (m' := 45) (av := [.inr (.inr (24, 6, 0)), .inl x1.1]) (st' := []) (pc' := 11) (loc' := [some (.inr (.inr (24, 6, 0)))]) (h' := x1.2) 1 (fun _ _ => rfl) (eRp_answer (by omega) hx4) ?_
  have hz := Option.some.inj HF
  subst hz
  exact q_rtn 1 (fun _ _ => rfl)
def Rp_repack  (h : q_H) : Option (Int32 × q_H) :=
  (Tn_howManyOpen 0 h).bind fun x1 => if x1 ≤ 0 then ((St_copyFrom 1 0 h).bind fun x3 => (St_layAnew 0 1 x3).bind fun x5 => if ¬ x5.1 = 0 then ((Pg_howManyHaveSlots 0 x5.2).bind fun x7 => (Rp_answer x7 x5.2).bind fun x9 => some ((x9.1, x9.2))) else ((St_copyFrom 0 1 x5.2).bind fun x11 => (Rp_refuse (5 : Int32) x11).bind fun x13 => some ((x13.1, x13.2)))) else ((Rp_refuse (10 : Int32) h).bind fun x16 => some ((x16.1, x16.2)))
set_option maxRecDepth 100000 in
set_option maxHeartbeats 4000000 in
theorem eRp_repack {d : Nat} (hd : 6 ≤ d)  {h : q_H} {r : (Int32 × q_H)} (HF : Rp_repack  h = some r) : q_T d 32 [.inr (.inr (24, 6, 0))] h (some (.inl r.1), r.2) := by
  obtain ⟨d, rfl⟩ : ∃ d', d = d' + 1 := ⟨d - 1, by omega⟩
  refine q_ent q_K32 rfl rfl rfl ?_
  unfold Rp_repack at HF
  obtain ⟨x1, hx2, HF⟩ := q_bind HF
  refine q_cll (m' := 117) (av := [.inr (.inr (6, 0, 0))]) (st' := []) (pc' := 10) (loc' := [some (.inr (.inr (24, 6, 0)))]) (h' := h) 4 (fun _ _ => rfl) (eTn_howManyOpen (by omega) hx2) ?_
  refine q_br (P := x1 ≤ 0) (pcT := 20) (pcF := 13) (loc' := [some (.inr (.inr (24, 6, 0)))]) (stk' := []) (h' := h) 1 (fun _ _ => rfl) (fun c18 => ?_) (fun c18 => ?_)
  · rw [if_pos c18] at HF
    obtain ⟨x3, hx4, HF⟩ := q_bind HF
    refine q_cll (m' := 142) (av := [.inr (.inr (0, 1, 0)), .inr (.inr (0, 0, 0))]) (st' := []) (pc' := 31) (loc' := [some (.inr (.inr (24, 6, 0)))]) (h' := h) 5 (fun _ _ => rfl) (eSt_copyFrom (by omega) hx4) ?_
    obtain ⟨x5, hx6, HF⟩ := q_bind HF
    refine q_cll (m' := 176) (av := [.inr (.inr (0, 0, 0)), .inr (.inr (0, 1, 0))]) (st' := []) (pc' := 42) (loc' := [some (.inr (.inr (24, 6, 0)))]) (h' := x3) 5 (fun _ _ => rfl) (eSt_layAnew (by omega) hx6) ?_
    refine q_br (P := ¬ x5.1 = 0) (pcT := 62) (pcF := 45) (loc' := [some (.inr (.inr (24, 6, 0)))]) (stk' := []) (h' := x5.2) 1 (fun _ _ => rfl) (fun c15 => ?_) (fun c15 => ?_)
    · rw [if_pos c15] at HF
      obtain ⟨x7, hx8, HF⟩ := q_bind HF
      refine q_cll (m' := 98) (av := [.inr (.inr (1, 0, 0))]) (st' := [.inr (.inr (24, 6, 0))]) (pc' := 73) (loc' := [some (.inr (.inr (24, 6, 0)))]) (h' := x5.2) 5 (fun _ _ => rfl) (ePg_howManyHaveSlots (by omega) hx8) ?_
      obtain ⟨x9, hx10, HF⟩ := q_bind HF
      refine q_cll (m' := 45) (av := [.inr (.inr (24, 6, 0)), .inl x7]) (st' := []) (pc' := 76) (loc' := [some (.inr (.inr (24, 6, 0)))]) (h' := x5.2) 1 (fun _ _ => rfl) (eRp_answer (by omega) hx10) ?_
      have hz := Option.some.inj HF
      subst hz
      exact q_rtn 1 (fun _ _ => rfl)
    · rw [if_neg c15] at HF
      obtain ⟨x11, hx12, HF⟩ := q_bind HF
      refine q_cll (m' := 142) (av := [.inr (.inr (0, 0, 0)), .inr (.inr (0, 1, 0))]) (st' := []) (pc' := 56) (loc' := [some (.inr (.inr (24, 6, 0)))]) (h' := x5.2) 5 (fun _ _ => rfl) (eSt_copyFrom (by omega) hx12) ?_
      obtain ⟨x13, hx14, HF⟩ := q_bind HF
      refine q_cll (m' := 46) (av := [.inr (.inr (24, 6, 0)), .inl (5 : Int32)]) (st' := []) (pc' := 61) (loc' := [some (.inr (.inr (24, 6, 0)))]) (h' := x11) 3 (fun _ _ => rfl) (eRp_refuse (by omega) hx14) ?_
      have hz := Option.some.inj HF
      subst hz
      exact q_rtn 1 (fun _ _ => rfl)
  · rw [if_neg c18] at HF
    obtain ⟨x16, hx17, HF⟩ := q_bind HF
    refine q_cll (m' := 46) (av := [.inr (.inr (24, 6, 0)), .inl (10 : Int32)]) (st' := []) (pc' := 19) (loc' := [some (.inr (.inr (24, 6, 0)))]) (h' := h) 3 (fun _ _ => rfl) (eRp_refuse (by omega) hx17) ?_
    have hz := Option.some.inj HF
    subst hz
    exact q_rtn 1 (fun _ _ => rfl)
def Rp_gains (a1 : Int32) (h : q_H) : Option (Int32 × q_H) :=
  if a1 < 0 then ((Rp_refuse (1 : Int32) h).bind fun x1 => some ((x1.1, x1.2))) else (if a1 ≤ (5 : Int32) then ((St_copyFrom 1 0 h).bind fun x3 => (St_vacuumAll 1 x3).bind fun x5 => if a1 = 0 then ((Pg_freeInAll 1 x5.2).bind fun x7 => (Pg_freeInAll 0 x5.2).bind fun x9 => (Rp_answer (x7 - x9) x5.2).bind fun x11 => some ((x11.1, x11.2))) else (if a1 = 1 then ((Rp_countGained (1 : Int32) x5.2).bind fun x13 => (Rp_answer x13 x5.2).bind fun x15 => some ((x15.1, x15.2))) else (if a1 = 2 then ((Rp_answer x5.1 x5.2).bind fun x17 => some ((x17.1, x17.2))) else (if a1 = 3 then ((Rp_countGained (3 : Int32) x5.2).bind fun x19 => (Rp_answer x19 x5.2).bind fun x21 => some ((x21.1, x21.2))) else (if a1 = 4 then ((Rp_countGained (4 : Int32) x5.2).bind fun x23 => (Rp_answer x23 x5.2).bind fun x25 => some ((x25.1, x25.2))) else ((Rp_countGained (5 : Int32) x5.2).bind fun x27 => (Rp_answer x27 x5.2).bind fun x29 => some ((x29.1, x29.2)))))))) else ((Rp_refuse (1 : Int32) h).bind fun x36 => some ((x36.1, x36.2))))
set_option maxRecDepth 100000 in
set_option maxHeartbeats 4000000 in
theorem eRp_gains {d : Nat} (hd : 6 ≤ d) {a1 : Int32} {h : q_H} {r : (Int32 × q_H)} (HF : Rp_gains a1 h = some r) : q_T d 41 [.inr (.inr (24, 6, 0)), .inl a1] h (some (.inl r.1), r.2) := by
  obtain ⟨d, rfl⟩ : ∃ d', d = d' + 1 := ⟨d - 1, by omega⟩
  refine q_ent q_K41 rfl rfl rfl ?_
  unfold Rp_gains at HF
  refine q_br (P := a1 < 0) (pcT := 9) (pcF := 4) (loc' := [some (.inr (.inr (24, 6, 0))), some (.inl a1), none]) (stk' := []) (h' := h) 2 (fun _ _ => rfl) (fun c39 => ?_) (fun c39 => ?_)
  · rw [if_pos c39] at HF
    obtain ⟨x1, hx2, HF⟩ := q_bind HF
    refine q_cll (m' := 46) (av := [.inr (.inr (24, 6, 0)), .inl (1 : Int32)]) (st' := []) (pc' := 14) (loc' := [some (.inr (.inr (24, 6, 0))), some (.inl a1), none]) (h' := h) 3 (fun _ _ => rfl) (eRp_refuse (by omega) hx2) ?_
    have hz := Option.some.inj HF
    subst hz
    exact q_rtn 1 (fun _ _ => rfl)
  · rw [if_neg c39] at HF
    refine q_br (P := a1 ≤ (5 : Int32)) (pcT := 15) (pcF := 9) (loc' := [some (.inr (.inr (24, 6, 0))), some (.inl a1), none]) (stk' := []) (h' := h) 3 (fun _ _ => rfl) (fun c38 => ?_) (fun c38 => ?_)
    · rw [if_pos c38] at HF
      obtain ⟨x3, hx4, HF⟩ := q_bind HF
      refine q_cll (m' := 142) (av := [.inr (.inr (0, 1, 0)), .inr (.inr (0, 0, 0))]) (st' := []) (pc' := 26) (loc' := [some (.inr (.inr (24, 6, 0))), some (.inl a1), none]) (h' := h) 5 (fun _ _ => rfl) (eSt_copyFrom (by omega) hx4) ?_
      obtain ⟨x5, hx6, HF⟩ := q_bind HF
      refine q_cll (m' := 166) (av := [.inr (.inr (0, 1, 0))]) (st' := []) (pc' := 33) (loc' := [some (.inr (.inr (24, 6, 0))), some (.inl a1), none]) (h' := x3) 3 (fun _ _ => rfl) (eSt_vacuumAll (by omega) hx6) ?_
      by_cases c31 : a1 = 0
      · rw [if_pos c31] at HF
        refine q_sw (o1 := 33) (pcx := 35) (pc' := 68) (loc' := [some (.inr (.inr (24, 6, 0))), some (.inl a1), some (.inl x5.1)]) (stk' := []) (h' := x5.2) 3 (fun _ _ => rfl) (q_tsI c31 rfl) rfl ?_
        obtain ⟨x7, hx8, HF⟩ := q_bind HF
        refine q_cll (m' := 95) (av := [.inr (.inr (1, 1, 0))]) (st' := [.inr (.inr (24, 6, 0))]) (pc' := 79) (loc' := [some (.inr (.inr (24, 6, 0))), some (.inl a1), some (.inl x5.1)]) (h' := x5.2) 5 (fun _ _ => rfl) (ePg_freeInAll (by omega) hx8) ?_
        obtain ⟨x9, hx10, HF⟩ := q_bind HF
        refine q_cll (m' := 95) (av := [.inr (.inr (1, 0, 0))]) (st' := [.inl x7, .inr (.inr (24, 6, 0))]) (pc' := 89) (loc' := [some (.inr (.inr (24, 6, 0))), some (.inl a1), some (.inl x5.1)]) (h' := x5.2) 4 (fun _ _ => rfl) (ePg_freeInAll (by omega) hx10) ?_
        obtain ⟨x11, hx12, HF⟩ := q_bind HF
        refine q_cll (m' := 45) (av := [.inr (.inr (24, 6, 0)), .inl (x7 - x9)]) (st' := []) (pc' := 93) (loc' := [some (.inr (.inr (24, 6, 0))), some (.inl a1), some (.inl x5.1)]) (h' := x5.2) 2 (fun _ _ => rfl) (eRp_answer (by omega) hx12) ?_
        have hz := Option.some.inj HF
        subst hz
        exact q_rtn 1 (fun _ _ => rfl)
      · rw [if_neg c31] at HF
        by_cases c32 : a1 = 1
        · rw [if_pos c32] at HF
          refine q_sw (o1 := 59) (pcx := 35) (pc' := 94) (loc' := [some (.inr (.inr (24, 6, 0))), some (.inl a1), some (.inl x5.1)]) (stk' := []) (h' := x5.2) 3 (fun _ _ => rfl) (q_tsI c32 rfl) rfl ?_
          obtain ⟨x13, hx14, HF⟩ := q_bind HF
          refine q_cll (m' := 52) (av := [.inr (.inr (24, 6, 0)), .inl (1 : Int32)]) (st' := [.inr (.inr (24, 6, 0))]) (pc' := 100) (loc' := [some (.inr (.inr (24, 6, 0))), some (.inl a1), some (.inl x5.1)]) (h' := x5.2) 4 (fun _ _ => rfl) (eRp_countGained (by omega) hx14) ?_
          obtain ⟨x15, hx16, HF⟩ := q_bind HF
          refine q_cll (m' := 45) (av := [.inr (.inr (24, 6, 0)), .inl x13]) (st' := []) (pc' := 103) (loc' := [some (.inr (.inr (24, 6, 0))), some (.inl a1), some (.inl x5.1)]) (h' := x5.2) 1 (fun _ _ => rfl) (eRp_answer (by omega) hx16) ?_
          have hz := Option.some.inj HF
          subst hz
          exact q_rtn 1 (fun _ _ => rfl)
        · rw [if_neg c32] at HF
          by_cases c33 : a1 = 2
          · rw [if_pos c33] at HF
            refine q_sw (o1 := 69) (pcx := 35) (pc' := 104) (loc' := [some (.inr (.inr (24, 6, 0))), some (.inl a1), some (.inl x5.1)]) (stk' := []) (h' := x5.2) 3 (fun _ _ => rfl) (q_tsI c33 rfl) rfl ?_
            obtain ⟨x17, hx18, HF⟩ := q_bind HF
            refine q_cll (m' := 45) (av := [.inr (.inr (24, 6, 0)), .inl x5.1]) (st' := []) (pc' := 109) (loc' := [some (.inr (.inr (24, 6, 0))), some (.inl a1), some (.inl x5.1)]) (h' := x5.2) 3 (fun _ _ => rfl) (eRp_answer (by omega) hx18) ?_
            have hz := Option.some.inj HF
            subst hz
            exact q_rtn 1 (fun _ _ => rfl)
          · rw [if_neg c33] at HF
            by_cases c34 : a1 = 3
            · rw [if_pos c34] at HF
              refine q_sw (o1 := 75) (pcx := 35) (pc' := 110) (loc' := [some (.inr (.inr (24, 6, 0))), some (.inl a1), some (.inl x5.1)]) (stk' := []) (h' := x5.2) 3 (fun _ _ => rfl) (q_tsI c34 rfl) rfl ?_
              obtain ⟨x19, hx20, HF⟩ := q_bind HF
              refine q_cll (m' := 52) (av := [.inr (.inr (24, 6, 0)), .inl (3 : Int32)]) (st' := [.inr (.inr (24, 6, 0))]) (pc' := 116) (loc' := [some (.inr (.inr (24, 6, 0))), some (.inl a1), some (.inl x5.1)]) (h' := x5.2) 4 (fun _ _ => rfl) (eRp_countGained (by omega) hx20) ?_
              obtain ⟨x21, hx22, HF⟩ := q_bind HF
              refine q_cll (m' := 45) (av := [.inr (.inr (24, 6, 0)), .inl x19]) (st' := []) (pc' := 119) (loc' := [some (.inr (.inr (24, 6, 0))), some (.inl a1), some (.inl x5.1)]) (h' := x5.2) 1 (fun _ _ => rfl) (eRp_answer (by omega) hx22) ?_
              have hz := Option.some.inj HF
              subst hz
              exact q_rtn 1 (fun _ _ => rfl)
            · rw [if_neg c34] at HF
              by_cases c35 : a1 = 4
              · rw [if_pos c35] at HF
                refine q_sw (o1 := 85) (pcx := 35) (pc' := 120) (loc' := [some (.inr (.inr (24, 6, 0))), some (.inl a1), some (.inl x5.1)]) (stk' := []) (h' := x5.2) 3 (fun _ _ => rfl) (q_tsI c35 rfl) rfl ?_
                obtain ⟨x23, hx24, HF⟩ := q_bind HF
                refine q_cll (m' := 52) (av := [.inr (.inr (24, 6, 0)), .inl (4 : Int32)]) (st' := [.inr (.inr (24, 6, 0))]) (pc' := 126) (loc' := [some (.inr (.inr (24, 6, 0))), some (.inl a1), some (.inl x5.1)]) (h' := x5.2) 4 (fun _ _ => rfl) (eRp_countGained (by omega) hx24) ?_
                obtain ⟨x25, hx26, HF⟩ := q_bind HF
                refine q_cll (m' := 45) (av := [.inr (.inr (24, 6, 0)), .inl x23]) (st' := []) (pc' := 129) (loc' := [some (.inr (.inr (24, 6, 0))), some (.inl a1), some (.inl x5.1)]) (h' := x5.2) 1 (fun _ _ => rfl) (eRp_answer (by omega) hx26) ?_
                have hz := Option.some.inj HF
                subst hz
                exact q_rtn 1 (fun _ _ => rfl)
              · rw [if_neg c35] at HF
                refine q_sw (o1 := 95) (pcx := 35) (pc' := 130) (loc' := [some (.inr (.inr (24, 6, 0))), some (.inl a1), some (.inl x5.1)]) (stk' := []) (h' := x5.2) 3 (fun _ _ => rfl) (q_tsD (a := a1) (lo := 0) (hi := 4) (by have z0 := q_neI c31 (a := 0) rfl; have z1 := q_neI c32 (a := 1) rfl; have z2 := q_neI c33 (a := 2) rfl; have z3 := q_neI c34 (a := 3) rfl; have z4 := q_neI c35 (a := 4) rfl; omega)) rfl ?_
                obtain ⟨x27, hx28, HF⟩ := q_bind HF
                refine q_cll (m' := 52) (av := [.inr (.inr (24, 6, 0)), .inl (5 : Int32)]) (st' := [.inr (.inr (24, 6, 0))]) (pc' := 136) (loc' := [some (.inr (.inr (24, 6, 0))), some (.inl a1), some (.inl x5.1)]) (h' := x5.2) 4 (fun _ _ => rfl) (eRp_countGained (by omega) hx28) ?_
                obtain ⟨x29, hx30, HF⟩ := q_bind HF
                refine q_cll (m' := 45) (av := [.inr (.inr (24, 6, 0)), .inl x27]) (st' := []) (pc' := 139) (loc' := [some (.inr (.inr (24, 6, 0))), some (.inl a1), some (.inl x5.1)]) (h' := x5.2) 1 (fun _ _ => rfl) (eRp_answer (by omega) hx30) ?_
                have hz := Option.some.inj HF
                subst hz
                exact q_rtn 1 (fun _ _ => rfl)
    · rw [if_neg c38] at HF
      obtain ⟨x36, hx37, HF⟩ := q_bind HF
      refine q_cll (m' := 46) (av := [.inr (.inr (24, 6, 0)), .inl (1 : Int32)]) (st' := []) (pc' := 14) (loc' := [some (.inr (.inr (24, 6, 0))), some (.inl a1), none]) (h' := h) 3 (fun _ _ => rfl) (eRp_refuse (by omega) hx37) ?_
      have hz := Option.some.inj HF
      subst hz
      exact q_rtn 1 (fun _ _ => rfl)
def Rp_most (a1 : Int32) (h : q_H) : Option (Int32 × q_H) :=
  (Rp_isPage a1 h).bind fun x1 => if ¬ x1 = 0 then ((St_copyFrom 1 0 h).bind fun x3 => (Tn_endAll 1 x3).bind fun x5 => (St_vacuumAll 1 x5).bind fun x7 => (Pg_freeOf 1 a1 x7.2).bind fun x9 => (Rp_answer x9 x7.2).bind fun x11 => some ((x11.1, x11.2))) else ((Rp_refuse (2 : Int32) h).bind fun x13 => some ((x13.1, x13.2)))
set_option maxRecDepth 100000 in
set_option maxHeartbeats 4000000 in
theorem eRp_most {d : Nat} (hd : 6 ≤ d) {a1 : Int32} {h : q_H} {r : (Int32 × q_H)} (HF : Rp_most a1 h = some r) : q_T d 44 [.inr (.inr (24, 6, 0)), .inl a1] h (some (.inl r.1), r.2) := by
  obtain ⟨d, rfl⟩ : ∃ d', d = d' + 1 := ⟨d - 1, by omega⟩
  refine q_ent q_K44 rfl rfl rfl ?_
  unfold Rp_most at HF
  obtain ⟨x1, hx2, HF⟩ := q_bind HF
  refine q_cll (m' := 56) (av := [.inl a1]) (st' := []) (pc' := 4) (loc' := [some (.inr (.inr (24, 6, 0))), some (.inl a1)]) (h' := h) 2 (fun _ _ => rfl) (eRp_isPage (by omega) hx2) ?_
  refine q_br (P := ¬ x1 = 0) (pcT := 13) (pcF := 7) (loc' := [some (.inr (.inr (24, 6, 0))), some (.inl a1)]) (stk' := []) (h' := h) 1 (fun _ _ => rfl) (fun c15 => ?_) (fun c15 => ?_)
  · rw [if_pos c15] at HF
    obtain ⟨x3, hx4, HF⟩ := q_bind HF
    refine q_cll (m' := 142) (av := [.inr (.inr (0, 1, 0)), .inr (.inr (0, 0, 0))]) (st' := []) (pc' := 24) (loc' := [some (.inr (.inr (24, 6, 0))), some (.inl a1)]) (h' := h) 5 (fun _ _ => rfl) (eSt_copyFrom (by omega) hx4) ?_
    obtain ⟨x5, hx6, HF⟩ := q_bind HF
    refine q_cll (m' := 114) (av := [.inr (.inr (6, 1, 0))]) (st' := []) (pc' := 34) (loc' := [some (.inr (.inr (24, 6, 0))), some (.inl a1)]) (h' := x3) 4 (fun _ _ => rfl) (eTn_endAll (by omega) hx6) ?_
    obtain ⟨x7, hx8, HF⟩ := q_bind HF
    refine q_cll (m' := 166) (av := [.inr (.inr (0, 1, 0))]) (st' := []) (pc' := 41) (loc' := [some (.inr (.inr (24, 6, 0))), some (.inl a1)]) (h' := x5) 3 (fun _ _ => rfl) (eSt_vacuumAll (by omega) hx8) ?_
    obtain ⟨x9, hx10, HF⟩ := q_bind HF
    refine q_cll (m' := 94) (av := [.inr (.inr (1, 1, 0)), .inl a1]) (st' := [.inr (.inr (24, 6, 0))]) (pc' := 54) (loc' := [some (.inr (.inr (24, 6, 0))), some (.inl a1)]) (h' := x7.2) 7 (fun _ _ => rfl) (ePg_freeOf (by omega) hx10) ?_
    obtain ⟨x11, hx12, HF⟩ := q_bind HF
    refine q_cll (m' := 45) (av := [.inr (.inr (24, 6, 0)), .inl x9]) (st' := []) (pc' := 57) (loc' := [some (.inr (.inr (24, 6, 0))), some (.inl a1)]) (h' := x7.2) 1 (fun _ _ => rfl) (eRp_answer (by omega) hx12) ?_
    have hz := Option.some.inj HF
    subst hz
    exact q_rtn 1 (fun _ _ => rfl)
  · rw [if_neg c15] at HF
    obtain ⟨x13, hx14, HF⟩ := q_bind HF
    refine q_cll (m' := 46) (av := [.inr (.inr (24, 6, 0)), .inl (2 : Int32)]) (st' := []) (pc' := 12) (loc' := [some (.inr (.inr (24, 6, 0))), some (.inl a1)]) (h' := h) 3 (fun _ _ => rfl) (eRp_refuse (by omega) hx14) ?_
    have hz := Option.some.inj HF
    subst hz
    exact q_rtn 1 (fun _ _ => rfl)
def Rp_addFirstRow (a1 : Int32) (a2 : Int32) (a3 : Int32) (h : q_H) : Option q_H :=
  (Pg_firstPlace 0 a3 h).bind fun x1 => if (40 : Int32) ≤ (h.1 0 7 0 0) then ((Rp_refuse (3 : Int32) h).bind fun x3 => some (x3.2)) else (if ¬ x1 = (-1 : Int32) then ((St_addRow 0 x1 a1 a2 a3 (1 : Int32) h).bind fun x5 => some (x5.2)) else ((Rp_refuse (3 : Int32) h).bind fun x7 => some (x7.2)))
set_option maxRecDepth 100000 in
set_option maxHeartbeats 4000000 in
theorem eRp_addFirstRow {d : Nat} (hd : 6 ≤ d) {a1 : Int32} {a2 : Int32} {a3 : Int32} {h : q_H} {r : q_H} (HF : Rp_addFirstRow a1 a2 a3 h = some r) : q_T d 54 [.inr (.inr (24, 6, 0)), .inl a1, .inl a2, .inl a3] h (none, r) := by
  obtain ⟨d, rfl⟩ : ∃ d', d = d' + 1 := ⟨d - 1, by omega⟩
  refine q_ent q_K54 rfl rfl rfl ?_
  unfold Rp_addFirstRow at HF
  obtain ⟨x1, hx2, HF⟩ := q_bind HF
  refine q_cll (m' := 100) (av := [.inr (.inr (1, 0, 0)), .inl a3]) (st' := []) (pc' := 11) (loc' := [some (.inr (.inr (24, 6, 0))), some (.inl a1), some (.inl a2), some (.inl a3), none]) (h' := h) 5 (fun _ _ => rfl) (ePg_firstPlace (by omega) hx2) ?_
  refine q_br (P := (40 : Int32) ≤ (h.1 0 7 0 0)) (pcT := 31) (pcF := 25) (loc' := [some (.inr (.inr (24, 6, 0))), some (.inl a1), some (.inl a2), some (.inl a3), some (.inl x1)]) (stk' := []) (h' := h) 6 (fun _ _ => rfl) (fun c10 => ?_) (fun c10 => ?_)
  · rw [if_pos c10] at HF
    obtain ⟨x3, hx4, HF⟩ := q_bind HF
    refine q_cll (m' := 46) (av := [.inr (.inr (24, 6, 0)), .inl (3 : Int32)]) (st' := []) (pc' := 36) (loc' := [some (.inr (.inr (24, 6, 0))), some (.inl a1), some (.inl a2), some (.inl a3), some (.inl x1)]) (h' := h) 3 (fun _ _ => rfl) (eRp_refuse (by omega) hx4) ?_
    have hz := Option.some.inj HF
    subst hz
    exact q_rtn 3 (fun _ _ => rfl)
  · rw [if_neg c10] at HF
    refine q_br (P := ¬ x1 = (-1 : Int32)) (pcT := 40) (pcF := 31) (loc' := [some (.inr (.inr (24, 6, 0))), some (.inl a1), some (.inl a2), some (.inl a3), some (.inl x1)]) (stk' := []) (h' := h) 3 (fun _ _ => rfl) (fun c9 => ?_) (fun c9 => ?_)
    · rw [if_pos c9] at HF
      obtain ⟨x5, hx6, HF⟩ := q_bind HF
      refine q_cll (m' := 160) (av := [.inr (.inr (0, 0, 0)), .inl x1, .inl a1, .inl a2, .inl a3, .inl (1 : Int32)]) (st' := []) (pc' := 53) (loc' := [some (.inr (.inr (24, 6, 0))), some (.inl a1), some (.inl a2), some (.inl a3), some (.inl x1)]) (h' := h) 8 (fun _ _ => rfl) (eSt_addRow (by omega) hx6) ?_
      have hz := Option.some.inj HF
      subst hz
      exact q_rtn 2 (fun _ _ => rfl)
    · rw [if_neg c9] at HF
      obtain ⟨x7, hx8, HF⟩ := q_bind HF
      refine q_cll (m' := 46) (av := [.inr (.inr (24, 6, 0)), .inl (3 : Int32)]) (st' := []) (pc' := 36) (loc' := [some (.inr (.inr (24, 6, 0))), some (.inl a1), some (.inl a2), some (.inl a3), some (.inl x1)]) (h' := h) 3 (fun _ _ => rfl) (eRp_refuse (by omega) hx8) ?_
      have hz := Option.some.inj HF
      subst hz
      exact q_rtn 3 (fun _ _ => rfl)
def Tx_readNumbers  (h : q_H) : Option (Int32 × q_H) :=
  (q_lp (fun s1 : Int32 × q_H => ((Tx_numbersOf (s1.2.1 25 7 6 0) s1.2).bind fun x9 => if x9 ≤ s1.1 then (some (.inr (((1 : Int32), s1.2)))) else ((Tx_readKind (2 : Int32) s1.2).bind fun x11 => if ¬ x11.1 = 0 then ((Tx_canBe s1.1 x11.2).bind fun x13 => if ¬ x13 = 0 then ((Rp_put 27 6 s1.1 (x11.2.1 25 6 6 0) x11.2).bind fun x15 => some (.inl ((s1.1 + (1 : Int32)), x15))) else ((Tx_blame (4 : Int32) (x11.2.1 25 5 6 0) x11.2).bind fun x17 => some (.inr (((0 : Int32), x17))))) else (some (.inr (((0 : Int32), x11.2))))) : Option ((Int32 × q_H) ⊕ (Int32 × q_H)))) q_fu (((0 : Int32), h) : Int32 × q_H)).bind fun z8 => some z8
set_option maxRecDepth 100000 in
set_option maxHeartbeats 4000000 in
theorem eTx_readNumbers {d : Nat} (hd : 6 ≤ d)  {h : q_H} {r : (Int32 × q_H)} (HF : Tx_readNumbers  h = some r) : q_T d 130 [.inr (.inr (25, 6, 0))] h (some (.inl r.1), r.2) := by
  obtain ⟨d, rfl⟩ : ∃ d', d = d' + 1 := ⟨d - 1, by omega⟩
  refine q_ent q_K130 rfl rfl rfl ?_
  unfold Tx_readNumbers at HF
  refine q_blk (pc' := 2) (loc' := [some (.inr (.inr (25, 6, 0))), some (.inl (0 : Int32))]) (stk' := []) (h' := h) 2 (fun _ _ => rfl) ?_
  obtain ⟨r6, hl7, HK4⟩ := q_bind HF
  refine q_lpE (E := fun s1 => q_E d q_K130 2 [some (.inr (.inr (25, 6, 0))), some (.inl s1.1)] [] s1.2 (some (.inl r.1), r.2)) r6 (fun s1 z8 HF H12 H23 => ?_) _ _ hl7
  obtain ⟨x9, hx10, HF⟩ := q_bind HF
  refine q_cll (m' := 140) (av := [.inl (s1.2.1 25 7 6 0)]) (st' := [.inl s1.1]) (pc' := 10) (loc' := [some (.inr (.inr (25, 6, 0))), some (.inl s1.1)]) (h' := s1.2) 4 (fun _ _ => rfl) (eTx_numbersOf (by omega) hx10) ?_
  refine q_br (P := x9 ≤ s1.1) (pcT := 60) (pcF := 13) (loc' := [some (.inr (.inr (25, 6, 0))), some (.inl s1.1)]) (stk' := []) (h' := s1.2) 1 (fun _ _ => rfl) (fun c21 => ?_) (fun c21 => ?_)
  · rw [if_pos c21] at HF
    have hz := Option.some.inj HF
    subst hz
    replace HF := HK4
    rw [← H23 _ rfl] at HF
    have hz := Option.some.inj HF
    subst hz
    exact q_rtn 2 (fun _ _ => rfl)
  · rw [if_neg c21] at HF
    obtain ⟨x11, hx12, HF⟩ := q_bind HF
    refine q_cll (m' := 132) (av := [.inr (.inr (25, 6, 0)), .inl (2 : Int32)]) (st' := []) (pc' := 18) (loc' := [some (.inr (.inr (25, 6, 0))), some (.inl s1.1)]) (h' := s1.2) 3 (fun _ _ => rfl) (eTx_readKind (by omega) hx12) ?_
    refine q_br (P := ¬ x11.1 = 0) (pcT := 23) (pcF := 21) (loc' := [some (.inr (.inr (25, 6, 0))), some (.inl s1.1)]) (stk' := []) (h' := x11.2) 1 (fun _ _ => rfl) (fun c20 => ?_) (fun c20 => ?_)
    · rw [if_pos c20] at HF
      obtain ⟨x13, hx14, HF⟩ := q_bind HF
      refine q_cll (m' := 131) (av := [.inr (.inr (25, 6, 0)), .inl s1.1]) (st' := []) (pc' := 28) (loc' := [some (.inr (.inr (25, 6, 0))), some (.inl s1.1)]) (h' := x11.2) 3 (fun _ _ => rfl) (eTx_canBe (by omega) hx14) ?_
      refine q_br (P := ¬ x13 = 0) (pcT := 42) (pcF := 31) (loc' := [some (.inr (.inr (25, 6, 0))), some (.inl s1.1)]) (stk' := []) (h' := x11.2) 1 (fun _ _ => rfl) (fun c19 => ?_) (fun c19 => ?_)
      · rw [if_pos c19] at HF
        obtain ⟨x15, hx16, HF⟩ := q_bind HF
        refine q_cll (m' := 61) (av := [.inr (.inr (27, 6, 0)), .inl s1.1, .inl (x11.2.1 25 6 6 0)]) (st' := []) (pc' := 54) (loc' := [some (.inr (.inr (25, 6, 0))), some (.inl s1.1)]) (h' := x11.2) 6 (fun _ _ => rfl) (eRp_put (by omega) hx16) ?_
        refine q_blk (pc' := 2) (loc' := [some (.inr (.inr (25, 6, 0))), some (.inl (s1.1 + (1 : Int32)))]) (stk' := []) (h' := x15) 2 (fun _ _ => rfl) ?_
        have hz := Option.some.inj HF
        subst hz
        exact H12 ((s1.1 + (1 : Int32)), x15) rfl
      · rw [if_neg c19] at HF
        obtain ⟨x17, hx18, HF⟩ := q_bind HF
        refine q_cll (m' := 125) (av := [.inr (.inr (25, 6, 0)), .inl (4 : Int32), .inl (x11.2.1 25 5 6 0)]) (st' := []) (pc' := 40) (loc' := [some (.inr (.inr (25, 6, 0))), some (.inl s1.1)]) (h' := x11.2) 5 (fun _ _ => rfl) (eTx_blame (by omega) hx18) ?_
        have hz := Option.some.inj HF
        subst hz
        replace HF := HK4
        rw [← H23 _ rfl] at HF
        have hz := Option.some.inj HF
        subst hz
        exact q_rtn 2 (fun _ _ => rfl)
    · rw [if_neg c20] at HF
      have hz := Option.some.inj HF
      subst hz
      replace HF := HK4
      rw [← H23 _ rfl] at HF
      have hz := Option.some.inj HF
      subst hz
      exact q_rtn 2 (fun _ _ => rfl)
def Tx_isSpelled (i1 : Nat) (h : q_H) : Option Int32 :=
  (q_slen i1).bind fun x1 => if x1 = ((h.1 25 3 6 0) - (h.1 25 5 6 0)) then ((q_lp (fun s3 : Int32 => ((q_slen i1).bind fun x11 => if x11 ≤ s3 then (some (.inr ((1 : Int32)))) else ((q_sch i1 s3).bind fun x13 => (Tx_byteAt ((h.1 25 5 6 0) + s3) h).bind fun x15 => if x13 = x15 then (some (.inl (s3 + (1 : Int32)))) else (some (.inr ((0 : Int32))))) : Option ((Int32) ⊕ Int32))) q_fu ((0 : Int32) : Int32)).bind fun z10 => some z10) else (some ((0 : Int32)))
set_option maxRecDepth 100000 in
set_option maxHeartbeats 4000000 in
theorem eTx_isSpelled {d : Nat} (hd : 6 ≤ d) {i1 : Nat} {h : q_H} {r : Int32} (HF : Tx_isSpelled i1 h = some r) : q_T d 139 [.inr (.inr (25, 6, 0)), .inr (.inr (60, 0, i1))] h (some (.inl r), h) := by
  obtain ⟨d, rfl⟩ : ∃ d', d = d' + 1 := ⟨d - 1, by omega⟩
  refine q_ent q_K139 rfl rfl rfl ?_
  unfold Tx_isSpelled at HF
  obtain ⟨x1, hx2, HF⟩ := q_bind HF
  refine q_cll (m' := 1) (av := [.inr (.inr (60, 0, i1))]) (st' := []) (pc' := 4) (loc' := [some (.inr (.inr (25, 6, 0))), some (.inr (.inr (60, 0, i1))), none]) (h' := h) 2 (fun _ _ => rfl) (eStr1 (by omega) hx2) ?_
  refine q_br (P := x1 = ((h.1 25 3 6 0) - (h.1 25 5 6 0))) (pcT := 18) (pcF := 16) (loc' := [some (.inr (.inr (25, 6, 0))), some (.inr (.inr (60, 0, i1))), none]) (stk' := []) (h' := h) 6 (fun _ _ => rfl) (fun c19 => ?_) (fun c19 => ?_)
  · rw [if_pos c19] at HF
    refine q_blk (pc' := 20) (loc' := [some (.inr (.inr (25, 6, 0))), some (.inr (.inr (60, 0, i1))), some (.inl (0 : Int32))]) (stk' := []) (h' := h) 2 (fun _ _ => rfl) ?_
    obtain ⟨r8, hl9, HK6⟩ := q_bind HF
    refine q_lpE (E := fun s3 => q_E d q_K139 20 [some (.inr (.inr (25, 6, 0))), some (.inr (.inr (60, 0, i1))), some (.inl s3)] [] h (some (.inl r), h)) r8 (fun s3 z10 HF H14 H25 => ?_) _ _ hl9
    obtain ⟨x11, hx12, HF⟩ := q_bind HF
    refine q_cll (m' := 1) (av := [.inr (.inr (60, 0, i1))]) (st' := [.inl s3]) (pc' := 25) (loc' := [some (.inr (.inr (25, 6, 0))), some (.inr (.inr (60, 0, i1))), some (.inl s3)]) (h' := h) 3 (fun _ _ => rfl) (eStr1 (by omega) hx12) ?_
    refine q_br (P := x11 ≤ s3) (pcT := 54) (pcF := 28) (loc' := [some (.inr (.inr (25, 6, 0))), some (.inr (.inr (60, 0, i1))), some (.inl s3)]) (stk' := []) (h' := h) 1 (fun _ _ => rfl) (fun c18 => ?_) (fun c18 => ?_)
    · rw [if_pos c18] at HF
      have hz := Option.some.inj HF
      subst hz
      replace HF := HK6
      rw [← H25 _ rfl] at HF
      have hz := Option.some.inj HF
      subst hz
      exact q_rtn 2 (fun _ _ => rfl)
    · rw [if_neg c18] at HF
      obtain ⟨x13, hx14, HF⟩ := q_bind HF
      refine q_cll (m' := 2) (av := [.inr (.inr (60, 0, i1)), .inl s3]) (st' := []) (pc' := 33) (loc' := [some (.inr (.inr (25, 6, 0))), some (.inr (.inr (60, 0, i1))), some (.inl s3)]) (h' := h) 3 (fun _ _ => rfl) (eStr2 (by omega) hx14) ?_
      obtain ⟨x15, hx16, HF⟩ := q_bind HF
      refine q_cll (m' := 134) (av := [.inr (.inr (25, 6, 0)), .inl ((h.1 25 5 6 0) + s3)]) (st' := [.inl x13]) (pc' := 43) (loc' := [some (.inr (.inr (25, 6, 0))), some (.inr (.inr (60, 0, i1))), some (.inl s3)]) (h' := h) 6 (fun _ _ => rfl) (eTx_byteAt (by omega) hx16) ?_
      refine q_br (P := x13 = x15) (pcT := 48) (pcF := 46) (loc' := [some (.inr (.inr (25, 6, 0))), some (.inr (.inr (60, 0, i1))), some (.inl s3)]) (stk' := []) (h' := h) 1 (fun _ _ => rfl) (fun c17 => ?_) (fun c17 => ?_)
      · rw [if_pos c17] at HF
        refine q_blk (pc' := 20) (loc' := [some (.inr (.inr (25, 6, 0))), some (.inr (.inr (60, 0, i1))), some (.inl (s3 + (1 : Int32)))]) (stk' := []) (h' := h) 2 (fun _ _ => rfl) ?_
        have hz := Option.some.inj HF
        subst hz
        exact H14 (s3 + (1 : Int32)) rfl
      · rw [if_neg c17] at HF
        have hz := Option.some.inj HF
        subst hz
        replace HF := HK6
        rw [← H25 _ rfl] at HF
        have hz := Option.some.inj HF
        subst hz
        exact q_rtn 2 (fun _ _ => rfl)
  · rw [if_neg c19] at HF
    have hz := Option.some.inj HF
    subst hz
    exact q_rtn 2 (fun _ _ => rfl)
def Mo_prunes (a1 : Int32) (h : q_H) : Option (Int32 × q_H) :=
  (Mo_horizon h).bind fun x1 => bif q_in ((17 : Int32) + a1) 1644 then ((q_lp (fun s3 : Int32 × Int32 × q_H => (Option.bind (α := (Unit) ⊕ ((Int32 × Int32 × q_H) ⊕ (Int32 × q_H))) (if (((10 : Int32) * a1) + (h.1 31 0 7 ((17 : Int32) + a1).toNatClampNeg)) ≤ s3.2.1 then (some (.inr (.inr ((s3.1, s3.2.2))))) else (some (.inl ()))) (fun z11 => match z11 with | .inl p16 => (Mo_of s3.2.1 (0 : Int32) s3.2.2).bind fun x17 => Option.bind (α := Int32 × q_H) (if x17 = (2 : Int32) then ((Mo_cuts s3.2.1 x1 s3.2.2).bind fun x23 => some (((s3.1 + x23.1), x23.2))) else ((Mo_isFull s3.2.1 s3.2.2).bind fun x25 => Option.bind (α := (Unit) ⊕ (Int32 × q_H)) (if x25 = 0 then (some (.inr ((s3.1, s3.2.2)))) else (some (.inl ()))) (fun z27 => match z27 with | .inl p32 => (Mo_of s3.2.1 (10 : Int32) s3.2.2).bind fun x33 => Option.bind (α := (Unit) ⊕ (Int32 × q_H)) (if ¬ x33 = 0 then (some (.inr ((s3.1, s3.2.2)))) else (some (.inl ()))) (fun z35 => match z35 with | .inl p40 => (Mo_cuts s3.2.1 x1 s3.2.2).bind fun x41 => some (((s3.1 + x41.1), x41.2)) | .inr z35 => some z35) | .inr z27 => some z27))) (fun p46 => some (.inl (p46.1, (s3.2.1 + (1 : Int32)), p46.2))) | .inr z11 => some z11) : Option ((Int32 × Int32 × q_H) ⊕ (Int32 × q_H)))) q_fu (((0 : Int32), ((10 : Int32) * a1), h) : Int32 × Int32 × q_H)).bind fun p49 => (q_lp (fun s50 : Int32 × Int32 × q_H => (Option.bind (α := (Unit) ⊕ ((Int32 × Int32 × q_H) ⊕ (Int32 × q_H))) (if (((10 : Int32) * a1) + (h.1 31 0 7 ((17 : Int32) + a1).toNatClampNeg)) ≤ s50.2.1 then (some (.inr (.inr ((s50.1, s50.2.2))))) else (some (.inl ()))) (fun z58 => match z58 with | .inl p63 => (Mo_isFull s50.2.1 s50.2.2).bind fun x64 => Option.bind (α := Int32 × q_H) (if x64 = 0 then (some ((s50.1, s50.2.2))) else ((Mo_of s50.2.1 (10 : Int32) s50.2.2).bind fun x70 => Option.bind (α := (Unit) ⊕ (Int32 × q_H)) (if x70 = 0 then (some (.inr ((s50.1, s50.2.2)))) else (some (.inl ()))) (fun z72 => match z72 with | .inl p77 => (Mo_of s50.2.1 (11 : Int32) s50.2.2).bind fun x78 => Option.bind (α := (Unit) ⊕ (Int32 × q_H)) (if x78 = (1 : Int32) then (some (.inr ((s50.1, s50.2.2)))) else (some (.inl ()))) (fun z80 => match z80 with | .inl p85 => (Mo_of s50.2.1 (6 : Int32) s50.2.2).bind fun x86 => (Mo_stateOf x86 s50.2.2).bind fun x88 => if x88 = (2 : Int32) then ((Mo_goes s50.2.1 s50.2.2).bind fun x90 => some (((s50.1 + (1 : Int32)), x90))) else (some ((s50.1, s50.2.2))) | .inr z80 => some z80) | .inr z72 => some z72))) (fun p96 => some (.inl (p96.1, (s50.2.1 + (1 : Int32)), p96.2))) | .inr z58 => some z58) : Option ((Int32 × Int32 × q_H) ⊕ (Int32 × q_H)))) q_fu ((p49.1, ((10 : Int32) * a1), p49.2) : Int32 × Int32 × q_H)).bind fun p99 => if ¬ p99.1 = 0 then ((Mo_tellsOf (0 : Int32) a1 (q_si (q_si p99.2 31 0 7 9 ((p99.2.1 31 0 7 9) + (1 : Int32))) 31 0 7 10 (((q_si p99.2 31 0 7 9 ((p99.2.1 31 0 7 9) + (1 : Int32))).1 31 0 7 10) + p99.1))).bind fun x100 => some ((p99.1, x100))) else (some (((0 : Int32), p99.2)))) else none
set_option maxRecDepth 100000 in
set_option maxHeartbeats 4000000 in
theorem eMo_prunes {d : Nat} (hd : 6 ≤ d) {a1 : Int32} {h : q_H} {r : (Int32 × q_H)} (HF : Mo_prunes a1 h = some r) : q_T d 215 [.inr (.inr (30, 7, 0)), .inl a1] h (some (.inl r.1), r.2) := by
  obtain ⟨d, rfl⟩ : ∃ d', d = d' + 1 := ⟨d - 1, by omega⟩
  refine q_ent q_K215 rfl rfl rfl ?_
  unfold Mo_prunes at HF
  obtain ⟨x1, hx2, HF⟩ := q_bind HF
  refine q_cll (m' := 205) (av := [.inr (.inr (30, 7, 0))]) (st' := []) (pc' := 4) (loc' := [some (.inr (.inr (30, 7, 0))), some (.inl a1), none, none, none, none, none]) (h' := h) 2 (fun _ _ => rfl) (eMo_horizon (by omega) hx2) ?_
  obtain ⟨g103, HF⟩ := q_gF HF
  refine q_gd (pc' := 20) (loc' := [some (.inr (.inr (30, 7, 0))), some (.inl a1), some (.inl x1), some (.inl ((10 : Int32) * a1)), none, none, none]) (stk' := [.inl (h.1 31 0 7 ((17 : Int32) + a1).toNatClampNeg), .inl ((10 : Int32) * a1)]) (h' := h) 12 (fun _ _ => rfl) g103 ?_
  refine q_blk (pc' := 29) (loc' := [some (.inr (.inr (30, 7, 0))), some (.inl a1), some (.inl x1), some (.inl ((10 : Int32) * a1)), some (.inl (((10 : Int32) * a1) + (h.1 31 0 7 ((17 : Int32) + a1).toNatClampNeg))), some (.inl (0 : Int32)), some (.inl ((10 : Int32) * a1))]) (stk' := []) (h' := h) 6 (fun _ _ => rfl) ?_
  obtain ⟨r8, hl9, HK6⟩ := q_bind HF
  have hP7 : ∀ p49 : Int32 × q_H, ((q_lp (fun s50 : Int32 × Int32 × q_H => (Option.bind (α := (Unit) ⊕ ((Int32 × Int32 × q_H) ⊕ (Int32 × q_H))) (if (((10 : Int32) * a1) + (h.1 31 0 7 ((17 : Int32) + a1).toNatClampNeg)) ≤ s50.2.1 then (some (.inr (.inr ((s50.1, s50.2.2))))) else (some (.inl ()))) (fun z58 => match z58 with | .inl p63 => (Mo_isFull s50.2.1 s50.2.2).bind fun x64 => Option.bind (α := Int32 × q_H) (if x64 = 0 then (some ((s50.1, s50.2.2))) else ((Mo_of s50.2.1 (10 : Int32) s50.2.2).bind fun x70 => Option.bind (α := (Unit) ⊕ (Int32 × q_H)) (if x70 = 0 then (some (.inr ((s50.1, s50.2.2)))) else (some (.inl ()))) (fun z72 => match z72 with | .inl p77 => (Mo_of s50.2.1 (11 : Int32) s50.2.2).bind fun x78 => Option.bind (α := (Unit) ⊕ (Int32 × q_H)) (if x78 = (1 : Int32) then (some (.inr ((s50.1, s50.2.2)))) else (some (.inl ()))) (fun z80 => match z80 with | .inl p85 => (Mo_of s50.2.1 (6 : Int32) s50.2.2).bind fun x86 => (Mo_stateOf x86 s50.2.2).bind fun x88 => if x88 = (2 : Int32) then ((Mo_goes s50.2.1 s50.2.2).bind fun x90 => some (((s50.1 + (1 : Int32)), x90))) else (some ((s50.1, s50.2.2))) | .inr z80 => some z80) | .inr z72 => some z72))) (fun p96 => some (.inl (p96.1, (s50.2.1 + (1 : Int32)), p96.2))) | .inr z58 => some z58) : Option ((Int32 × Int32 × q_H) ⊕ (Int32 × q_H)))) q_fu ((p49.1, ((10 : Int32) * a1), p49.2) : Int32 × Int32 × q_H)).bind fun p99 => if ¬ p99.1 = 0 then ((Mo_tellsOf (0 : Int32) a1 (q_si (q_si p99.2 31 0 7 9 ((p99.2.1 31 0 7 9) + (1 : Int32))) 31 0 7 10 (((q_si p99.2 31 0 7 9 ((p99.2.1 31 0 7 9) + (1 : Int32))).1 31 0 7 10) + p99.1))).bind fun x100 => some ((p99.1, x100))) else (some (((0 : Int32), p99.2))) : Option (Int32 × q_H)) = some r → q_E d q_K215 85 [some (.inr (.inr (30, 7, 0))), some (.inl a1), some (.inl x1), some (.inl ((10 : Int32) * a1)), some (.inl (((10 : Int32) * a1) + (h.1 31 0 7 ((17 : Int32) + a1).toNatClampNeg))), some (.inl p49.1), none] [] p49.2 (some (.inl r.1), r.2) := by
    intro p49 HF
    refine q_blk (pc' := 88) (loc' := [some (.inr (.inr (30, 7, 0))), some (.inl a1), some (.inl x1), some (.inl ((10 : Int32) * a1)), some (.inl (((10 : Int32) * a1) + (h.1 31 0 7 ((17 : Int32) + a1).toNatClampNeg))), some (.inl p49.1), some (.inl ((10 : Int32) * a1))]) (stk' := []) (h' := p49.2) 2 (fun _ _ => rfl) ?_
    obtain ⟨r55, hl56, HK53⟩ := q_bind HF
    have hP54 : ∀ p99 : Int32 × q_H, (if ¬ p99.1 = 0 then ((Mo_tellsOf (0 : Int32) a1 (q_si (q_si p99.2 31 0 7 9 ((p99.2.1 31 0 7 9) + (1 : Int32))) 31 0 7 10 (((q_si p99.2 31 0 7 9 ((p99.2.1 31 0 7 9) + (1 : Int32))).1 31 0 7 10) + p99.1))).bind fun x100 => some ((p99.1, x100))) else (some (((0 : Int32), p99.2))) : Option (Int32 × q_H)) = some r → q_E d q_K215 161 [some (.inr (.inr (30, 7, 0))), some (.inl a1), some (.inl x1), some (.inl ((10 : Int32) * a1)), some (.inl (((10 : Int32) * a1) + (h.1 31 0 7 ((17 : Int32) + a1).toNatClampNeg))), some (.inl p99.1), none] [] p99.2 (some (.inl r.1), r.2) := by
      intro p99 HF
      refine q_br (P := ¬ p99.1 = 0) (pcT := 168) (pcF := 166) (loc' := [some (.inr (.inr (30, 7, 0))), some (.inl a1), some (.inl x1), some (.inl ((10 : Int32) * a1)), some (.inl (((10 : Int32) * a1) + (h.1 31 0 7 ((17 : Int32) + a1).toNatClampNeg))), some (.inl p99.1), none]) (stk' := []) (h' := p99.2) 2 (fun _ _ => rfl) (fun c102 => ?_) (fun c102 => ?_)
      · rw [if_pos c102] at HF
        obtain ⟨x100, hx101, HF⟩ := q_bind HF
        refine q_cll (m' := 212) (av := [.inr (.inr (30, 7, 0)), .inl (0 : Int32), .inl a1]) (st' := []) (pc' := 197) (loc' := [some (.inr (.inr (30, 7, 0))), some (.inl a1), some (.inl x1), some (.inl ((10 : Int32) * a1)), some (.inl (((10 : Int32) * a1) + (h.1 31 0 7 ((17 : Int32) + a1).toNatClampNeg))), some (.inl p99.1), none]) (h' := (q_si (q_si p99.2 31 0 7 9 ((p99.2.1 31 0 7 9) + (1 : Int32))) 31 0 7 10 (((q_si p99.2 31 0 7 9 ((p99.2.1 31 0 7 9) + (1 : Int32))).1 31 0 7 10) + p99.1))) 20 (fun _ _ => rfl) (eMo_tellsOf (by omega) hx101) ?_
        have hz := Option.some.inj HF
        subst hz
        exact q_rtn 2 (fun _ _ => rfl)
      · rw [if_neg c102] at HF
        have hz := Option.some.inj HF
        subst hz
        exact q_rtn 2 (fun _ _ => rfl)
    refine q_lpE (E := fun s50 => q_E d q_K215 88 [some (.inr (.inr (30, 7, 0))), some (.inl a1), some (.inl x1), some (.inl ((10 : Int32) * a1)), some (.inl (((10 : Int32) * a1) + (h.1 31 0 7 ((17 : Int32) + a1).toNatClampNeg))), some (.inl s50.1), some (.inl s50.2.1)] [] s50.2.2 (some (.inl r.1), r.2)) r55 (fun s50 z57 HF H151 H252 => ?_) _ _ hl56
    obtain ⟨z58, HA59, HK60⟩ := q_bind HF
    have hP61 : ∀ p63 : Unit, ((Mo_isFull s50.2.1 s50.2.2).bind fun x64 => Option.bind (α := Int32 × q_H) (if x64 = 0 then (some ((s50.1, s50.2.2))) else ((Mo_of s50.2.1 (10 : Int32) s50.2.2).bind fun x70 => Option.bind (α := (Unit) ⊕ (Int32 × q_H)) (if x70 = 0 then (some (.inr ((s50.1, s50.2.2)))) else (some (.inl ()))) (fun z72 => match z72 with | .inl p77 => (Mo_of s50.2.1 (11 : Int32) s50.2.2).bind fun x78 => Option.bind (α := (Unit) ⊕ (Int32 × q_H)) (if x78 = (1 : Int32) then (some (.inr ((s50.1, s50.2.2)))) else (some (.inl ()))) (fun z80 => match z80 with | .inl p85 => (Mo_of s50.2.1 (6 : Int32) s50.2.2).bind fun x86 => (Mo_stateOf x86 s50.2.2).bind fun x88 => if x88 = (2 : Int32) then ((Mo_goes s50.2.1 s50.2.2).bind fun x90 => some (((s50.1 + (1 : Int32)), x90))) else (some ((s50.1, s50.2.2))) | .inr z80 => some z80) | .inr z72 => some z72))) (fun p96 => some (.inl (p96.1, (s50.2.1 + (1 : Int32)), p96.2))) : Option ((Int32 × Int32 × q_H) ⊕ (Int32 × q_H))) = some z57 → q_E d q_K215 95 [some (.inr (.inr (30, 7, 0))), some (.inl a1), some (.inl x1), some (.inl ((10 : Int32) * a1)), some (.inl (((10 : Int32) * a1) + (h.1 31 0 7 ((17 : Int32) + a1).toNatClampNeg))), some (.inl s50.1), some (.inl s50.2.1)] [] s50.2.2 (some (.inl r.1), r.2) := by
      intro p63 HF
      obtain ⟨x64, hx65, HF⟩ := q_bind HF
      refine q_cll (m' := 189) (av := [.inr (.inr (30, 7, 0)), .inl s50.2.1]) (st' := []) (pc' := 101) (loc' := [some (.inr (.inr (30, 7, 0))), some (.inl a1), some (.inl x1), some (.inl ((10 : Int32) * a1)), some (.inl (((10 : Int32) * a1) + (h.1 31 0 7 ((17 : Int32) + a1).toNatClampNeg))), some (.inl s50.1), some (.inl s50.2.1)]) (h' := s50.2.2) 3 (fun _ _ => rfl) (eMo_isFull (by omega) hx65) ?_
      obtain ⟨z66, HA67, HK68⟩ := q_bind HF
      have hP69 : ∀ p96 : Int32 × q_H, (some (.inl (p96.1, (s50.2.1 + (1 : Int32)), p96.2)) : Option ((Int32 × Int32 × q_H) ⊕ (Int32 × q_H))) = some z57 → q_E d q_K215 155 [some (.inr (.inr (30, 7, 0))), some (.inl a1), some (.inl x1), some (.inl ((10 : Int32) * a1)), some (.inl (((10 : Int32) * a1) + (h.1 31 0 7 ((17 : Int32) + a1).toNatClampNeg))), some (.inl p96.1), some (.inl s50.2.1)] [] p96.2 (some (.inl r.1), r.2) := by
        intro p96 HF
        refine q_blk (pc' := 88) (loc' := [some (.inr (.inr (30, 7, 0))), some (.inl a1), some (.inl x1), some (.inl ((10 : Int32) * a1)), some (.inl (((10 : Int32) * a1) + (h.1 31 0 7 ((17 : Int32) + a1).toNatClampNeg))), some (.inl p96.1), some (.inl (s50.2.1 + (1 : Int32)))]) (stk' := []) (h' := p96.2) 2 (fun _ _ => rfl) ?_
        have hz := Option.some.inj HF
        subst hz
        exact H151 (p96.1, (s50.2.1 + (1 : Int32)), p96.2) rfl
      replace HF := HA67
      refine q_br (P := x64 = 0) (pcT := 155) (pcF := 104) (loc' := [some (.inr (.inr (30, 7, 0))), some (.inl a1), some (.inl x1), some (.inl ((10 : Int32) * a1)), some (.inl (((10 : Int32) * a1) + (h.1 31 0 7 ((17 : Int32) + a1).toNatClampNeg))), some (.inl s50.1), some (.inl s50.2.1)]) (stk' := []) (h' := s50.2.2) 1 (fun _ _ => rfl) (fun c95 => ?_) (fun c95 => ?_)
      · rw [if_pos c95] at HF
        have hz := Option.some.inj HF
        subst hz
        exact hP69 (s50.1, s50.2.2) HK68
      · rw [if_neg c95] at HF
        obtain ⟨x70, hx71, HF⟩ := q_bind HF
        refine q_cll (m' := 187) (av := [.inr (.inr (30, 7, 0)), .inl s50.2.1, .inl (10 : Int32)]) (st' := []) (pc' := 112) (loc' := [some (.inr (.inr (30, 7, 0))), some (.inl a1), some (.inl x1), some (.inl ((10 : Int32) * a1)), some (.inl (((10 : Int32) * a1) + (h.1 31 0 7 ((17 : Int32) + a1).toNatClampNeg))), some (.inl s50.1), some (.inl s50.2.1)]) (h' := s50.2.2) 4 (fun _ _ => rfl) (eMo_of (by omega) hx71) ?_
        obtain ⟨z72, HA73, HK74⟩ := q_bind HF
        have hP75 : ∀ p77 : Unit, ((Mo_of s50.2.1 (11 : Int32) s50.2.2).bind fun x78 => Option.bind (α := (Unit) ⊕ (Int32 × q_H)) (if x78 = (1 : Int32) then (some (.inr ((s50.1, s50.2.2)))) else (some (.inl ()))) (fun z80 => match z80 with | .inl p85 => (Mo_of s50.2.1 (6 : Int32) s50.2.2).bind fun x86 => (Mo_stateOf x86 s50.2.2).bind fun x88 => if x88 = (2 : Int32) then ((Mo_goes s50.2.1 s50.2.2).bind fun x90 => some (((s50.1 + (1 : Int32)), x90))) else (some ((s50.1, s50.2.2))) | .inr z80 => some z80) : Option (Int32 × q_H)) = some z66 → q_E d q_K215 115 [some (.inr (.inr (30, 7, 0))), some (.inl a1), some (.inl x1), some (.inl ((10 : Int32) * a1)), some (.inl (((10 : Int32) * a1) + (h.1 31 0 7 ((17 : Int32) + a1).toNatClampNeg))), some (.inl s50.1), some (.inl s50.2.1)] [] s50.2.2 (some (.inl r.1), r.2) := by
          intro p77 HF
          obtain ⟨x78, hx79, HF⟩ := q_bind HF
          refine q_cll (m' := 187) (av := [.inr (.inr (30, 7, 0)), .inl s50.2.1, .inl (11 : Int32)]) (st' := []) (pc' := 123) (loc' := [some (.inr (.inr (30, 7, 0))), some (.inl a1), some (.inl x1), some (.inl ((10 : Int32) * a1)), some (.inl (((10 : Int32) * a1) + (h.1 31 0 7 ((17 : Int32) + a1).toNatClampNeg))), some (.inl s50.1), some (.inl s50.2.1)]) (h' := s50.2.2) 4 (fun _ _ => rfl) (eMo_of (by omega) hx79) ?_
          obtain ⟨z80, HA81, HK82⟩ := q_bind HF
          have hP83 : ∀ p85 : Unit, ((Mo_of s50.2.1 (6 : Int32) s50.2.2).bind fun x86 => (Mo_stateOf x86 s50.2.2).bind fun x88 => if x88 = (2 : Int32) then ((Mo_goes s50.2.1 s50.2.2).bind fun x90 => some (((s50.1 + (1 : Int32)), x90))) else (some ((s50.1, s50.2.2))) : Option (Int32 × q_H)) = some z66 → q_E d q_K215 127 [some (.inr (.inr (30, 7, 0))), some (.inl a1), some (.inl x1), some (.inl ((10 : Int32) * a1)), some (.inl (((10 : Int32) * a1) + (h.1 31 0 7 ((17 : Int32) + a1).toNatClampNeg))), some (.inl s50.1), some (.inl s50.2.1)] [] s50.2.2 (some (.inl r.1), r.2) := by
            intro p85 HF
            obtain ⟨x86, hx87, HF⟩ := q_bind HF
            refine q_cll (m' := 187) (av := [.inr (.inr (30, 7, 0)), .inl s50.2.1, .inl (6 : Int32)]) (st' := [.inr (.inr (30, 7, 0))]) (pc' := 136) (loc' := [some (.inr (.inr (30, 7, 0))), some (.inl a1), some (.inl x1), some (.inl ((10 : Int32) * a1)), some (.inl (((10 : Int32) * a1) + (h.1 31 0 7 ((17 : Int32) + a1).toNatClampNeg))), some (.inl s50.1), some (.inl s50.2.1)]) (h' := s50.2.2) 5 (fun _ _ => rfl) (eMo_of (by omega) hx87) ?_
            obtain ⟨x88, hx89, HF⟩ := q_bind HF
            refine q_cll (m' := 196) (av := [.inr (.inr (30, 7, 0)), .inl x86]) (st' := []) (pc' := 139) (loc' := [some (.inr (.inr (30, 7, 0))), some (.inl a1), some (.inl x1), some (.inl ((10 : Int32) * a1)), some (.inl (((10 : Int32) * a1) + (h.1 31 0 7 ((17 : Int32) + a1).toNatClampNeg))), some (.inl s50.1), some (.inl s50.2.1)]) (h' := s50.2.2) 1 (fun _ _ => rfl) (eMo_stateOf (by omega) hx89) ?_
            refine q_br (P := x88 = (2 : Int32)) (pcT := 146) (pcF := 143) (loc' := [some (.inr (.inr (30, 7, 0))), some (.inl a1), some (.inl x1), some (.inl ((10 : Int32) * a1)), some (.inl (((10 : Int32) * a1) + (h.1 31 0 7 ((17 : Int32) + a1).toNatClampNeg))), some (.inl s50.1), some (.inl s50.2.1)]) (stk' := []) (h' := s50.2.2) 2 (fun _ _ => rfl) (fun c92 => ?_) (fun c92 => ?_)
            · rw [if_pos c92] at HF
              obtain ⟨x90, hx91, HF⟩ := q_bind HF
              refine q_cll (m' := 213) (av := [.inr (.inr (30, 7, 0)), .inl s50.2.1]) (st' := []) (pc' := 152) (loc' := [some (.inr (.inr (30, 7, 0))), some (.inl a1), some (.inl x1), some (.inl ((10 : Int32) * a1)), some (.inl (((10 : Int32) * a1) + (h.1 31 0 7 ((17 : Int32) + a1).toNatClampNeg))), some (.inl s50.1), some (.inl s50.2.1)]) (h' := s50.2.2) 3 (fun _ _ => rfl) (eMo_goes (by omega) hx91) ?_
              refine q_blk (pc' := 155) (loc' := [some (.inr (.inr (30, 7, 0))), some (.inl a1), some (.inl x1), some (.inl ((10 : Int32) * a1)), some (.inl (((10 : Int32) * a1) + (h.1 31 0 7 ((17 : Int32) + a1).toNatClampNeg))), some (.inl (s50.1 + (1 : Int32))), some (.inl s50.2.1)]) (stk' := []) (h' := x90) 1 (fun _ _ => rfl) ?_
              have hz := Option.some.inj HF
              subst hz
              exact hP69 ((s50.1 + (1 : Int32)), x90) HK68
            · rw [if_neg c92] at HF
              refine q_blk (pc' := 155) (loc' := [some (.inr (.inr (30, 7, 0))), some (.inl a1), some (.inl x1), some (.inl ((10 : Int32) * a1)), some (.inl (((10 : Int32) * a1) + (h.1 31 0 7 ((17 : Int32) + a1).toNatClampNeg))), some (.inl s50.1), some (.inl s50.2.1)]) (stk' := []) (h' := s50.2.2) 1 (fun _ _ => rfl) ?_
              have hz := Option.some.inj HF
              subst hz
              exact hP69 (s50.1, s50.2.2) HK68
          replace HF := HA81
          refine q_br (P := x78 = (1 : Int32)) (pcT := 155) (pcF := 127) (loc' := [some (.inr (.inr (30, 7, 0))), some (.inl a1), some (.inl x1), some (.inl ((10 : Int32) * a1)), some (.inl (((10 : Int32) * a1) + (h.1 31 0 7 ((17 : Int32) + a1).toNatClampNeg))), some (.inl s50.1), some (.inl s50.2.1)]) (stk' := []) (h' := s50.2.2) 2 (fun _ _ => rfl) (fun c84 => ?_) (fun c84 => ?_)
          · rw [if_pos c84] at HF
            have hz := Option.some.inj HF
            subst hz
            replace HF := HK82
            have hz := Option.some.inj HF
            subst hz
            exact hP69 (s50.1, s50.2.2) HK68
          · rw [if_neg c84] at HF
            have hz := Option.some.inj HF
            subst hz
            exact hP83 () HK82
        replace HF := HA73
        refine q_br (P := x70 = 0) (pcT := 155) (pcF := 115) (loc' := [some (.inr (.inr (30, 7, 0))), some (.inl a1), some (.inl x1), some (.inl ((10 : Int32) * a1)), some (.inl (((10 : Int32) * a1) + (h.1 31 0 7 ((17 : Int32) + a1).toNatClampNeg))), some (.inl s50.1), some (.inl s50.2.1)]) (stk' := []) (h' := s50.2.2) 1 (fun _ _ => rfl) (fun c76 => ?_) (fun c76 => ?_)
        · rw [if_pos c76] at HF
          have hz := Option.some.inj HF
          subst hz
          replace HF := HK74
          have hz := Option.some.inj HF
          subst hz
          exact hP69 (s50.1, s50.2.2) HK68
        · rw [if_neg c76] at HF
          have hz := Option.some.inj HF
          subst hz
          exact hP75 () HK74
    replace HF := HA59
    refine q_br (P := (((10 : Int32) * a1) + (h.1 31 0 7 ((17 : Int32) + a1).toNatClampNeg)) ≤ s50.2.1) (pcT := 161) (pcF := 95) (loc' := [some (.inr (.inr (30, 7, 0))), some (.inl a1), some (.inl x1), some (.inl ((10 : Int32) * a1)), some (.inl (((10 : Int32) * a1) + (h.1 31 0 7 ((17 : Int32) + a1).toNatClampNeg))), some (.inl s50.1), some (.inl s50.2.1)]) (stk' := []) (h' := s50.2.2) 3 (fun _ _ => rfl) (fun c62 => ?_) (fun c62 => ?_)
    · rw [if_pos c62] at HF
      have hz := Option.some.inj HF
      subst hz
      replace HF := HK60
      have hz := Option.some.inj HF
      subst hz
      rw [← H252 _ rfl] at HK53
      exact q_wk (loc := [some (.inr (.inr (30, 7, 0))), some (.inl a1), some (.inl x1), some (.inl ((10 : Int32) * a1)), some (.inl (((10 : Int32) * a1) + (h.1 31 0 7 ((17 : Int32) + a1).toNatClampNeg))), some (.inl s50.1), none]) ⟨Or.inl rfl, ⟨Or.inl rfl, ⟨Or.inl rfl, ⟨Or.inl rfl, ⟨Or.inl rfl, ⟨Or.inl rfl, ⟨Or.inr ⟨rfl, fun _ h => by cases h⟩, trivial⟩⟩⟩⟩⟩⟩⟩ (hP54 (s50.1, s50.2.2) HK53)
    · rw [if_neg c62] at HF
      have hz := Option.some.inj HF
      subst hz
      exact hP61 () HK60
  refine q_lpE (E := fun s3 => q_E d q_K215 29 [some (.inr (.inr (30, 7, 0))), some (.inl a1), some (.inl x1), some (.inl ((10 : Int32) * a1)), some (.inl (((10 : Int32) * a1) + (h.1 31 0 7 ((17 : Int32) + a1).toNatClampNeg))), some (.inl s3.1), some (.inl s3.2.1)] [] s3.2.2 (some (.inl r.1), r.2)) r8 (fun s3 z10 HF H14 H25 => ?_) _ _ hl9
  obtain ⟨z11, HA12, HK13⟩ := q_bind HF
  have hP14 : ∀ p16 : Unit, ((Mo_of s3.2.1 (0 : Int32) s3.2.2).bind fun x17 => Option.bind (α := Int32 × q_H) (if x17 = (2 : Int32) then ((Mo_cuts s3.2.1 x1 s3.2.2).bind fun x23 => some (((s3.1 + x23.1), x23.2))) else ((Mo_isFull s3.2.1 s3.2.2).bind fun x25 => Option.bind (α := (Unit) ⊕ (Int32 × q_H)) (if x25 = 0 then (some (.inr ((s3.1, s3.2.2)))) else (some (.inl ()))) (fun z27 => match z27 with | .inl p32 => (Mo_of s3.2.1 (10 : Int32) s3.2.2).bind fun x33 => Option.bind (α := (Unit) ⊕ (Int32 × q_H)) (if ¬ x33 = 0 then (some (.inr ((s3.1, s3.2.2)))) else (some (.inl ()))) (fun z35 => match z35 with | .inl p40 => (Mo_cuts s3.2.1 x1 s3.2.2).bind fun x41 => some (((s3.1 + x41.1), x41.2)) | .inr z35 => some z35) | .inr z27 => some z27))) (fun p46 => some (.inl (p46.1, (s3.2.1 + (1 : Int32)), p46.2))) : Option ((Int32 × Int32 × q_H) ⊕ (Int32 × q_H))) = some z10 → q_E d q_K215 36 [some (.inr (.inr (30, 7, 0))), some (.inl a1), some (.inl x1), some (.inl ((10 : Int32) * a1)), some (.inl (((10 : Int32) * a1) + (h.1 31 0 7 ((17 : Int32) + a1).toNatClampNeg))), some (.inl s3.1), some (.inl s3.2.1)] [] s3.2.2 (some (.inl r.1), r.2) := by
    intro p16 HF
    obtain ⟨x17, hx18, HF⟩ := q_bind HF
    refine q_cll (m' := 187) (av := [.inr (.inr (30, 7, 0)), .inl s3.2.1, .inl (0 : Int32)]) (st' := []) (pc' := 43) (loc' := [some (.inr (.inr (30, 7, 0))), some (.inl a1), some (.inl x1), some (.inl ((10 : Int32) * a1)), some (.inl (((10 : Int32) * a1) + (h.1 31 0 7 ((17 : Int32) + a1).toNatClampNeg))), some (.inl s3.1), some (.inl s3.2.1)]) (h' := s3.2.2) 4 (fun _ _ => rfl) (eMo_of (by omega) hx18) ?_
    obtain ⟨z19, HA20, HK21⟩ := q_bind HF
    have hP22 : ∀ p46 : Int32 × q_H, (some (.inl (p46.1, (s3.2.1 + (1 : Int32)), p46.2)) : Option ((Int32 × Int32 × q_H) ⊕ (Int32 × q_H))) = some z10 → q_E d q_K215 79 [some (.inr (.inr (30, 7, 0))), some (.inl a1), some (.inl x1), some (.inl ((10 : Int32) * a1)), some (.inl (((10 : Int32) * a1) + (h.1 31 0 7 ((17 : Int32) + a1).toNatClampNeg))), some (.inl p46.1), some (.inl s3.2.1)] [] p46.2 (some (.inl r.1), r.2) := by
      intro p46 HF
      refine q_blk (pc' := 29) (loc' := [some (.inr (.inr (30, 7, 0))), some (.inl a1), some (.inl x1), some (.inl ((10 : Int32) * a1)), some (.inl (((10 : Int32) * a1) + (h.1 31 0 7 ((17 : Int32) + a1).toNatClampNeg))), some (.inl p46.1), some (.inl (s3.2.1 + (1 : Int32)))]) (stk' := []) (h' := p46.2) 2 (fun _ _ => rfl) ?_
      have hz := Option.some.inj HF
      subst hz
      exact H14 (p46.1, (s3.2.1 + (1 : Int32)), p46.2) rfl
    replace HF := HA20
    refine q_br (P := x17 = (2 : Int32)) (pcT := 67) (pcF := 47) (loc' := [some (.inr (.inr (30, 7, 0))), some (.inl a1), some (.inl x1), some (.inl ((10 : Int32) * a1)), some (.inl (((10 : Int32) * a1) + (h.1 31 0 7 ((17 : Int32) + a1).toNatClampNeg))), some (.inl s3.1), some (.inl s3.2.1)]) (stk' := []) (h' := s3.2.2) 2 (fun _ _ => rfl) (fun c45 => ?_) (fun c45 => ?_)
    · rw [if_pos c45] at HF
      obtain ⟨x23, hx24, HF⟩ := q_bind HF
      refine q_cll (m' := 214) (av := [.inr (.inr (30, 7, 0)), .inl s3.2.1, .inl x1]) (st' := [.inl s3.1]) (pc' := 76) (loc' := [some (.inr (.inr (30, 7, 0))), some (.inl a1), some (.inl x1), some (.inl ((10 : Int32) * a1)), some (.inl (((10 : Int32) * a1) + (h.1 31 0 7 ((17 : Int32) + a1).toNatClampNeg))), some (.inl s3.1), some (.inl s3.2.1)]) (h' := s3.2.2) 5 (fun _ _ => rfl) (eMo_cuts (by omega) hx24) ?_
      refine q_blk (pc' := 79) (loc' := [some (.inr (.inr (30, 7, 0))), some (.inl a1), some (.inl x1), some (.inl ((10 : Int32) * a1)), some (.inl (((10 : Int32) * a1) + (h.1 31 0 7 ((17 : Int32) + a1).toNatClampNeg))), some (.inl (s3.1 + x23.1)), some (.inl s3.2.1)]) (stk' := []) (h' := x23.2) 2 (fun _ _ => rfl) ?_
      have hz := Option.some.inj HF
      subst hz
      exact hP22 ((s3.1 + x23.1), x23.2) HK21
    · rw [if_neg c45] at HF
      obtain ⟨x25, hx26, HF⟩ := q_bind HF
      refine q_cll (m' := 189) (av := [.inr (.inr (30, 7, 0)), .inl s3.2.1]) (st' := []) (pc' := 53) (loc' := [some (.inr (.inr (30, 7, 0))), some (.inl a1), some (.inl x1), some (.inl ((10 : Int32) * a1)), some (.inl (((10 : Int32) * a1) + (h.1 31 0 7 ((17 : Int32) + a1).toNatClampNeg))), some (.inl s3.1), some (.inl s3.2.1)]) (h' := s3.2.2) 3 (fun _ _ => rfl) (eMo_isFull (by omega) hx26) ?_
      obtain ⟨z27, HA28, HK29⟩ := q_bind HF
      have hP30 : ∀ p32 : Unit, ((Mo_of s3.2.1 (10 : Int32) s3.2.2).bind fun x33 => Option.bind (α := (Unit) ⊕ (Int32 × q_H)) (if ¬ x33 = 0 then (some (.inr ((s3.1, s3.2.2)))) else (some (.inl ()))) (fun z35 => match z35 with | .inl p40 => (Mo_cuts s3.2.1 x1 s3.2.2).bind fun x41 => some (((s3.1 + x41.1), x41.2)) | .inr z35 => some z35) : Option (Int32 × q_H)) = some z19 → q_E d q_K215 56 [some (.inr (.inr (30, 7, 0))), some (.inl a1), some (.inl x1), some (.inl ((10 : Int32) * a1)), some (.inl (((10 : Int32) * a1) + (h.1 31 0 7 ((17 : Int32) + a1).toNatClampNeg))), some (.inl s3.1), some (.inl s3.2.1)] [] s3.2.2 (some (.inl r.1), r.2) := by
        intro p32 HF
        obtain ⟨x33, hx34, HF⟩ := q_bind HF
        refine q_cll (m' := 187) (av := [.inr (.inr (30, 7, 0)), .inl s3.2.1, .inl (10 : Int32)]) (st' := []) (pc' := 64) (loc' := [some (.inr (.inr (30, 7, 0))), some (.inl a1), some (.inl x1), some (.inl ((10 : Int32) * a1)), some (.inl (((10 : Int32) * a1) + (h.1 31 0 7 ((17 : Int32) + a1).toNatClampNeg))), some (.inl s3.1), some (.inl s3.2.1)]) (h' := s3.2.2) 4 (fun _ _ => rfl) (eMo_of (by omega) hx34) ?_
        obtain ⟨z35, HA36, HK37⟩ := q_bind HF
        have hP38 : ∀ p40 : Unit, ((Mo_cuts s3.2.1 x1 s3.2.2).bind fun x41 => some (((s3.1 + x41.1), x41.2)) : Option (Int32 × q_H)) = some z19 → q_E d q_K215 67 [some (.inr (.inr (30, 7, 0))), some (.inl a1), some (.inl x1), some (.inl ((10 : Int32) * a1)), some (.inl (((10 : Int32) * a1) + (h.1 31 0 7 ((17 : Int32) + a1).toNatClampNeg))), some (.inl s3.1), some (.inl s3.2.1)] [] s3.2.2 (some (.inl r.1), r.2) := by
          intro p40 HF
          obtain ⟨x41, hx42, HF⟩ := q_bind HF
          refine q_cll (m' := 214) (av := [.inr (.inr (30, 7, 0)), .inl s3.2.1, .inl x1]) (st' := [.inl s3.1]) (pc' := 76) (loc' := [some (.inr (.inr (30, 7, 0))), some (.inl a1), some (.inl x1), some (.inl ((10 : Int32) * a1)), some (.inl (((10 : Int32) * a1) + (h.1 31 0 7 ((17 : Int32) + a1).toNatClampNeg))), some (.inl s3.1), some (.inl s3.2.1)]) (h' := s3.2.2) 5 (fun _ _ => rfl) (eMo_cuts (by omega) hx42) ?_
          refine q_blk (pc' := 79) (loc' := [some (.inr (.inr (30, 7, 0))), some (.inl a1), some (.inl x1), some (.inl ((10 : Int32) * a1)), some (.inl (((10 : Int32) * a1) + (h.1 31 0 7 ((17 : Int32) + a1).toNatClampNeg))), some (.inl (s3.1 + x41.1)), some (.inl s3.2.1)]) (stk' := []) (h' := x41.2) 2 (fun _ _ => rfl) ?_
          have hz := Option.some.inj HF
          subst hz
          exact hP22 ((s3.1 + x41.1), x41.2) HK21
        replace HF := HA36
        refine q_br (P := ¬ x33 = 0) (pcT := 79) (pcF := 67) (loc' := [some (.inr (.inr (30, 7, 0))), some (.inl a1), some (.inl x1), some (.inl ((10 : Int32) * a1)), some (.inl (((10 : Int32) * a1) + (h.1 31 0 7 ((17 : Int32) + a1).toNatClampNeg))), some (.inl s3.1), some (.inl s3.2.1)]) (stk' := []) (h' := s3.2.2) 1 (fun _ _ => rfl) (fun c39 => ?_) (fun c39 => ?_)
        · rw [if_pos c39] at HF
          have hz := Option.some.inj HF
          subst hz
          replace HF := HK37
          have hz := Option.some.inj HF
          subst hz
          exact hP22 (s3.1, s3.2.2) HK21
        · rw [if_neg c39] at HF
          have hz := Option.some.inj HF
          subst hz
          exact hP38 () HK37
      replace HF := HA28
      refine q_br (P := x25 = 0) (pcT := 79) (pcF := 56) (loc' := [some (.inr (.inr (30, 7, 0))), some (.inl a1), some (.inl x1), some (.inl ((10 : Int32) * a1)), some (.inl (((10 : Int32) * a1) + (h.1 31 0 7 ((17 : Int32) + a1).toNatClampNeg))), some (.inl s3.1), some (.inl s3.2.1)]) (stk' := []) (h' := s3.2.2) 1 (fun _ _ => rfl) (fun c31 => ?_) (fun c31 => ?_)
      · rw [if_pos c31] at HF
        have hz := Option.some.inj HF
        subst hz
        replace HF := HK29
        have hz := Option.some.inj HF
        subst hz
        exact hP22 (s3.1, s3.2.2) HK21
      · rw [if_neg c31] at HF
        have hz := Option.some.inj HF
        subst hz
        exact hP30 () HK29
  replace HF := HA12
  refine q_br (P := (((10 : Int32) * a1) + (h.1 31 0 7 ((17 : Int32) + a1).toNatClampNeg)) ≤ s3.2.1) (pcT := 85) (pcF := 36) (loc' := [some (.inr (.inr (30, 7, 0))), some (.inl a1), some (.inl x1), some (.inl ((10 : Int32) * a1)), some (.inl (((10 : Int32) * a1) + (h.1 31 0 7 ((17 : Int32) + a1).toNatClampNeg))), some (.inl s3.1), some (.inl s3.2.1)]) (stk' := []) (h' := s3.2.2) 3 (fun _ _ => rfl) (fun c15 => ?_) (fun c15 => ?_)
  · rw [if_pos c15] at HF
    have hz := Option.some.inj HF
    subst hz
    replace HF := HK13
    have hz := Option.some.inj HF
    subst hz
    rw [← H25 _ rfl] at HK6
    exact q_wk (loc := [some (.inr (.inr (30, 7, 0))), some (.inl a1), some (.inl x1), some (.inl ((10 : Int32) * a1)), some (.inl (((10 : Int32) * a1) + (h.1 31 0 7 ((17 : Int32) + a1).toNatClampNeg))), some (.inl s3.1), none]) ⟨Or.inl rfl, ⟨Or.inl rfl, ⟨Or.inl rfl, ⟨Or.inl rfl, ⟨Or.inl rfl, ⟨Or.inl rfl, ⟨Or.inr ⟨rfl, fun _ h => by cases h⟩, trivial⟩⟩⟩⟩⟩⟩⟩ (hP7 (s3.1, s3.2.2) HK6)
  · rw [if_neg c15] at HF
    have hz := Option.some.inj HF
    subst hz
    exact hP14 () HK13
