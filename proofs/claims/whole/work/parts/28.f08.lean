def Rp_reads (a1 : Int32) (a2 : Int32) (h : q_H) : Option (Int32 × q_H) :=
  (Rp_isWithin a2 (0 : Int32) (99 : Int32) h).bind fun x1 => if ¬ x1 = 0 then ((Rp_asOpen a1 h).bind fun x3 => if ¬ x3 = 0 then ((Rp_refuse x3 h).bind fun x5 => some ((x5.1, x5.2))) else ((St_readsFor 0 a2 h).bind fun x7 => (Rp_answer x7 h).bind fun x9 => some ((x9.1, x9.2)))) else ((Rp_refuse (1 : Int32) h).bind fun x12 => some ((x12.1, x12.2)))
set_option maxRecDepth 100000 in
set_option maxHeartbeats 4000000 in
theorem eRp_reads {d : Nat} (hd : 4 ≤ d) {a1 : Int32} {a2 : Int32} {h : q_H} {r : (Int32 × q_H)} (HF : Rp_reads a1 a2 h = some r) : q_T d 43 [.inr (.inr (24, 6, 0)), .inl a1, .inl a2] h (some (.inl r.1), r.2) := by
  obtain ⟨d, rfl⟩ : ∃ d', d = d' + 1 := ⟨d - 1, by omega⟩
  refine q_ent q_K43 rfl rfl rfl ?_
  unfold Rp_reads at HF
  obtain ⟨x1, hx2, HF⟩ := q_bind HF
  refine q_cll (m' := 55) (av := [.inl a2, .inl (0 : Int32), .inl (99 : Int32)]) (st' := []) (pc' := 7) (loc' := [some (.inr (.inr (24, 6, 0))), some (.inl a1), some (.inl a2), none]) (h' := h) 4 (fun _ _ => rfl) (eRp_isWithin (by omega) hx2) ?_
  refine q_br (P := ¬ x1 = 0) (pcT := 16) (pcF := 10) (loc' := [some (.inr (.inr (24, 6, 0))), some (.inl a1), some (.inl a2), none]) (stk' := []) (h' := h) 1 (fun _ _ => rfl) (fun c14 => ?_) (fun c14 => ?_)
  · rw [if_pos c14] at HF
    obtain ⟨x3, hx4, HF⟩ := q_bind HF
    refine q_cll (m' := 47) (av := [.inr (.inr (24, 6, 0)), .inl a1]) (st' := []) (pc' := 21) (loc' := [some (.inr (.inr (24, 6, 0))), some (.inl a1), some (.inl a2), none]) (h' := h) 3 (fun _ _ => rfl) (eRp_asOpen (by omega) hx4) ?_
    refine q_br (P := ¬ x3 = 0) (pcT := 41) (pcF := 26) (loc' := [some (.inr (.inr (24, 6, 0))), some (.inl a1), some (.inl a2), some (.inl x3)]) (stk' := []) (h' := h) 3 (fun _ _ => rfl) (fun c11 => ?_) (fun c11 => ?_)
    · rw [if_pos c11] at HF
      obtain ⟨x5, hx6, HF⟩ := q_bind HF
      refine q_cll (m' := 46) (av := [.inr (.inr (24, 6, 0)), .inl x3]) (st' := []) (pc' := 46) (loc' := [some (.inr (.inr (24, 6, 0))), some (.inl a1), some (.inl a2), some (.inl x3)]) (h' := h) 3 (fun _ _ => rfl) (eRp_refuse (by omega) hx6) ?_
      have hz := Option.some.inj HF
      subst hz
      exact q_rtn 1 (fun _ _ => rfl)
    · rw [if_neg c11] at HF
      obtain ⟨x7, hx8, HF⟩ := q_bind HF
      refine q_cll (m' := 175) (av := [.inr (.inr (0, 0, 0)), .inl a2]) (st' := [.inr (.inr (24, 6, 0))]) (pc' := 35) (loc' := [some (.inr (.inr (24, 6, 0))), some (.inl a1), some (.inl a2), some (.inl x3)]) (h' := h) 5 (fun _ _ => rfl) (eSt_readsFor (by omega) hx8) ?_
      obtain ⟨x9, hx10, HF⟩ := q_bind HF
      refine q_cll (m' := 45) (av := [.inr (.inr (24, 6, 0)), .inl x7]) (st' := []) (pc' := 38) (loc' := [some (.inr (.inr (24, 6, 0))), some (.inl a1), some (.inl a2), some (.inl x3)]) (h' := h) 1 (fun _ _ => rfl) (eRp_answer (by omega) hx10) ?_
      have hz := Option.some.inj HF
      subst hz
      exact q_rtn 2 (fun _ _ => rfl)
  · rw [if_neg c14] at HF
    obtain ⟨x12, hx13, HF⟩ := q_bind HF
    refine q_cll (m' := 46) (av := [.inr (.inr (24, 6, 0)), .inl (1 : Int32)]) (st' := []) (pc' := 15) (loc' := [some (.inr (.inr (24, 6, 0))), some (.inl a1), some (.inl a2), none]) (h' := h) 3 (fun _ _ => rfl) (eRp_refuse (by omega) hx13) ?_
    have hz := Option.some.inj HF
    subst hz
    exact q_rtn 1 (fun _ _ => rfl)
def Rp_asReader (a1 : Int32) (a2 : Int32) (h : q_H) : Option Int32 :=
  (St_hasRow 0 a2 h).bind fun x1 => if ¬ x1 = 0 then ((Rp_asFree a1 h).bind fun x3 => if x3 = 0 then ((St_seenPlace 0 a1 a2 h).bind fun x5 => if ¬ x5 = (-1 : Int32) then (some ((0 : Int32))) else (some ((6 : Int32)))) else (some (x3))) else (some ((2 : Int32)))
set_option maxRecDepth 100000 in
set_option maxHeartbeats 4000000 in
theorem eRp_asReader {d : Nat} (hd : 4 ≤ d) {a1 : Int32} {a2 : Int32} {h : q_H} {r : Int32} (HF : Rp_asReader a1 a2 h = some r) : q_T d 49 [.inr (.inr (24, 6, 0)), .inl a1, .inl a2] h (some (.inl r), h) := by
  obtain ⟨d, rfl⟩ : ∃ d', d = d' + 1 := ⟨d - 1, by omega⟩
  refine q_ent q_K49 rfl rfl rfl ?_
  unfold Rp_asReader at HF
  obtain ⟨x1, hx2, HF⟩ := q_bind HF
  refine q_cll (m' := 144) (av := [.inr (.inr (0, 0, 0)), .inl a2]) (st' := []) (pc' := 8) (loc' := [some (.inr (.inr (24, 6, 0))), some (.inl a1), some (.inl a2), none]) (h' := h) 4 (fun _ _ => rfl) (eSt_hasRow (by omega) hx2) ?_
  refine q_br (P := ¬ x1 = 0) (pcT := 13) (pcF := 11) (loc' := [some (.inr (.inr (24, 6, 0))), some (.inl a1), some (.inl a2), none]) (stk' := []) (h' := h) 1 (fun _ _ => rfl) (fun c9 => ?_) (fun c9 => ?_)
  · rw [if_pos c9] at HF
    obtain ⟨x3, hx4, HF⟩ := q_bind HF
    refine q_cll (m' := 48) (av := [.inr (.inr (24, 6, 0)), .inl a1]) (st' := []) (pc' := 18) (loc' := [some (.inr (.inr (24, 6, 0))), some (.inl a1), some (.inl a2), none]) (h' := h) 3 (fun _ _ => rfl) (eRp_asFree (by omega) hx4) ?_
    refine q_br (P := x3 = 0) (pcT := 25) (pcF := 23) (loc' := [some (.inr (.inr (24, 6, 0))), some (.inl a1), some (.inl a2), some (.inl x3)]) (stk' := []) (h' := h) 3 (fun _ _ => rfl) (fun c8 => ?_) (fun c8 => ?_)
    · rw [if_pos c8] at HF
      obtain ⟨x5, hx6, HF⟩ := q_bind HF
      refine q_cll (m' := 156) (av := [.inr (.inr (0, 0, 0)), .inl a1, .inl a2]) (st' := []) (pc' := 34) (loc' := [some (.inr (.inr (24, 6, 0))), some (.inl a1), some (.inl a2), some (.inl x3)]) (h' := h) 5 (fun _ _ => rfl) (eSt_seenPlace (by omega) hx6) ?_
      refine q_br (P := ¬ x5 = (-1 : Int32)) (pcT := 43) (pcF := 38) (loc' := [some (.inr (.inr (24, 6, 0))), some (.inl a1), some (.inl a2), some (.inl x3)]) (stk' := []) (h' := h) 2 (fun _ _ => rfl) (fun c7 => ?_) (fun c7 => ?_)
      · rw [if_pos c7] at HF
        have hz := Option.some.inj HF
        subst hz
        exact q_rtn 2 (fun _ _ => rfl)
      · rw [if_neg c7] at HF
        have hz := Option.some.inj HF
        subst hz
        exact q_rtn 3 (fun _ _ => rfl)
    · rw [if_neg c8] at HF
      have hz := Option.some.inj HF
      subst hz
      exact q_rtn 2 (fun _ _ => rfl)
  · rw [if_neg c9] at HF
    have hz := Option.some.inj HF
    subst hz
    exact q_rtn 2 (fun _ _ => rfl)
def Rp_openEnder (a1 : Int32) (a2 : Int32) (h : q_H) : Option Int32 :=
  (St_seenPlace 0 a1 a2 h).bind fun x1 => (Pg_at 0 x1 h).bind fun x3 => if (h.1 3 7 0 x3) = a1 then (some ((-1 : Int32))) else ((Tn_stateOf 0 (h.1 3 7 0 x3) h).bind fun x5 => if ¬ x5 = 0 then (some ((-1 : Int32))) else (some ((h.1 3 7 0 x3))))
set_option maxRecDepth 100000 in
set_option maxHeartbeats 4000000 in
theorem eRp_openEnder {d : Nat} (hd : 4 ≤ d) {a1 : Int32} {a2 : Int32} {h : q_H} {r : Int32} (HF : Rp_openEnder a1 a2 h = some r) : q_T d 51 [.inr (.inr (24, 6, 0)), .inl a1, .inl a2] h (some (.inl r), h) := by
  obtain ⟨d, rfl⟩ : ∃ d', d = d' + 1 := ⟨d - 1, by omega⟩
  refine q_ent q_K51 rfl rfl rfl ?_
  unfold Rp_openEnder at HF
  obtain ⟨x1, hx2, HF⟩ := q_bind HF
  refine q_cll (m' := 156) (av := [.inr (.inr (0, 0, 0)), .inl a1, .inl a2]) (st' := [.inr (.inr (1, 0, 0))]) (pc' := 16) (loc' := [some (.inr (.inr (24, 6, 0))), some (.inl a1), some (.inl a2), none]) (h' := h) 8 (fun _ _ => rfl) (eSt_seenPlace (by omega) hx2) ?_
  obtain ⟨x3, hx4, HF⟩ := q_bind HF
  refine q_cll (m' := 89) (av := [.inr (.inr (1, 0, 0)), .inl x1]) (st' := []) (pc' := 19) (loc' := [some (.inr (.inr (24, 6, 0))), some (.inl a1), some (.inl a2), none]) (h' := h) 1 (fun _ _ => rfl) (ePg_at (by omega) hx4) ?_
  refine q_br (P := (h.1 3 7 0 x3) = a1) (pcT := 46) (pcF := 28) (loc' := [some (.inr (.inr (24, 6, 0))), some (.inl a1), some (.inl a2), some (.inl (h.1 3 7 0 x3))]) (stk' := []) (h' := h) 5 (fun _ _ => rfl) (fun c8 => ?_) (fun c8 => ?_)
  · rw [if_pos c8] at HF
    have hz := Option.some.inj HF
    subst hz
    exact q_rtn 2 (fun _ _ => rfl)
  · rw [if_neg c8] at HF
    obtain ⟨x5, hx6, HF⟩ := q_bind HF
    refine q_cll (m' := 106) (av := [.inr (.inr (6, 0, 0)), .inl (h.1 3 7 0 x3)]) (st' := []) (pc' := 39) (loc' := [some (.inr (.inr (24, 6, 0))), some (.inl a1), some (.inl a2), some (.inl (h.1 3 7 0 x3))]) (h' := h) 5 (fun _ _ => rfl) (eTn_stateOf (by omega) hx6) ?_
    refine q_br (P := ¬ x5 = 0) (pcT := 46) (pcF := 42) (loc' := [some (.inr (.inr (24, 6, 0))), some (.inl a1), some (.inl a2), some (.inl (h.1 3 7 0 x3))]) (stk' := []) (h' := h) 1 (fun _ _ => rfl) (fun c7 => ?_) (fun c7 => ?_)
    · rw [if_pos c7] at HF
      have hz := Option.some.inj HF
      subst hz
      exact q_rtn 2 (fun _ _ => rfl)
    · rw [if_neg c7] at HF
      have hz := Option.some.inj HF
      subst hz
      exact q_rtn 3 (fun _ _ => rfl)
def Pg_firstPlace (k : Nat) (a1 : Int32) (h : q_H) : Option Int32 :=
  (q_lp (fun s1 : Int32 => (if (6 : Int32) ≤ s1 then (some (.inr ((-1 : Int32)))) else ((Pg_placeIn k s1 a1 h).bind fun x9 => if x9 = (-1 : Int32) then (some (.inl (s1 + (1 : Int32)))) else (some (.inr (x9)))) : Option ((Int32) ⊕ Int32))) q_fu ((0 : Int32) : Int32)).bind fun z8 => some z8
set_option maxRecDepth 100000 in
set_option maxHeartbeats 4000000 in
theorem ePg_firstPlace {d : Nat} (hd : 4 ≤ d) {k : Nat} {a1 : Int32} {h : q_H} {r : Int32} (HF : Pg_firstPlace k a1 h = some r) : q_T d 100 [.inr (.inr (1, k, 0)), .inl a1] h (some (.inl r), h) := by
  obtain ⟨d, rfl⟩ : ∃ d', d = d' + 1 := ⟨d - 1, by omega⟩
  refine q_ent q_K100 rfl rfl rfl ?_
  unfold Pg_firstPlace at HF
  refine q_blk (pc' := 2) (loc' := [some (.inr (.inr (1, k, 0))), some (.inl a1), some (.inl (0 : Int32)), none]) (stk' := []) (h' := h) 2 (fun _ _ => rfl) ?_
  obtain ⟨r6, hl7, HK4⟩ := q_bind HF
  refine q_lpE (E := fun s1 => q_E d q_K100 2 [some (.inr (.inr (1, k, 0))), some (.inl a1), some (.inl s1), none] [] h (some (.inl r), h)) r6 (fun s1 z8 HF H12 H23 => ?_) _ _ hl7
  refine q_br (P := (6 : Int32) ≤ s1) (pcT := 28) (pcF := 8) (loc' := [some (.inr (.inr (1, k, 0))), some (.inl a1), some (.inl s1), none]) (stk' := []) (h' := h) 3 (fun _ _ => rfl) (fun c12 => ?_) (fun c12 => ?_)
  · rw [if_pos c12] at HF
    have hz := Option.some.inj HF
    subst hz
    replace HF := HK4
    rw [← H23 _ rfl] at HF
    have hz := Option.some.inj HF
    subst hz
    exact q_rtn 2 (fun _ _ => rfl)
  · rw [if_neg c12] at HF
    obtain ⟨x9, hx10, HF⟩ := q_bind HF
    refine q_cll (m' := 99) (av := [.inr (.inr (1, k, 0)), .inl s1, .inl a1]) (st' := []) (pc' := 14) (loc' := [some (.inr (.inr (1, k, 0))), some (.inl a1), some (.inl s1), none]) (h' := h) 4 (fun _ _ => rfl) (ePg_placeIn (by omega) hx10) ?_
    refine q_br (P := x9 = (-1 : Int32)) (pcT := 22) (pcF := 20) (loc' := [some (.inr (.inr (1, k, 0))), some (.inl a1), some (.inl s1), some (.inl x9)]) (stk' := []) (h' := h) 4 (fun _ _ => rfl) (fun c11 => ?_) (fun c11 => ?_)
    · rw [if_pos c11] at HF
      refine q_blk (pc' := 2) (loc' := [some (.inr (.inr (1, k, 0))), some (.inl a1), some (.inl (s1 + (1 : Int32))), some (.inl x9)]) (stk' := []) (h' := h) 2 (fun _ _ => rfl) ?_
      have hz := Option.some.inj HF
      subst hz
      exact q_wk (loc := [some (.inr (.inr (1, k, 0))), some (.inl a1), some (.inl (s1 + (1 : Int32))), none]) ⟨Or.inl rfl, ⟨Or.inl rfl, ⟨Or.inl rfl, ⟨Or.inr ⟨rfl, fun _ h => by cases h⟩, trivial⟩⟩⟩⟩ (H12 (s1 + (1 : Int32)) rfl)
    · rw [if_neg c11] at HF
      have hz := Option.some.inj HF
      subst hz
      replace HF := HK4
      rw [← H23 _ rfl] at HF
      have hz := Option.some.inj HF
      subst hz
      exact q_rtn 2 (fun _ _ => rfl)
def Tn_open (k : Nat) (h : q_H) : Option (Int32 × q_H) :=
  (q_lp (fun s1 : Int64 × Int32 × Int32 => (if s1.2.2 < (1 : Int32) then ((Rp_put 7 k (h.1 6 4 k 0) (0 : Int32) (q_si h 6 4 k 0 ((h.1 6 4 k 0) + (1 : Int32)))).bind fun x9 => (Rp_put 8 k (h.1 6 4 k 0) s1.2.1 x9).bind fun x11 => (Rp_put 9 k (h.1 6 4 k 0) (-1 : Int32) x11).bind fun x13 => (Tn_setNoted k (h.1 6 4 k 0) s1.1 x13).bind fun x15 => (Tn_horizonBut k (-1 : Int32) x15).bind fun x17 => some (.inr (((h.1 6 4 k 0), (q_si x15 6 5 k 0 x17))))) else ((Tn_stateOf k s1.2.2 h).bind fun x19 => Option.bind (α := Int64 × Int32) (if ¬ x19 = 0 then (some ((s1.1, s1.2.1))) else (some (((s1.1 ||| ((1 : Int64) <<< (s1.2.2.toInt64 &&& 63))), s1.2.2)))) (fun p26 => some (.inl (p26.1, p26.2, (s1.2.2 + (-1 : Int32)))))) : Option ((Int64 × Int32 × Int32) ⊕ (Int32 × q_H)))) q_fu (((0 : Int64), (h.1 6 4 k 0), ((h.1 6 4 k 0) - (1 : Int32))) : Int64 × Int32 × Int32)).bind fun z8 => some z8
set_option maxRecDepth 100000 in
set_option maxHeartbeats 4000000 in
theorem eTn_open {d : Nat} (hd : 4 ≤ d) {k : Nat} {h : q_H} {r : (Int32 × q_H)} (HF : Tn_open k h = some r) : q_T d 112 [.inr (.inr (6, k, 0))] h (some (.inl r.1), r.2) := by
  obtain ⟨d, rfl⟩ : ∃ d', d = d' + 1 := ⟨d - 1, by omega⟩
  refine q_ent q_K112 rfl rfl rfl ?_
  unfold Tn_open at HF
  refine q_blk (pc' := 15) (loc' := [some (.inr (.inr (6, k, 0))), some (.inl (h.1 6 4 k 0)), some (.inr (.inl (0 : Int64))), none, some (.inl (h.1 6 4 k 0)), some (.inl ((h.1 6 4 k 0) - (1 : Int32)))]) (stk' := []) (h' := h) 11 (fun _ _ => rfl) ?_
  obtain ⟨r6, hl7, HK4⟩ := q_bind HF
  refine q_lpE (E := fun s1 => q_E d q_K112 15 [some (.inr (.inr (6, k, 0))), some (.inl (h.1 6 4 k 0)), some (.inr (.inl s1.1)), none, some (.inl s1.2.1), some (.inl s1.2.2)] [] h (some (.inl r.1), r.2)) r6 (fun s1 z8 HF H12 H23 => ?_) _ _ hl7
  refine q_br (P := s1.2.2 < (1 : Int32)) (pcT := 47) (pcF := 21) (loc' := [some (.inr (.inr (6, k, 0))), some (.inl (h.1 6 4 k 0)), some (.inr (.inl s1.1)), none, some (.inl s1.2.1), some (.inl s1.2.2)]) (stk' := []) (h' := h) 3 (fun _ _ => rfl) (fun c28 => ?_) (fun c28 => ?_)
  · rw [if_pos c28] at HF
    obtain ⟨x9, hx10, HF⟩ := q_bind HF
    refine q_cll (m' := 61) (av := [.inr (.inr (7, k, 0)), .inl (h.1 6 4 k 0), .inl (0 : Int32)]) (st' := []) (pc' := 66) (loc' := [some (.inr (.inr (6, k, 0))), some (.inl (h.1 6 4 k 0)), some (.inr (.inl s1.1)), none, some (.inl s1.2.1), some (.inl s1.2.2)]) (h' := (q_si h 6 4 k 0 ((h.1 6 4 k 0) + (1 : Int32)))) 11 (fun _ _ => rfl) (eRp_put (by omega) hx10) ?_
    obtain ⟨x11, hx12, HF⟩ := q_bind HF
    refine q_cll (m' := 61) (av := [.inr (.inr (8, k, 0)), .inl (h.1 6 4 k 0), .inl s1.2.1]) (st' := []) (pc' := 76) (loc' := [some (.inr (.inr (6, k, 0))), some (.inl (h.1 6 4 k 0)), some (.inr (.inl s1.1)), none, some (.inl s1.2.1), some (.inl s1.2.2)]) (h' := x9) 5 (fun _ _ => rfl) (eRp_put (by omega) hx12) ?_
    obtain ⟨x13, hx14, HF⟩ := q_bind HF
    refine q_cll (m' := 61) (av := [.inr (.inr (9, k, 0)), .inl (h.1 6 4 k 0), .inl (-1 : Int32)]) (st' := []) (pc' := 85) (loc' := [some (.inr (.inr (6, k, 0))), some (.inl (h.1 6 4 k 0)), some (.inr (.inl s1.1)), none, some (.inl s1.2.1), some (.inl s1.2.2)]) (h' := x11) 5 (fun _ _ => rfl) (eRp_put (by omega) hx14) ?_
    obtain ⟨x15, hx16, HF⟩ := q_bind HF
    refine q_cll (m' := 110) (av := [.inr (.inr (6, k, 0)), .inl (h.1 6 4 k 0), .inr (.inl s1.1)]) (st' := []) (pc' := 91) (loc' := [some (.inr (.inr (6, k, 0))), some (.inl (h.1 6 4 k 0)), some (.inr (.inl s1.1)), none, some (.inl s1.2.1), some (.inl s1.2.2)]) (h' := x13) 4 (fun _ _ => rfl) (eTn_setNoted (by omega) hx16) ?_
    obtain ⟨x17, hx18, HF⟩ := q_bind HF
    refine q_cll (m' := 115) (av := [.inr (.inr (6, k, 0)), .inl (-1 : Int32)]) (st' := [.inr (.inr (6, k, 0))]) (pc' := 97) (loc' := [some (.inr (.inr (6, k, 0))), some (.inl (h.1 6 4 k 0)), some (.inr (.inl s1.1)), none, some (.inl s1.2.1), some (.inl s1.2.2)]) (h' := x15) 4 (fun _ _ => rfl) (eTn_horizonBut (by omega) hx18) ?_
    have hz := Option.some.inj HF
    subst hz
    replace HF := HK4
    rw [← H23 _ rfl] at HF
    have hz := Option.some.inj HF
    subst hz
    exact q_rtn 3 (fun _ _ => rfl)
  · rw [if_neg c28] at HF
    obtain ⟨x19, hx20, HF⟩ := q_bind HF
    refine q_cll (m' := 106) (av := [.inr (.inr (6, k, 0)), .inl s1.2.2]) (st' := []) (pc' := 27) (loc' := [some (.inr (.inr (6, k, 0))), some (.inl (h.1 6 4 k 0)), some (.inr (.inl s1.1)), none, some (.inl s1.2.1), some (.inl s1.2.2)]) (h' := h) 3 (fun _ _ => rfl) (eTn_stateOf (by omega) hx20) ?_
    obtain ⟨z21, HA22, HK23⟩ := q_bind HF
    have hP24 : ∀ p26 : Int64 × Int32, (some (.inl (p26.1, p26.2, (s1.2.2 + (-1 : Int32)))) : Option ((Int64 × Int32 × Int32) ⊕ (Int32 × q_H))) = some z8 → q_E d q_K112 41 [some (.inr (.inr (6, k, 0))), some (.inl (h.1 6 4 k 0)), some (.inr (.inl p26.1)), none, some (.inl p26.2), some (.inl s1.2.2)] [] h (some (.inl r.1), r.2) := by
      intro p26 HF
      refine q_blk (pc' := 15) (loc' := [some (.inr (.inr (6, k, 0))), some (.inl (h.1 6 4 k 0)), some (.inr (.inl p26.1)), none, some (.inl p26.2), some (.inl (s1.2.2 + (-1 : Int32)))]) (stk' := []) (h' := h) 2 (fun _ _ => rfl) ?_
      have hz := Option.some.inj HF
      subst hz
      exact H12 (p26.1, p26.2, (s1.2.2 + (-1 : Int32))) rfl
    replace HF := HA22
    refine q_br (P := ¬ x19 = 0) (pcT := 41) (pcF := 30) (loc' := [some (.inr (.inr (6, k, 0))), some (.inl (h.1 6 4 k 0)), some (.inr (.inl s1.1)), none, some (.inl s1.2.1), some (.inl s1.2.2)]) (stk' := []) (h' := h) 1 (fun _ _ => rfl) (fun c25 => ?_) (fun c25 => ?_)
    · rw [if_pos c25] at HF
      have hz := Option.some.inj HF
      subst hz
      exact hP24 (s1.1, s1.2.1) HK23
    · rw [if_neg c25] at HF
      refine q_blk (pc' := 41) (loc' := [some (.inr (.inr (6, k, 0))), some (.inl (h.1 6 4 k 0)), some (.inr (.inl (s1.1 ||| ((1 : Int64) <<< (s1.2.2.toInt64 &&& 63))))), none, some (.inl s1.2.2), some (.inl s1.2.2)]) (stk' := []) (h' := h) 8 (fun _ _ => rfl) ?_
      have hz := Option.some.inj HF
      subst hz
      exact hP24 ((s1.1 ||| ((1 : Int64) <<< (s1.2.2.toInt64 &&& 63))), s1.2.2) HK23
def Tn_end (k : Nat) (a1 : Int32) (a2 : Int32) (h : q_H) : Option q_H :=
  (Rp_put 7 k a1 a2 h).bind fun x1 => (Rp_put 9 k a1 (-1 : Int32) x1).bind fun x3 => (q_lp (fun s5 : Int32 × q_H => (if (s5.2.1 6 4 k 0) ≤ s5.1 then ((Tn_horizonBut k (-1 : Int32) s5.2).bind fun x13 => some (.inr ((q_si s5.2 6 5 k 0 x13)))) else ((Tn_waitsFor k s5.1 s5.2).bind fun x15 => Option.bind (α := q_H) (if ¬ x15 = a1 then (some (s5.2)) else ((Rp_put 9 k s5.1 (-1 : Int32) s5.2).bind fun x21 => some (x21))) (fun p24 => some (.inl ((s5.1 + (1 : Int32)), p24)))) : Option ((Int32 × q_H) ⊕ q_H))) q_fu (((1 : Int32), x3) : Int32 × q_H)).bind fun z12 => some z12
set_option maxRecDepth 100000 in
set_option maxHeartbeats 4000000 in
theorem eTn_end {d : Nat} (hd : 4 ≤ d) {k : Nat} {a1 : Int32} {a2 : Int32} {h : q_H} {r : q_H} (HF : Tn_end k a1 a2 h = some r) : q_T d 113 [.inr (.inr (6, k, 0)), .inl a1, .inl a2] h (none, r) := by
  obtain ⟨d, rfl⟩ : ∃ d', d = d' + 1 := ⟨d - 1, by omega⟩
  refine q_ent q_K113 rfl rfl rfl ?_
  unfold Tn_end at HF
  obtain ⟨x1, hx2, HF⟩ := q_bind HF
  refine q_cll (m' := 61) (av := [.inr (.inr (7, k, 0)), .inl a1, .inl a2]) (st' := []) (pc' := 9) (loc' := [some (.inr (.inr (6, k, 0))), some (.inl a1), some (.inl a2), none]) (h' := h) 5 (fun _ _ => rfl) (eRp_put (by omega) hx2) ?_
  obtain ⟨x3, hx4, HF⟩ := q_bind HF
  refine q_cll (m' := 61) (av := [.inr (.inr (9, k, 0)), .inl a1, .inl (-1 : Int32)]) (st' := []) (pc' := 18) (loc' := [some (.inr (.inr (6, k, 0))), some (.inl a1), some (.inl a2), none]) (h' := x1) 5 (fun _ _ => rfl) (eRp_put (by omega) hx4) ?_
  refine q_blk (pc' := 20) (loc' := [some (.inr (.inr (6, k, 0))), some (.inl a1), some (.inl a2), some (.inl (1 : Int32))]) (stk' := []) (h' := x3) 2 (fun _ _ => rfl) ?_
  obtain ⟨r10, hl11, HK8⟩ := q_bind HF
  refine q_lpE (E := fun s5 => q_E d q_K113 20 [some (.inr (.inr (6, k, 0))), some (.inl a1), some (.inl a2), some (.inl s5.1)] [] s5.2 (none, r)) r10 (fun s5 z12 HF H16 H27 => ?_) _ _ hl11
  refine q_br (P := (s5.2.1 6 4 k 0) ≤ s5.1) (pcT := 52) (pcF := 28) (loc' := [some (.inr (.inr (6, k, 0))), some (.inl a1), some (.inl a2), some (.inl s5.1)]) (stk' := []) (h' := s5.2) 4 (fun _ _ => rfl) (fun c26 => ?_) (fun c26 => ?_)
  · rw [if_pos c26] at HF
    obtain ⟨x13, hx14, HF⟩ := q_bind HF
    refine q_cll (m' := 115) (av := [.inr (.inr (6, k, 0)), .inl (-1 : Int32)]) (st' := [.inr (.inr (6, k, 0))]) (pc' := 58) (loc' := [some (.inr (.inr (6, k, 0))), some (.inl a1), some (.inl a2), some (.inl s5.1)]) (h' := s5.2) 4 (fun _ _ => rfl) (eTn_horizonBut (by omega) hx14) ?_
    have hz := Option.some.inj HF
    subst hz
    replace HF := HK8
    rw [← H27 _ rfl] at HF
    have hz := Option.some.inj HF
    subst hz
    exact q_rtn 2 (fun _ _ => rfl)
  · rw [if_neg c26] at HF
    obtain ⟨x15, hx16, HF⟩ := q_bind HF
    refine q_cll (m' := 108) (av := [.inr (.inr (6, k, 0)), .inl s5.1]) (st' := []) (pc' := 33) (loc' := [some (.inr (.inr (6, k, 0))), some (.inl a1), some (.inl a2), some (.inl s5.1)]) (h' := s5.2) 3 (fun _ _ => rfl) (eTn_waitsFor (by omega) hx16) ?_
    obtain ⟨z17, HA18, HK19⟩ := q_bind HF
    have hP20 : ∀ p24 : q_H, (some (.inl ((s5.1 + (1 : Int32)), p24)) : Option ((Int32 × q_H) ⊕ q_H)) = some z12 → q_E d q_K113 46 [some (.inr (.inr (6, k, 0))), some (.inl a1), some (.inl a2), some (.inl s5.1)] [] p24 (none, r) := by
      intro p24 HF
      refine q_blk (pc' := 20) (loc' := [some (.inr (.inr (6, k, 0))), some (.inl a1), some (.inl a2), some (.inl (s5.1 + (1 : Int32)))]) (stk' := []) (h' := p24) 2 (fun _ _ => rfl) ?_
      have hz := Option.some.inj HF
      subst hz
      exact H16 ((s5.1 + (1 : Int32)), p24) rfl
    replace HF := HA18
    refine q_br (P := ¬ x15 = a1) (pcT := 46) (pcF := 37) (loc' := [some (.inr (.inr (6, k, 0))), some (.inl a1), some (.inl a2), some (.inl s5.1)]) (stk' := []) (h' := s5.2) 2 (fun _ _ => rfl) (fun c23 => ?_) (fun c23 => ?_)
    · rw [if_pos c23] at HF
      have hz := Option.some.inj HF
      subst hz
      exact hP20 (s5.2) HK19
    · rw [if_neg c23] at HF
      obtain ⟨x21, hx22, HF⟩ := q_bind HF
      refine q_cll (m' := 61) (av := [.inr (.inr (9, k, 0)), .inl s5.1, .inl (-1 : Int32)]) (st' := []) (pc' := 46) (loc' := [some (.inr (.inr (6, k, 0))), some (.inl a1), some (.inl a2), some (.inl s5.1)]) (h' := s5.2) 5 (fun _ _ => rfl) (eRp_put (by omega) hx22) ?_
      have hz := Option.some.inj HF
      subst hz
      exact hP20 (x21) HK19
def Tn_howManyWaitFor (k : Nat) (a1 : Int32) (h : q_H) : Option Int32 :=
  (q_lp (fun s1 : Int32 × Int32 => (if (h.1 6 4 k 0) ≤ s1.2 then (some (.inr (s1.1))) else (Option.bind (α := Int32) (if s1.2 = a1 then (some (s1.1)) else ((Tn_ringLength k a1 s1.2 h).bind fun x13 => if x13 ≤ 0 then (some (s1.1)) else (some ((s1.1 + (1 : Int32)))))) (fun p17 => some (.inl (p17, (s1.2 + (1 : Int32)))))) : Option ((Int32 × Int32) ⊕ Int32))) q_fu (((0 : Int32), (1 : Int32)) : Int32 × Int32)).bind fun z8 => some z8
set_option maxRecDepth 100000 in
set_option maxHeartbeats 4000000 in
theorem eTn_howManyWaitFor {d : Nat} (hd : 4 ≤ d) {k : Nat} {a1 : Int32} {h : q_H} {r : Int32} (HF : Tn_howManyWaitFor k a1 h = some r) : q_T d 121 [.inr (.inr (6, k, 0)), .inl a1] h (some (.inl r), h) := by
  obtain ⟨d, rfl⟩ : ∃ d', d = d' + 1 := ⟨d - 1, by omega⟩
  refine q_ent q_K121 rfl rfl rfl ?_
  unfold Tn_howManyWaitFor at HF
  refine q_blk (pc' := 4) (loc' := [some (.inr (.inr (6, k, 0))), some (.inl a1), some (.inl (0 : Int32)), some (.inl (1 : Int32))]) (stk' := []) (h' := h) 4 (fun _ _ => rfl) ?_
  obtain ⟨r6, hl7, HK4⟩ := q_bind HF
  refine q_lpE (E := fun s1 => q_E d q_K121 4 [some (.inr (.inr (6, k, 0))), some (.inl a1), some (.inl s1.1), some (.inl s1.2)] [] h (some (.inl r), h)) r6 (fun s1 z8 HF H12 H23 => ?_) _ _ hl7
  refine q_br (P := (h.1 6 4 k 0) ≤ s1.2) (pcT := 35) (pcF := 12) (loc' := [some (.inr (.inr (6, k, 0))), some (.inl a1), some (.inl s1.1), some (.inl s1.2)]) (stk' := []) (h' := h) 4 (fun _ _ => rfl) (fun c19 => ?_) (fun c19 => ?_)
  · rw [if_pos c19] at HF
    have hz := Option.some.inj HF
    subst hz
    replace HF := HK4
    rw [← H23 _ rfl] at HF
    have hz := Option.some.inj HF
    subst hz
    exact q_rtn 2 (fun _ _ => rfl)
  · rw [if_neg c19] at HF
    obtain ⟨z9, HA10, HK11⟩ := q_bind HF
    have hP12 : ∀ p17 : Int32, (some (.inl (p17, (s1.2 + (1 : Int32)))) : Option ((Int32 × Int32) ⊕ Int32)) = some z8 → q_E d q_K121 29 [some (.inr (.inr (6, k, 0))), some (.inl a1), some (.inl p17), some (.inl s1.2)] [] h (some (.inl r), h) := by
      intro p17 HF
      refine q_blk (pc' := 4) (loc' := [some (.inr (.inr (6, k, 0))), some (.inl a1), some (.inl p17), some (.inl (s1.2 + (1 : Int32)))]) (stk' := []) (h' := h) 2 (fun _ _ => rfl) ?_
      have hz := Option.some.inj HF
      subst hz
      exact H12 (p17, (s1.2 + (1 : Int32))) rfl
    replace HF := HA10
    refine q_br (P := s1.2 = a1) (pcT := 29) (pcF := 17) (loc' := [some (.inr (.inr (6, k, 0))), some (.inl a1), some (.inl s1.1), some (.inl s1.2)]) (stk' := []) (h' := h) 3 (fun _ _ => rfl) (fun c16 => ?_) (fun c16 => ?_)
    · rw [if_pos c16] at HF
      have hz := Option.some.inj HF
      subst hz
      exact hP12 (s1.1) HK11
    · rw [if_neg c16] at HF
      obtain ⟨x13, hx14, HF⟩ := q_bind HF
      refine q_cll (m' := 120) (av := [.inr (.inr (6, k, 0)), .inl a1, .inl s1.2]) (st' := []) (pc' := 23) (loc' := [some (.inr (.inr (6, k, 0))), some (.inl a1), some (.inl s1.1), some (.inl s1.2)]) (h' := h) 4 (fun _ _ => rfl) (eTn_ringLength (by omega) hx14) ?_
      refine q_br (P := x13 ≤ 0) (pcT := 29) (pcF := 26) (loc' := [some (.inr (.inr (6, k, 0))), some (.inl a1), some (.inl s1.1), some (.inl s1.2)]) (stk' := []) (h' := h) 1 (fun _ _ => rfl) (fun c15 => ?_) (fun c15 => ?_)
      · rw [if_pos c15] at HF
        have hz := Option.some.inj HF
        subst hz
        exact hP12 (s1.1) HK11
      · rw [if_neg c15] at HF
        refine q_blk (pc' := 29) (loc' := [some (.inr (.inr (6, k, 0))), some (.inl a1), some (.inl (s1.1 + (1 : Int32))), some (.inl s1.2)]) (stk' := []) (h' := h) 1 (fun _ _ => rfl) ?_
        have hz := Option.some.inj HF
        subst hz
        exact hP12 (s1.1 + (1 : Int32)) HK11
def Tx_readToken  (h : q_H) : Option q_H :=
  (q_lp (fun s1 : q_H => (if (s1.1 25 2 6 0) ≤ (s1.1 25 3 6 0) then (some (.inr (s1))) else ((Tx_byteAt (s1.1 25 3 6 0) s1).bind fun x9 => if x9 = (32 : Int32) then (some (.inl (q_si s1 25 3 6 0 ((s1.1 25 3 6 0) + (1 : Int32))))) else ((Tx_byteAt (s1.1 25 3 6 0) s1).bind fun x11 => if ¬ x11 = (10 : Int32) then (some (.inr (s1))) else (some (.inl (q_si s1 25 3 6 0 ((s1.1 25 3 6 0) + (1 : Int32))))))) : Option ((q_H) ⊕ (q_H)))) q_fu (h : q_H)).bind fun p16 => (Tx_byteAt ((q_si p16 25 5 6 0 (p16.1 25 3 6 0)).1 25 3 6 0) (q_si p16 25 5 6 0 (p16.1 25 3 6 0))).bind fun x17 => if ((q_si p16 25 5 6 0 (p16.1 25 3 6 0)).1 25 3 6 0) < ((q_si p16 25 5 6 0 (p16.1 25 3 6 0)).1 25 2 6 0) then (if ¬ x17 = (59 : Int32) then ((Rp_isWithin x17 (97 : Int32) (122 : Int32) (q_si p16 25 5 6 0 (p16.1 25 3 6 0))).bind fun x19 => if x19 = 0 then ((Rp_isWithin x17 (48 : Int32) (57 : Int32) (q_si p16 25 5 6 0 (p16.1 25 3 6 0))).bind fun x21 => if x21 = 0 then (some ((q_si (q_si p16 25 5 6 0 (p16.1 25 3 6 0)) 25 4 6 0 (4 : Int32)))) else ((Tx_passAll (48 : Int32) (57 : Int32) (q_si p16 25 5 6 0 (p16.1 25 3 6 0))).bind fun x23 => if ((x23.1 25 3 6 0) - (x23.1 25 5 6 0)) ≤ (3 : Int32) then ((Tx_numberRead (q_si x23 25 4 6 0 (2 : Int32))).bind fun x25 => some ((q_si (q_si x23 25 4 6 0 (2 : Int32)) 25 6 6 0 x25))) else ((Tx_numberRead (q_si x23 25 4 6 0 (4 : Int32))).bind fun x27 => some ((q_si (q_si x23 25 4 6 0 (4 : Int32)) 25 6 6 0 x27))))) else ((Tx_passAll (97 : Int32) (122 : Int32) (q_si (q_si p16 25 5 6 0 (p16.1 25 3 6 0)) 25 4 6 0 (1 : Int32))).bind fun x31 => some (x31))) else ((some (q_si (q_si (q_si p16 25 5 6 0 (p16.1 25 3 6 0)) 25 4 6 0 (3 : Int32)) 25 3 6 0 (((q_si (q_si p16 25 5 6 0 (p16.1 25 3 6 0)) 25 4 6 0 (3 : Int32)).1 25 3 6 0) + (1 : Int32)))).bind fun h34 => some (h34))) else (some ((q_si (q_si p16 25 5 6 0 (p16.1 25 3 6 0)) 25 4 6 0 (0 : Int32))))
set_option maxRecDepth 100000 in
set_option maxHeartbeats 4000000 in
theorem eTx_readToken {d : Nat} (hd : 4 ≤ d)  {h : q_H} {r : q_H} (HF : Tx_readToken  h = some r) : q_T d 135 [.inr (.inr (25, 6, 0))] h (none, r) := by
  obtain ⟨d, rfl⟩ : ∃ d', d = d' + 1 := ⟨d - 1, by omega⟩
  refine q_ent q_K135 rfl rfl rfl ?_
  unfold Tx_readToken at HF
  obtain ⟨r6, hl7, HK4⟩ := q_bind HF
  have hP5 : ∀ p16 : q_H, ((Tx_byteAt ((q_si p16 25 5 6 0 (p16.1 25 3 6 0)).1 25 3 6 0) (q_si p16 25 5 6 0 (p16.1 25 3 6 0))).bind fun x17 => if ((q_si p16 25 5 6 0 (p16.1 25 3 6 0)).1 25 3 6 0) < ((q_si p16 25 5 6 0 (p16.1 25 3 6 0)).1 25 2 6 0) then (if ¬ x17 = (59 : Int32) then ((Rp_isWithin x17 (97 : Int32) (122 : Int32) (q_si p16 25 5 6 0 (p16.1 25 3 6 0))).bind fun x19 => if x19 = 0 then ((Rp_isWithin x17 (48 : Int32) (57 : Int32) (q_si p16 25 5 6 0 (p16.1 25 3 6 0))).bind fun x21 => if x21 = 0 then (some ((q_si (q_si p16 25 5 6 0 (p16.1 25 3 6 0)) 25 4 6 0 (4 : Int32)))) else ((Tx_passAll (48 : Int32) (57 : Int32) (q_si p16 25 5 6 0 (p16.1 25 3 6 0))).bind fun x23 => if ((x23.1 25 3 6 0) - (x23.1 25 5 6 0)) ≤ (3 : Int32) then ((Tx_numberRead (q_si x23 25 4 6 0 (2 : Int32))).bind fun x25 => some ((q_si (q_si x23 25 4 6 0 (2 : Int32)) 25 6 6 0 x25))) else ((Tx_numberRead (q_si x23 25 4 6 0 (4 : Int32))).bind fun x27 => some ((q_si (q_si x23 25 4 6 0 (4 : Int32)) 25 6 6 0 x27))))) else ((Tx_passAll (97 : Int32) (122 : Int32) (q_si (q_si p16 25 5 6 0 (p16.1 25 3 6 0)) 25 4 6 0 (1 : Int32))).bind fun x31 => some (x31))) else ((some (q_si (q_si (q_si p16 25 5 6 0 (p16.1 25 3 6 0)) 25 4 6 0 (3 : Int32)) 25 3 6 0 (((q_si (q_si p16 25 5 6 0 (p16.1 25 3 6 0)) 25 4 6 0 (3 : Int32)).1 25 3 6 0) + (1 : Int32)))).bind fun h34 => some (h34))) else (some ((q_si (q_si p16 25 5 6 0 (p16.1 25 3 6 0)) 25 4 6 0 (0 : Int32)))) : Option q_H) = some r → q_E d q_K135 50 [some (.inr (.inr (25, 6, 0))), none] [] p16 (none, r) := by
    intro p16 HF
    obtain ⟨x17, hx18, HF⟩ := q_bind HF
    refine q_cll (m' := 134) (av := [.inr (.inr (25, 6, 0)), .inl ((q_si p16 25 5 6 0 (p16.1 25 3 6 0)).1 25 3 6 0)]) (st' := []) (pc' := 66) (loc' := [some (.inr (.inr (25, 6, 0))), none]) (h' := (q_si p16 25 5 6 0 (p16.1 25 3 6 0))) 8 (fun _ _ => rfl) (eTx_byteAt (by omega) hx18) ?_
    refine q_br (P := ((q_si p16 25 5 6 0 (p16.1 25 3 6 0)).1 25 3 6 0) < ((q_si p16 25 5 6 0 (p16.1 25 3 6 0)).1 25 2 6 0)) (pcT := 86) (pcF := 78) (loc' := [some (.inr (.inr (25, 6, 0))), some (.inl x17)]) (stk' := []) (h' := (q_si p16 25 5 6 0 (p16.1 25 3 6 0))) 6 (fun _ _ => rfl) (fun c37 => ?_) (fun c37 => ?_)
    · rw [if_pos c37] at HF
      refine q_br (P := ¬ x17 = (59 : Int32)) (pcT := 110) (pcF := 92) (loc' := [some (.inr (.inr (25, 6, 0))), some (.inl x17)]) (stk' := []) (h' := (q_si p16 25 5 6 0 (p16.1 25 3 6 0))) 3 (fun _ _ => rfl) (fun c36 => ?_) (fun c36 => ?_)
      · rw [if_pos c36] at HF
        obtain ⟨x19, hx20, HF⟩ := q_bind HF
        refine q_cll (m' := 55) (av := [.inl x17, .inl (97 : Int32), .inl (122 : Int32)]) (st' := []) (pc' := 118) (loc' := [some (.inr (.inr (25, 6, 0))), some (.inl x17)]) (h' := (q_si p16 25 5 6 0 (p16.1 25 3 6 0))) 4 (fun _ _ => rfl) (eRp_isWithin (by omega) hx20) ?_
        refine q_br (P := x19 = 0) (pcT := 137) (pcF := 121) (loc' := [some (.inr (.inr (25, 6, 0))), some (.inl x17)]) (stk' := []) (h' := (q_si p16 25 5 6 0 (p16.1 25 3 6 0))) 1 (fun _ _ => rfl) (fun c33 => ?_) (fun c33 => ?_)
        · rw [if_pos c33] at HF
          obtain ⟨x21, hx22, HF⟩ := q_bind HF
          refine q_cll (m' := 55) (av := [.inl x17, .inl (48 : Int32), .inl (57 : Int32)]) (st' := []) (pc' := 145) (loc' := [some (.inr (.inr (25, 6, 0))), some (.inl x17)]) (h' := (q_si p16 25 5 6 0 (p16.1 25 3 6 0))) 4 (fun _ _ => rfl) (eRp_isWithin (by omega) hx22) ?_
          refine q_br (P := x21 = 0) (pcT := 189) (pcF := 148) (loc' := [some (.inr (.inr (25, 6, 0))), some (.inl x17)]) (stk' := []) (h' := (q_si p16 25 5 6 0 (p16.1 25 3 6 0))) 1 (fun _ _ => rfl) (fun c30 => ?_) (fun c30 => ?_)
          · rw [if_pos c30] at HF
            have hz := Option.some.inj HF
            subst hz
            exact q_rtn 4 (fun _ _ => rfl)
          · rw [if_neg c30] at HF
            obtain ⟨x23, hx24, HF⟩ := q_bind HF
            refine q_cll (m' := 136) (av := [.inr (.inr (25, 6, 0)), .inl (48 : Int32), .inl (57 : Int32)]) (st' := []) (pc' := 156) (loc' := [some (.inr (.inr (25, 6, 0))), some (.inl x17)]) (h' := (q_si p16 25 5 6 0 (p16.1 25 3 6 0))) 4 (fun _ _ => rfl) (eTx_passAll (by omega) hx24) ?_
            refine q_br (P := ((x23.1 25 3 6 0) - (x23.1 25 5 6 0)) ≤ (3 : Int32)) (pcT := 174) (pcF := 170) (loc' := [some (.inr (.inr (25, 6, 0))), some (.inl x17)]) (stk' := [.inr (.inr (25, 6, 0))]) (h' := x23) 8 (fun _ _ => rfl) (fun c29 => ?_) (fun c29 => ?_)
            · rw [if_pos c29] at HF
              obtain ⟨x25, hx26, HF⟩ := q_bind HF
              refine q_cll (m' := 137) (av := [.inr (.inr (25, 6, 0))]) (st' := [.inr (.inr (25, 6, 0))]) (pc' := 183) (loc' := [some (.inr (.inr (25, 6, 0))), some (.inl x17)]) (h' := (q_si x23 25 4 6 0 (2 : Int32))) 5 (fun _ _ => rfl) (eTx_numberRead (by omega) hx26) ?_
              have hz := Option.some.inj HF
              subst hz
              exact q_rtn 3 (fun _ _ => rfl)
            · rw [if_neg c29] at HF
              obtain ⟨x27, hx28, HF⟩ := q_bind HF
              refine q_cll (m' := 137) (av := [.inr (.inr (25, 6, 0))]) (st' := [.inr (.inr (25, 6, 0))]) (pc' := 183) (loc' := [some (.inr (.inr (25, 6, 0))), some (.inl x17)]) (h' := (q_si x23 25 4 6 0 (4 : Int32))) 6 (fun _ _ => rfl) (eTx_numberRead (by omega) hx28) ?_
              have hz := Option.some.inj HF
              subst hz
              exact q_rtn 3 (fun _ _ => rfl)
        · rw [if_neg c33] at HF
          obtain ⟨x31, hx32, HF⟩ := q_bind HF
          refine q_cll (m' := 136) (av := [.inr (.inr (25, 6, 0)), .inl (97 : Int32), .inl (122 : Int32)]) (st' := []) (pc' := 134) (loc' := [some (.inr (.inr (25, 6, 0))), some (.inl x17)]) (h' := (q_si (q_si p16 25 5 6 0 (p16.1 25 3 6 0)) 25 4 6 0 (1 : Int32))) 7 (fun _ _ => rfl) (eTx_passAll (by omega) hx32) ?_
          have hz := Option.some.inj HF
          subst hz
          exact q_rtn 2 (fun _ _ => rfl)
      · rw [if_neg c36] at HF
        obtain ⟨h34, e35, HF⟩ := q_bind HF
        refine q_blk (pc' := 107) (loc' := [some (.inr (.inr (25, 6, 0))), some (.inl x17)]) (stk' := []) (h' := (q_si (q_si (q_si p16 25 5 6 0 (p16.1 25 3 6 0)) 25 4 6 0 (3 : Int32)) 25 3 6 0 (((q_si (q_si p16 25 5 6 0 (p16.1 25 3 6 0)) 25 4 6 0 (3 : Int32)).1 25 3 6 0) + (1 : Int32)))) 9 (fun _ _ => rfl) ?_
        rw [Option.some.inj e35]
        have hz := Option.some.inj HF
        subst hz
        exact q_rtn 2 (fun _ _ => rfl)
    · rw [if_neg c37] at HF
      have hz := Option.some.inj HF
      subst hz
      exact q_rtn 5 (fun _ _ => rfl)
  refine q_lpE (E := fun s1 => q_E d q_K135 0 [some (.inr (.inr (25, 6, 0))), none] [] s1 (none, r)) r6 (fun s1 z8 HF H12 H23 => ?_) _ _ hl7
  refine q_br (P := (s1.1 25 2 6 0) ≤ (s1.1 25 3 6 0)) (pcT := 50) (pcF := 11) (loc' := [some (.inr (.inr (25, 6, 0))), none]) (stk' := []) (h' := s1) 5 (fun _ _ => rfl) (fun c15 => ?_) (fun c15 => ?_)
  · rw [if_pos c15] at HF
    have hz := Option.some.inj HF
    subst hz
    rw [← H23 _ rfl] at HK4
    exact hP5 (s1) HK4
  · rw [if_neg c15] at HF
    obtain ⟨x9, hx10, HF⟩ := q_bind HF
    refine q_cll (m' := 134) (av := [.inr (.inr (25, 6, 0)), .inl (s1.1 25 3 6 0)]) (st' := []) (pc' := 19) (loc' := [some (.inr (.inr (25, 6, 0))), none]) (h' := s1) 4 (fun _ _ => rfl) (eTx_byteAt (by omega) hx10) ?_
    refine q_br (P := x9 = (32 : Int32)) (pcT := 37) (pcF := 24) (loc' := [some (.inr (.inr (25, 6, 0))), none]) (stk' := []) (h' := s1) 2 (fun _ _ => rfl) (fun c14 => ?_) (fun c14 => ?_)
    · rw [if_pos c14] at HF
      refine q_blk (pc' := 0) (loc' := [some (.inr (.inr (25, 6, 0))), none]) (stk' := []) (h' := (q_si s1 25 3 6 0 ((s1.1 25 3 6 0) + (1 : Int32)))) 7 (fun _ _ => rfl) ?_
      have hz := Option.some.inj HF
      subst hz
      exact H12 (q_si s1 25 3 6 0 ((s1.1 25 3 6 0) + (1 : Int32))) rfl
    · rw [if_neg c14] at HF
      obtain ⟨x11, hx12, HF⟩ := q_bind HF
      refine q_cll (m' := 134) (av := [.inr (.inr (25, 6, 0)), .inl (s1.1 25 3 6 0)]) (st' := []) (pc' := 32) (loc' := [some (.inr (.inr (25, 6, 0))), none]) (h' := s1) 4 (fun _ _ => rfl) (eTx_byteAt (by omega) hx12) ?_
      refine q_br (P := ¬ x11 = (10 : Int32)) (pcT := 50) (pcF := 37) (loc' := [some (.inr (.inr (25, 6, 0))), none]) (stk' := []) (h' := s1) 2 (fun _ _ => rfl) (fun c13 => ?_) (fun c13 => ?_)
      · rw [if_pos c13] at HF
        have hz := Option.some.inj HF
        subst hz
        rw [← H23 _ rfl] at HK4
        exact hP5 (s1) HK4
      · rw [if_neg c13] at HF
        refine q_blk (pc' := 0) (loc' := [some (.inr (.inr (25, 6, 0))), none]) (stk' := []) (h' := (q_si s1 25 3 6 0 ((s1.1 25 3 6 0) + (1 : Int32)))) 7 (fun _ _ => rfl) ?_
        have hz := Option.some.inj HF
        subst hz
        exact H12 (q_si s1 25 3 6 0 ((s1.1 25 3 6 0) + (1 : Int32))) rfl
def St_copyFrom (k : Nat) (k1 : Nat) (h : q_H) : Option q_H :=
  (Pg_copyFrom k k1 h).bind fun x1 => (Tn_copyFrom k k1 x1).bind fun x3 => (Ix_copyFrom k k1 x3).bind fun x5 => (Lg_copyFrom k k1 x5).bind fun x7 => (Fo_copyFrom k k1 x7).bind fun x9 => (some (q_si (q_si (q_si x9 0 5 k 0 (x9.1 0 5 k1 0)) 0 6 k 0 ((q_si x9 0 5 k 0 (x9.1 0 5 k1 0)).1 0 6 k1 0)) 0 7 k 0 ((q_si (q_si x9 0 5 k 0 (x9.1 0 5 k1 0)) 0 6 k 0 ((q_si x9 0 5 k 0 (x9.1 0 5 k1 0)).1 0 6 k1 0)).1 0 7 k1 0))).bind fun h11 => some ((q_si h11 0 8 k 0 (h11.1 0 8 k1 0)))
set_option maxRecDepth 100000 in
set_option maxHeartbeats 4000000 in
theorem eSt_copyFrom {d : Nat} (hd : 4 ≤ d) {k : Nat} {k1 : Nat} {h : q_H} {r : q_H} (HF : St_copyFrom k k1 h = some r) : q_T d 142 [.inr (.inr (0, k, 0)), .inr (.inr (0, k1, 0))] h (none, r) := by
  obtain ⟨d, rfl⟩ : ∃ d', d = d' + 1 := ⟨d - 1, by omega⟩
  refine q_ent q_K142 rfl rfl rfl ?_
  unfold St_copyFrom at HF
  obtain ⟨x1, hx2, HF⟩ := q_bind HF
  refine q_cll (m' := 87) (av := [.inr (.inr (1, k, 0)), .inr (.inr (1, k1, 0))]) (st' := []) (pc' := 11) (loc' := [some (.inr (.inr (0, k, 0))), some (.inr (.inr (0, k1, 0)))]) (h' := h) 5 (fun _ _ => rfl) (ePg_copyFrom (by omega) hx2) ?_
  obtain ⟨x3, hx4, HF⟩ := q_bind HF
  refine q_cll (m' := 104) (av := [.inr (.inr (6, k, 0)), .inr (.inr (6, k1, 0))]) (st' := []) (pc' := 22) (loc' := [some (.inr (.inr (0, k, 0))), some (.inr (.inr (0, k1, 0)))]) (h' := x1) 5 (fun _ _ => rfl) (eTn_copyFrom (by omega) hx4) ?_
  obtain ⟨x5, hx6, HF⟩ := q_bind HF
  refine q_cll (m' := 70) (av := [.inr (.inr (11, k, 0)), .inr (.inr (11, k1, 0))]) (st' := []) (pc' := 33) (loc' := [some (.inr (.inr (0, k, 0))), some (.inr (.inr (0, k1, 0)))]) (h' := x3) 5 (fun _ _ => rfl) (eIx_copyFrom (by omega) hx6) ?_
  obtain ⟨x7, hx8, HF⟩ := q_bind HF
  refine q_cll (m' := 80) (av := [.inr (.inr (15, k, 0)), .inr (.inr (15, k1, 0))]) (st' := []) (pc' := 44) (loc' := [some (.inr (.inr (0, k, 0))), some (.inr (.inr (0, k1, 0)))]) (h' := x5) 5 (fun _ _ => rfl) (eLg_copyFrom (by omega) hx8) ?_
  obtain ⟨x9, hx10, HF⟩ := q_bind HF
  refine q_cll (m' := 67) (av := [.inr (.inr (19, k, 0)), .inr (.inr (19, k1, 0))]) (st' := []) (pc' := 55) (loc' := [some (.inr (.inr (0, k, 0))), some (.inr (.inr (0, k1, 0)))]) (h' := x7) 5 (fun _ _ => rfl) (eFo_copyFrom (by omega) hx10) ?_
  obtain ⟨h11, e12, HF⟩ := q_bind HF
  refine q_blk (pc' := 79) (loc' := [some (.inr (.inr (0, k, 0))), some (.inr (.inr (0, k1, 0)))]) (stk' := []) (h' := (q_si (q_si (q_si x9 0 5 k 0 (x9.1 0 5 k1 0)) 0 6 k 0 ((q_si x9 0 5 k 0 (x9.1 0 5 k1 0)).1 0 6 k1 0)) 0 7 k 0 ((q_si (q_si x9 0 5 k 0 (x9.1 0 5 k1 0)) 0 6 k 0 ((q_si x9 0 5 k 0 (x9.1 0 5 k1 0)).1 0 6 k1 0)).1 0 7 k1 0))) 12 (fun _ _ => rfl) ?_
  rw [Option.some.inj e12]
  have hz := Option.some.inj HF
  subst hz
  exact q_rtn 5 (fun _ _ => rfl)
def St_isSuch (k : Nat) (k1 : Nat) (i1 : Nat) (a2 : Int32) (h : q_H) : Option Int32 :=
  if a2 = 8 then (bif q_01 (h.1 3 10 k1 i1) then some ((h.1 3 10 k1 i1)) else none) else (if a2 = 9 then (bif q_01 (h.1 3 11 k1 i1) then some ((h.1 3 11 k1 i1)) else none) else (if a2 = 10 then ((St_isDead k k1 i1 h).bind fun x3 => bif q_01 x3 then some (x3) else none) else ((St_isDying k k1 i1 h).bind fun x6 => bif q_01 x6 then some (x6) else none)))
set_option maxRecDepth 100000 in
set_option maxHeartbeats 4000000 in
theorem eSt_isSuch {d : Nat} (hd : 4 ≤ d) {k : Nat} {k1 : Nat} {i1 : Nat} {a2 : Int32} {h : q_H} {r : Int32} (HF : St_isSuch k k1 i1 a2 h = some r) : q_T d 147 [.inr (.inr (0, k, 0)), .inr (.inr (3, k1, i1)), .inl a2] h (some (.inl r), h) := by
  obtain ⟨d, rfl⟩ : ∃ d', d = d' + 1 := ⟨d - 1, by omega⟩
  refine q_ent q_K147 rfl rfl rfl ?_
  unfold St_isSuch at HF
  by_cases c9 : a2 = 8
  · rw [if_pos c9] at HF
    refine q_sw (o1 := 27) (pcx := 1) (pc' := 28) (loc' := [some (.inr (.inr (0, k, 0))), some (.inr (.inr (3, k1, i1))), some (.inl a2)]) (stk' := []) (h' := h) 2 (fun _ _ => rfl) (q_tsI c9 rfl) rfl ?_
    obtain ⟨g1, HF⟩ := q_gF HF
    have hz := Option.some.inj HF
    subst hz
    exact q_rtz 3 (fun _ _ => rfl) g1
  · rw [if_neg c9] at HF
    by_cases c10 : a2 = 9
    · rw [if_pos c10] at HF
      refine q_sw (o1 := 32) (pcx := 1) (pc' := 33) (loc' := [some (.inr (.inr (0, k, 0))), some (.inr (.inr (3, k1, i1))), some (.inl a2)]) (stk' := []) (h' := h) 2 (fun _ _ => rfl) (q_tsI c10 rfl) rfl ?_
      obtain ⟨g2, HF⟩ := q_gF HF
      have hz := Option.some.inj HF
      subst hz
      exact q_rtz 3 (fun _ _ => rfl) g2
    · rw [if_neg c10] at HF
      by_cases c11 : a2 = 10
      · rw [if_pos c11] at HF
        refine q_sw (o1 := 37) (pcx := 1) (pc' := 38) (loc' := [some (.inr (.inr (0, k, 0))), some (.inr (.inr (3, k1, i1))), some (.inl a2)]) (stk' := []) (h' := h) 2 (fun _ _ => rfl) (q_tsI c11 rfl) rfl ?_
        obtain ⟨x3, hx4, HF⟩ := q_bind HF
        refine q_cll (m' := 145) (av := [.inr (.inr (0, k, 0)), .inr (.inr (3, k1, i1))]) (st' := []) (pc' := 43) (loc' := [some (.inr (.inr (0, k, 0))), some (.inr (.inr (3, k1, i1))), some (.inl a2)]) (h' := h) 3 (fun _ _ => rfl) (eSt_isDead (by omega) hx4) ?_
        obtain ⟨g5, HF⟩ := q_gF HF
        have hz := Option.some.inj HF
        subst hz
        exact q_rtz 1 (fun _ _ => rfl) g5
      · rw [if_neg c11] at HF
        refine q_sw (o1 := 43) (pcx := 1) (pc' := 44) (loc' := [some (.inr (.inr (0, k, 0))), some (.inr (.inr (3, k1, i1))), some (.inl a2)]) (stk' := []) (h' := h) 2 (fun _ _ => rfl) (q_tsD (a := a2) (lo := 8) (hi := 10) (by have z0 := q_neI c9 (a := 8) rfl; have z1 := q_neI c10 (a := 9) rfl; have z2 := q_neI c11 (a := 10) rfl; omega)) rfl ?_
        obtain ⟨x6, hx7, HF⟩ := q_bind HF
        refine q_cll (m' := 146) (av := [.inr (.inr (0, k, 0)), .inr (.inr (3, k1, i1))]) (st' := []) (pc' := 49) (loc' := [some (.inr (.inr (0, k, 0))), some (.inr (.inr (3, k1, i1))), some (.inl a2)]) (h' := h) 3 (fun _ _ => rfl) (eSt_isDying (by omega) hx7) ?_
        obtain ⟨g8, HF⟩ := q_gF HF
        have hz := Option.some.inj HF
        subst hz
        exact q_rtz 1 (fun _ _ => rfl) g8
def St_isCounted (k : Nat) (k1 : Nat) (i1 : Nat) (a2 : Int32) (h : q_H) : Option Int32 :=
  if a2 = 7 then (some ((1 : Int32))) else (if a2 = 8 then ((St_isDead k k1 i1 h).bind fun x1 => bif q_01 x1 then some (x1) else none) else (if a2 = 9 then ((St_isDying k k1 i1 h).bind fun x4 => bif q_01 x4 then some (x4) else none) else (if a2 = 10 then (bif q_01 (h.1 3 11 k1 i1) then some ((h.1 3 11 k1 i1)) else none) else (bif q_01 (h.1 3 10 k1 i1) then some ((h.1 3 10 k1 i1)) else none))))
set_option maxRecDepth 100000 in
set_option maxHeartbeats 4000000 in
theorem eSt_isCounted {d : Nat} (hd : 4 ≤ d) {k : Nat} {k1 : Nat} {i1 : Nat} {a2 : Int32} {h : q_H} {r : Int32} (HF : St_isCounted k k1 i1 a2 h = some r) : q_T d 149 [.inr (.inr (0, k, 0)), .inr (.inr (3, k1, i1)), .inl a2] h (some (.inl r), h) := by
  obtain ⟨d, rfl⟩ : ∃ d', d = d' + 1 := ⟨d - 1, by omega⟩
  refine q_ent q_K149 rfl rfl rfl ?_
  unfold St_isCounted at HF
  by_cases c9 : a2 = 7
  · rw [if_pos c9] at HF
    refine q_sw (o1 := 31) (pcx := 1) (pc' := 32) (loc' := [some (.inr (.inr (0, k, 0))), some (.inr (.inr (3, k1, i1))), some (.inl a2)]) (stk' := []) (h' := h) 2 (fun _ _ => rfl) (q_tsI c9 rfl) rfl ?_
    have hz := Option.some.inj HF
    subst hz
    exact q_rtn 2 (fun _ _ => rfl)
  · rw [if_neg c9] at HF
    by_cases c10 : a2 = 8
    · rw [if_pos c10] at HF
      refine q_sw (o1 := 33) (pcx := 1) (pc' := 34) (loc' := [some (.inr (.inr (0, k, 0))), some (.inr (.inr (3, k1, i1))), some (.inl a2)]) (stk' := []) (h' := h) 2 (fun _ _ => rfl) (q_tsI c10 rfl) rfl ?_
      obtain ⟨x1, hx2, HF⟩ := q_bind HF
      refine q_cll (m' := 145) (av := [.inr (.inr (0, k, 0)), .inr (.inr (3, k1, i1))]) (st' := []) (pc' := 39) (loc' := [some (.inr (.inr (0, k, 0))), some (.inr (.inr (3, k1, i1))), some (.inl a2)]) (h' := h) 3 (fun _ _ => rfl) (eSt_isDead (by omega) hx2) ?_
      obtain ⟨g3, HF⟩ := q_gF HF
      have hz := Option.some.inj HF
      subst hz
      exact q_rtz 1 (fun _ _ => rfl) g3
    · rw [if_neg c10] at HF
      by_cases c11 : a2 = 9
      · rw [if_pos c11] at HF
        refine q_sw (o1 := 39) (pcx := 1) (pc' := 40) (loc' := [some (.inr (.inr (0, k, 0))), some (.inr (.inr (3, k1, i1))), some (.inl a2)]) (stk' := []) (h' := h) 2 (fun _ _ => rfl) (q_tsI c11 rfl) rfl ?_
        obtain ⟨x4, hx5, HF⟩ := q_bind HF
        refine q_cll (m' := 146) (av := [.inr (.inr (0, k, 0)), .inr (.inr (3, k1, i1))]) (st' := []) (pc' := 45) (loc' := [some (.inr (.inr (0, k, 0))), some (.inr (.inr (3, k1, i1))), some (.inl a2)]) (h' := h) 3 (fun _ _ => rfl) (eSt_isDying (by omega) hx5) ?_
        obtain ⟨g6, HF⟩ := q_gF HF
        have hz := Option.some.inj HF
        subst hz
        exact q_rtz 1 (fun _ _ => rfl) g6
      · rw [if_neg c11] at HF
        by_cases c12 : a2 = 10
        · rw [if_pos c12] at HF
          refine q_sw (o1 := 45) (pcx := 1) (pc' := 46) (loc' := [some (.inr (.inr (0, k, 0))), some (.inr (.inr (3, k1, i1))), some (.inl a2)]) (stk' := []) (h' := h) 2 (fun _ _ => rfl) (q_tsI c12 rfl) rfl ?_
          obtain ⟨g7, HF⟩ := q_gF HF
          have hz := Option.some.inj HF
          subst hz
          exact q_rtz 3 (fun _ _ => rfl) g7
        · rw [if_neg c12] at HF
          refine q_sw (o1 := 50) (pcx := 1) (pc' := 51) (loc' := [some (.inr (.inr (0, k, 0))), some (.inr (.inr (3, k1, i1))), some (.inl a2)]) (stk' := []) (h' := h) 2 (fun _ _ => rfl) (q_tsD (a := a2) (lo := 7) (hi := 10) (by have z0 := q_neI c9 (a := 7) rfl; have z1 := q_neI c10 (a := 8) rfl; have z2 := q_neI c11 (a := 9) rfl; have z3 := q_neI c12 (a := 10) rfl; omega)) rfl ?_
          obtain ⟨g8, HF⟩ := q_gF HF
          have hz := Option.some.inj HF
          subst hz
          exact q_rtz 3 (fun _ _ => rfl) g8
def St_deadUnits (k : Nat) (h : q_H) : Option Int32 :=
  (q_lp (fun s1 : Int32 × Int32 => (if (6 : Int32) ≤ s1.2 then (some (.inr (s1.1))) else ((St_deadUnitsOf k s1.2 h).bind fun x9 => some (.inl ((s1.1 + x9), (s1.2 + (1 : Int32))))) : Option ((Int32 × Int32) ⊕ Int32))) q_fu (((0 : Int32), (0 : Int32)) : Int32 × Int32)).bind fun z8 => some z8
set_option maxRecDepth 100000 in
set_option maxHeartbeats 4000000 in
theorem eSt_deadUnits {d : Nat} (hd : 4 ≤ d) {k : Nat} {h : q_H} {r : Int32} (HF : St_deadUnits k h = some r) : q_T d 154 [.inr (.inr (0, k, 0))] h (some (.inl r), h) := by
  obtain ⟨d, rfl⟩ : ∃ d', d = d' + 1 := ⟨d - 1, by omega⟩
  refine q_ent q_K154 rfl rfl rfl ?_
  unfold St_deadUnits at HF
  refine q_blk (pc' := 4) (loc' := [some (.inr (.inr (0, k, 0))), some (.inl (0 : Int32)), some (.inl (0 : Int32))]) (stk' := []) (h' := h) 4 (fun _ _ => rfl) ?_
  obtain ⟨r6, hl7, HK4⟩ := q_bind HF
  refine q_lpE (E := fun s1 => q_E d q_K154 4 [some (.inr (.inr (0, k, 0))), some (.inl s1.1), some (.inl s1.2)] [] h (some (.inl r), h)) r6 (fun s1 z8 HF H12 H23 => ?_) _ _ hl7
  refine q_br (P := (6 : Int32) ≤ s1.2) (pcT := 24) (pcF := 10) (loc' := [some (.inr (.inr (0, k, 0))), some (.inl s1.1), some (.inl s1.2)]) (stk' := []) (h' := h) 3 (fun _ _ => rfl) (fun c11 => ?_) (fun c11 => ?_)
  · rw [if_pos c11] at HF
    have hz := Option.some.inj HF
    subst hz
    replace HF := HK4
    rw [← H23 _ rfl] at HF
    have hz := Option.some.inj HF
    subst hz
    exact q_rtn 2 (fun _ _ => rfl)
  · rw [if_neg c11] at HF
    obtain ⟨x9, hx10, HF⟩ := q_bind HF
    refine q_cll (m' := 153) (av := [.inr (.inr (0, k, 0)), .inl s1.2]) (st' := [.inl s1.1]) (pc' := 16) (loc' := [some (.inr (.inr (0, k, 0))), some (.inl s1.1), some (.inl s1.2)]) (h' := h) 4 (fun _ _ => rfl) (eSt_deadUnitsOf (by omega) hx10) ?_
    refine q_blk (pc' := 4) (loc' := [some (.inr (.inr (0, k, 0))), some (.inl (s1.1 + x9)), some (.inl (s1.2 + (1 : Int32)))]) (stk' := []) (h' := h) 4 (fun _ _ => rfl) ?_
    have hz := Option.some.inj HF
    subst hz
    exact H12 ((s1.1 + x9), (s1.2 + (1 : Int32))) rfl
def St_addVersion (k : Nat) (a1 : Int32) (a2 : Int32) (a3 : Int32) (a4 : Int32) (a5 : Int32) (a6 : Int32) (a7 : Int32) (h : q_H) : Option q_H :=
  (Pg_take k a1 h).bind fun x1 => Option.bind (α := q_H) (if x1.1 = 0 then (some (x1.2)) else ((Lg_count k (2 : Int32) (1 : Int32) x1.2).bind fun x7 => some (x7))) (fun p10 => (Pg_at k a1 p10).bind fun x11 => bif q_01 a7 then ((some (q_si (q_si (q_si (q_si (q_si (q_si (q_si p10 3 2 k x11 a2) 3 3 k x11 a3) 3 4 k x11 a4) 3 5 k x11 a5) 3 6 k x11 a6) 3 10 k x11 a7) 3 9 k x11 ((q_si (q_si (q_si (q_si (q_si (q_si p10 3 2 k x11 a2) 3 3 k x11 a3) 3 4 k x11 a4) 3 5 k x11 a5) 3 6 k x11 a6) 3 10 k x11 a7).1 0 8 k 0))).bind fun h13 => if ¬ a7 = 0 then (some ((q_si h13 0 8 k 0 ((h13.1 0 8 k 0) + (1 : Int32))))) else ((Ix_add k a3 a1 (q_si h13 0 8 k 0 ((h13.1 0 8 k 0) + (1 : Int32)))).bind fun x15 => some (x15))) else none)
set_option maxRecDepth 100000 in
set_option maxHeartbeats 4000000 in
theorem eSt_addVersion {d : Nat} (hd : 4 ≤ d) {k : Nat} {a1 : Int32} {a2 : Int32} {a3 : Int32} {a4 : Int32} {a5 : Int32} {a6 : Int32} {a7 : Int32} {h : q_H} {r : q_H} (HF : St_addVersion k a1 a2 a3 a4 a5 a6 a7 h = some r) : q_T d 161 [.inr (.inr (0, k, 0)), .inl a1, .inl a2, .inl a3, .inl a4, .inl a5, .inl a6, .inl a7] h (none, r) := by
  obtain ⟨d, rfl⟩ : ∃ d', d = d' + 1 := ⟨d - 1, by omega⟩
  refine q_ent q_K161 rfl rfl rfl ?_
  unfold St_addVersion at HF
  obtain ⟨x1, hx2, HF⟩ := q_bind HF
  refine q_cll (m' := 101) (av := [.inr (.inr (1, k, 0)), .inl a1]) (st' := []) (pc' := 8) (loc' := [some (.inr (.inr (0, k, 0))), some (.inl a1), some (.inl a2), some (.inl a3), some (.inl a4), some (.inl a5), some (.inl a6), some (.inl a7), none]) (h' := h) 4 (fun _ _ => rfl) (ePg_take (by omega) hx2) ?_
  obtain ⟨z3, HA4, HK5⟩ := q_bind HF
  have hP6 : ∀ p10 : q_H, ((Pg_at k a1 p10).bind fun x11 => bif q_01 a7 then ((some (q_si (q_si (q_si (q_si (q_si (q_si (q_si p10 3 2 k x11 a2) 3 3 k x11 a3) 3 4 k x11 a4) 3 5 k x11 a5) 3 6 k x11 a6) 3 10 k x11 a7) 3 9 k x11 ((q_si (q_si (q_si (q_si (q_si (q_si p10 3 2 k x11 a2) 3 3 k x11 a3) 3 4 k x11 a4) 3 5 k x11 a5) 3 6 k x11 a6) 3 10 k x11 a7).1 0 8 k 0))).bind fun h13 => if ¬ a7 = 0 then (some ((q_si h13 0 8 k 0 ((h13.1 0 8 k 0) + (1 : Int32))))) else ((Ix_add k a3 a1 (q_si h13 0 8 k 0 ((h13.1 0 8 k 0) + (1 : Int32)))).bind fun x15 => some (x15))) else none : Option q_H) = some r → q_E d q_K161 20 [some (.inr (.inr (0, k, 0))), some (.inl a1), some (.inl a2), some (.inl a3), some (.inl a4), some (.inl a5), some (.inl a6), some (.inl a7), none] [] p10 (none, r) := by
    intro p10 HF
    obtain ⟨x11, hx12, HF⟩ := q_bind HF
    refine q_cll (m' := 89) (av := [.inr (.inr (1, k, 0)), .inl a1]) (st' := []) (pc' := 28) (loc' := [some (.inr (.inr (0, k, 0))), some (.inl a1), some (.inl a2), some (.inl a3), some (.inl a4), some (.inl a5), some (.inl a6), some (.inl a7), none]) (h' := p10) 4 (fun _ _ => rfl) (ePg_at (by omega) hx12) ?_
    obtain ⟨g18, HF⟩ := q_gF HF
    refine q_gdp (pc' := 70) (loc' := [some (.inr (.inr (0, k, 0))), some (.inl a1), some (.inl a2), some (.inl a3), some (.inl a4), some (.inl a5), some (.inl a6), some (.inl a7), some (.inr (.inr (3, k, x11)))]) (stk' := []) (h' := (q_si (q_si (q_si (q_si (q_si (q_si p10 3 2 k x11 a2) 3 3 k x11 a3) 3 4 k x11 a4) 3 5 k x11 a5) 3 6 k x11 a6) 3 10 k x11 a7)) 19 (fun _ _ => rfl) g18 ?_
    obtain ⟨h13, e14, HF⟩ := q_bind HF
    refine q_blk (pc' := 79) (loc' := [some (.inr (.inr (0, k, 0))), some (.inl a1), some (.inl a2), some (.inl a3), some (.inl a4), some (.inl a5), some (.inl a6), some (.inl a7), some (.inr (.inr (3, k, x11)))]) (stk' := []) (h' := (q_si (q_si (q_si (q_si (q_si (q_si (q_si p10 3 2 k x11 a2) 3 3 k x11 a3) 3 4 k x11 a4) 3 5 k x11 a5) 3 6 k x11 a6) 3 10 k x11 a7) 3 9 k x11 ((q_si (q_si (q_si (q_si (q_si (q_si p10 3 2 k x11 a2) 3 3 k x11 a3) 3 4 k x11 a4) 3 5 k x11 a5) 3 6 k x11 a6) 3 10 k x11 a7).1 0 8 k 0))) 4 (fun _ _ => rfl) ?_
    rw [Option.some.inj e14]
    refine q_br (P := ¬ a7 = 0) (pcT := 103) (pcF := 94) (loc' := [some (.inr (.inr (0, k, 0))), some (.inl a1), some (.inl a2), some (.inl a3), some (.inl a4), some (.inl a5), some (.inl a6), some (.inl a7), some (.inr (.inr (3, k, x11)))]) (stk' := []) (h' := (q_si h13 0 8 k 0 ((h13.1 0 8 k 0) + (1 : Int32)))) 8 (fun _ _ => rfl) (fun c17 => ?_) (fun c17 => ?_)
    · rw [if_pos c17] at HF
      have hz := Option.some.inj HF
      subst hz
      exact q_rtn 1 (fun _ _ => rfl)
    · rw [if_neg c17] at HF
      obtain ⟨x15, hx16, HF⟩ := q_bind HF
      refine q_cll (m' := 77) (av := [.inr (.inr (11, k, 0)), .inl a3, .inl a1]) (st' := []) (pc' := 103) (loc' := [some (.inr (.inr (0, k, 0))), some (.inl a1), some (.inl a2), some (.inl a3), some (.inl a4), some (.inl a5), some (.inl a6), some (.inl a7), some (.inr (.inr (3, k, x11)))]) (h' := (q_si h13 0 8 k 0 ((h13.1 0 8 k 0) + (1 : Int32)))) 5 (fun _ _ => rfl) (eIx_add (by omega) hx16) ?_
      have hz := Option.some.inj HF
      subst hz
      exact q_rtn 1 (fun _ _ => rfl)
  replace HF := HA4
  refine q_br (P := x1.1 = 0) (pcT := 20) (pcF := 11) (loc' := [some (.inr (.inr (0, k, 0))), some (.inl a1), some (.inl a2), some (.inl a3), some (.inl a4), some (.inl a5), some (.inl a6), some (.inl a7), none]) (stk' := []) (h' := x1.2) 1 (fun _ _ => rfl) (fun c9 => ?_) (fun c9 => ?_)
  · rw [if_pos c9] at HF
    have hz := Option.some.inj HF
    subst hz
    exact hP6 (x1.2) HK5
  · rw [if_neg c9] at HF
    obtain ⟨x7, hx8, HF⟩ := q_bind HF
    refine q_cll (m' := 85) (av := [.inr (.inr (15, k, 0)), .inl (2 : Int32), .inl (1 : Int32)]) (st' := []) (pc' := 20) (loc' := [some (.inr (.inr (0, k, 0))), some (.inl a1), some (.inl a2), some (.inl a3), some (.inl a4), some (.inl a5), some (.inl a6), some (.inl a7), none]) (h' := x1.2) 5 (fun _ _ => rfl) (eLg_count (by omega) hx8) ?_
    have hz := Option.some.inj HF
    subst hz
    exact hP6 (x7) HK5
def St_prunePage (k : Nat) (a1 : Int32) (h : q_H) : Option (Int32 × q_H) :=
  (q_lp (fun s1 : Int32 × Int32 × q_H => (if (10 : Int32) ≤ s1.2.1 then (some (.inr ((s1.1, s1.2.2)))) else ((St_pruneSlot k ((a1 * (10 : Int32)) + s1.2.1) s1.2.2).bind fun x9 => some (.inl ((s1.1 + x9.1), (s1.2.1 + (1 : Int32)), x9.2))) : Option ((Int32 × Int32 × q_H) ⊕ (Int32 × q_H)))) q_fu (((0 : Int32), (0 : Int32), h) : Int32 × Int32 × q_H)).bind fun p12 => (q_lp (fun s13 : Int32 × Int32 × q_H => (if (10 : Int32) ≤ s13.2.1 then (some (.inr ((s13.1, s13.2.2)))) else ((Pg_at k ((a1 * (10 : Int32)) + s13.2.1) s13.2.2).bind fun x21 => Option.bind (α := Int32 × q_H) (if ¬ (s13.2.2.1 3 0 k x21) = (1 : Int32) then (some ((s13.1, s13.2.2))) else (if (s13.2.2.1 3 10 k x21) = 0 then (some ((s13.1, s13.2.2))) else ((Tn_stateOf k (s13.2.2.1 3 6 k x21) s13.2.2).bind fun x27 => if ¬ x27 = (2 : Int32) then (some ((s13.1, s13.2.2))) else ((Sl_empty k x21 (0 : Int32) s13.2.2).bind fun x29 => some (((s13.1 + (1 : Int32)), x29)))))) (fun p34 => some (.inl (p34.1, (s13.2.1 + (1 : Int32)), p34.2)))) : Option ((Int32 × Int32 × q_H) ⊕ (Int32 × q_H)))) q_fu ((p12.1, (0 : Int32), p12.2) : Int32 × Int32 × q_H)).bind fun p37 => if p37.1 ≤ 0 then (some ((p37.1, p37.2))) else ((Pg_setClear k a1 (0 : Int32) p37.2).bind fun x38 => (Lg_count k (0 : Int32) (1 : Int32) x38).bind fun x40 => (Lg_count k (1 : Int32) p37.1 x40).bind fun x42 => (Lg_tell k (0 : Int32) a1 x42).bind fun x44 => some ((p37.1, x44)))
set_option maxRecDepth 100000 in
set_option maxHeartbeats 4000000 in
theorem eSt_prunePage {d : Nat} (hd : 4 ≤ d) {k : Nat} {a1 : Int32} {h : q_H} {r : (Int32 × q_H)} (HF : St_prunePage k a1 h = some r) : q_T d 164 [.inr (.inr (0, k, 0)), .inl a1] h (some (.inl r.1), r.2) := by
  obtain ⟨d, rfl⟩ : ∃ d', d = d' + 1 := ⟨d - 1, by omega⟩
  refine q_ent q_K164 rfl rfl rfl ?_
  unfold St_prunePage at HF
  refine q_blk (pc' := 4) (loc' := [some (.inr (.inr (0, k, 0))), some (.inl a1), some (.inl (0 : Int32)), some (.inl (0 : Int32)), none]) (stk' := []) (h' := h) 4 (fun _ _ => rfl) ?_
  obtain ⟨r6, hl7, HK4⟩ := q_bind HF
  have hP5 : ∀ p12 : Int32 × q_H, ((q_lp (fun s13 : Int32 × Int32 × q_H => (if (10 : Int32) ≤ s13.2.1 then (some (.inr ((s13.1, s13.2.2)))) else ((Pg_at k ((a1 * (10 : Int32)) + s13.2.1) s13.2.2).bind fun x21 => Option.bind (α := Int32 × q_H) (if ¬ (s13.2.2.1 3 0 k x21) = (1 : Int32) then (some ((s13.1, s13.2.2))) else (if (s13.2.2.1 3 10 k x21) = 0 then (some ((s13.1, s13.2.2))) else ((Tn_stateOf k (s13.2.2.1 3 6 k x21) s13.2.2).bind fun x27 => if ¬ x27 = (2 : Int32) then (some ((s13.1, s13.2.2))) else ((Sl_empty k x21 (0 : Int32) s13.2.2).bind fun x29 => some (((s13.1 + (1 : Int32)), x29)))))) (fun p34 => some (.inl (p34.1, (s13.2.1 + (1 : Int32)), p34.2)))) : Option ((Int32 × Int32 × q_H) ⊕ (Int32 × q_H)))) q_fu ((p12.1, (0 : Int32), p12.2) : Int32 × Int32 × q_H)).bind fun p37 => if p37.1 ≤ 0 then (some ((p37.1, p37.2))) else ((Pg_setClear k a1 (0 : Int32) p37.2).bind fun x38 => (Lg_count k (0 : Int32) (1 : Int32) x38).bind fun x40 => (Lg_count k (1 : Int32) p37.1 x40).bind fun x42 => (Lg_tell k (0 : Int32) a1 x42).bind fun x44 => some ((p37.1, x44))) : Option (Int32 × q_H)) = some r → q_E d q_K164 29 [some (.inr (.inr (0, k, 0))), some (.inl a1), some (.inl p12.1), none, none] [] p12.2 (some (.inl r.1), r.2) := by
    intro p12 HF
    refine q_blk (pc' := 31) (loc' := [some (.inr (.inr (0, k, 0))), some (.inl a1), some (.inl p12.1), some (.inl (0 : Int32)), none]) (stk' := []) (h' := p12.2) 2 (fun _ _ => rfl) ?_
    obtain ⟨r18, hl19, HK16⟩ := q_bind HF
    have hP17 : ∀ p37 : Int32 × q_H, (if p37.1 ≤ 0 then (some ((p37.1, p37.2))) else ((Pg_setClear k a1 (0 : Int32) p37.2).bind fun x38 => (Lg_count k (0 : Int32) (1 : Int32) x38).bind fun x40 => (Lg_count k (1 : Int32) p37.1 x40).bind fun x42 => (Lg_tell k (0 : Int32) a1 x42).bind fun x44 => some ((p37.1, x44))) : Option (Int32 × q_H)) = some r → q_E d q_K164 100 [some (.inr (.inr (0, k, 0))), some (.inl a1), some (.inl p37.1), none, none] [] p37.2 (some (.inl r.1), r.2) := by
      intro p37 HF
      refine q_br (P := p37.1 ≤ 0) (pcT := 140) (pcF := 104) (loc' := [some (.inr (.inr (0, k, 0))), some (.inl a1), some (.inl p37.1), none, none]) (stk' := []) (h' := p37.2) 2 (fun _ _ => rfl) (fun c46 => ?_) (fun c46 => ?_)
      · rw [if_pos c46] at HF
        have hz := Option.some.inj HF
        subst hz
        exact q_rtn 2 (fun _ _ => rfl)
      · rw [if_neg c46] at HF
        obtain ⟨x38, hx39, HF⟩ := q_bind HF
        refine q_cll (m' := 93) (av := [.inr (.inr (1, k, 0)), .inl a1, .inl (0 : Int32)]) (st' := []) (pc' := 113) (loc' := [some (.inr (.inr (0, k, 0))), some (.inl a1), some (.inl p37.1), none, none]) (h' := p37.2) 5 (fun _ _ => rfl) (ePg_setClear (by omega) hx39) ?_
        obtain ⟨x40, hx41, HF⟩ := q_bind HF
        refine q_cll (m' := 85) (av := [.inr (.inr (15, k, 0)), .inl (0 : Int32), .inl (1 : Int32)]) (st' := []) (pc' := 122) (loc' := [some (.inr (.inr (0, k, 0))), some (.inl a1), some (.inl p37.1), none, none]) (h' := x38) 5 (fun _ _ => rfl) (eLg_count (by omega) hx41) ?_
        obtain ⟨x42, hx43, HF⟩ := q_bind HF
        refine q_cll (m' := 85) (av := [.inr (.inr (15, k, 0)), .inl (1 : Int32), .inl p37.1]) (st' := []) (pc' := 131) (loc' := [some (.inr (.inr (0, k, 0))), some (.inl a1), some (.inl p37.1), none, none]) (h' := x40) 5 (fun _ _ => rfl) (eLg_count (by omega) hx43) ?_
        obtain ⟨x44, hx45, HF⟩ := q_bind HF
        refine q_cll (m' := 82) (av := [.inr (.inr (15, k, 0)), .inl (0 : Int32), .inl a1]) (st' := []) (pc' := 140) (loc' := [some (.inr (.inr (0, k, 0))), some (.inl a1), some (.inl p37.1), none, none]) (h' := x42) 5 (fun _ _ => rfl) (eLg_tell (by omega) hx45) ?_
        have hz := Option.some.inj HF
        subst hz
        exact q_rtn 2 (fun _ _ => rfl)
    refine q_lpE (E := fun s13 => q_E d q_K164 31 [some (.inr (.inr (0, k, 0))), some (.inl a1), some (.inl s13.1), some (.inl s13.2.1), none] [] s13.2.2 (some (.inl r.1), r.2)) r18 (fun s13 z20 HF H114 H215 => ?_) _ _ hl19
    refine q_br (P := (10 : Int32) ≤ s13.2.1) (pcT := 100) (pcF := 37) (loc' := [some (.inr (.inr (0, k, 0))), some (.inl a1), some (.inl s13.1), some (.inl s13.2.1), none]) (stk' := []) (h' := s13.2.2) 3 (fun _ _ => rfl) (fun c36 => ?_) (fun c36 => ?_)
    · rw [if_pos c36] at HF
      have hz := Option.some.inj HF
      subst hz
      rw [← H215 _ rfl] at HK16
      exact q_wk (loc := [some (.inr (.inr (0, k, 0))), some (.inl a1), some (.inl s13.1), none, none]) ⟨Or.inl rfl, ⟨Or.inl rfl, ⟨Or.inl rfl, ⟨Or.inr ⟨rfl, fun _ h => by cases h⟩, ⟨Or.inl rfl, trivial⟩⟩⟩⟩⟩ (hP17 (s13.1, s13.2.2) HK16)
    · rw [if_neg c36] at HF
      obtain ⟨x21, hx22, HF⟩ := q_bind HF
      refine q_cll (m' := 89) (av := [.inr (.inr (1, k, 0)), .inl ((a1 * (10 : Int32)) + s13.2.1)]) (st' := []) (pc' := 50) (loc' := [some (.inr (.inr (0, k, 0))), some (.inl a1), some (.inl s13.1), some (.inl s13.2.1), none]) (h' := s13.2.2) 8 (fun _ _ => rfl) (ePg_at (by omega) hx22) ?_
      obtain ⟨z23, HA24, HK25⟩ := q_bind HF
      have hP26 : ∀ p34 : Int32 × q_H, (some (.inl (p34.1, (s13.2.1 + (1 : Int32)), p34.2)) : Option ((Int32 × Int32 × q_H) ⊕ (Int32 × q_H))) = some z20 → q_E d q_K164 94 [some (.inr (.inr (0, k, 0))), some (.inl a1), some (.inl p34.1), some (.inl s13.2.1), some (.inr (.inr (3, k, x21)))] [] p34.2 (some (.inl r.1), r.2) := by
        intro p34 HF
        refine q_blk (pc' := 31) (loc' := [some (.inr (.inr (0, k, 0))), some (.inl a1), some (.inl p34.1), some (.inl (s13.2.1 + (1 : Int32))), some (.inr (.inr (3, k, x21)))]) (stk' := []) (h' := p34.2) 2 (fun _ _ => rfl) ?_
        have hz := Option.some.inj HF
        subst hz
        exact q_wk (loc := [some (.inr (.inr (0, k, 0))), some (.inl a1), some (.inl p34.1), some (.inl (s13.2.1 + (1 : Int32))), none]) ⟨Or.inl rfl, ⟨Or.inl rfl, ⟨Or.inl rfl, ⟨Or.inl rfl, ⟨Or.inr ⟨rfl, fun _ h => by cases h⟩, trivial⟩⟩⟩⟩⟩ (H114 (p34.1, (s13.2.1 + (1 : Int32)), p34.2) rfl)
      replace HF := HA24
      refine q_br (P := ¬ (s13.2.2.1 3 0 k x21) = (1 : Int32)) (pcT := 94) (pcF := 61) (loc' := [some (.inr (.inr (0, k, 0))), some (.inl a1), some (.inl s13.1), some (.inl s13.2.1), some (.inr (.inr (3, k, x21)))]) (stk' := []) (h' := s13.2.2) 5 (fun _ _ => rfl) (fun c33 => ?_) (fun c33 => ?_)
      · rw [if_pos c33] at HF
        have hz := Option.some.inj HF
        subst hz
        exact hP26 (s13.1, s13.2.2) HK25
      · rw [if_neg c33] at HF
        refine q_br (P := (s13.2.2.1 3 10 k x21) = 0) (pcT := 94) (pcF := 69) (loc' := [some (.inr (.inr (0, k, 0))), some (.inl a1), some (.inl s13.1), some (.inl s13.2.1), some (.inr (.inr (3, k, x21)))]) (stk' := []) (h' := s13.2.2) 3 (fun _ _ => rfl) (fun c32 => ?_) (fun c32 => ?_)
        · rw [if_pos c32] at HF
          have hz := Option.some.inj HF
          subst hz
          exact hP26 (s13.1, s13.2.2) HK25
        · rw [if_neg c32] at HF
          obtain ⟨x27, hx28, HF⟩ := q_bind HF
          refine q_cll (m' := 106) (av := [.inr (.inr (6, k, 0)), .inl (s13.2.2.1 3 6 k x21)]) (st' := []) (pc' := 81) (loc' := [some (.inr (.inr (0, k, 0))), some (.inl a1), some (.inl s13.1), some (.inl s13.2.1), some (.inr (.inr (3, k, x21)))]) (h' := s13.2.2) 5 (fun _ _ => rfl) (eTn_stateOf (by omega) hx28) ?_
          refine q_br (P := ¬ x27 = (2 : Int32)) (pcT := 94) (pcF := 85) (loc' := [some (.inr (.inr (0, k, 0))), some (.inl a1), some (.inl s13.1), some (.inl s13.2.1), some (.inr (.inr (3, k, x21)))]) (stk' := []) (h' := s13.2.2) 2 (fun _ _ => rfl) (fun c31 => ?_) (fun c31 => ?_)
          · rw [if_pos c31] at HF
            have hz := Option.some.inj HF
            subst hz
            exact hP26 (s13.1, s13.2.2) HK25
          · rw [if_neg c31] at HF
            obtain ⟨x29, hx30, HF⟩ := q_bind HF
            refine q_cll (m' := 63) (av := [.inr (.inr (3, k, x21)), .inl (0 : Int32)]) (st' := []) (pc' := 91) (loc' := [some (.inr (.inr (0, k, 0))), some (.inl a1), some (.inl s13.1), some (.inl s13.2.1), some (.inr (.inr (3, k, x21)))]) (h' := s13.2.2) 3 (fun _ _ => rfl) (eSl_empty (by omega) hx30) ?_
            refine q_blk (pc' := 94) (loc' := [some (.inr (.inr (0, k, 0))), some (.inl a1), some (.inl (s13.1 + (1 : Int32))), some (.inl s13.2.1), some (.inr (.inr (3, k, x21)))]) (stk' := []) (h' := x29) 1 (fun _ _ => rfl) ?_
            have hz := Option.some.inj HF
            subst hz
            exact hP26 ((s13.1 + (1 : Int32)), x29) HK25
  refine q_lpE (E := fun s1 => q_E d q_K164 4 [some (.inr (.inr (0, k, 0))), some (.inl a1), some (.inl s1.1), some (.inl s1.2.1), none] [] s1.2.2 (some (.inl r.1), r.2)) r6 (fun s1 z8 HF H12 H23 => ?_) _ _ hl7
  refine q_br (P := (10 : Int32) ≤ s1.2.1) (pcT := 29) (pcF := 10) (loc' := [some (.inr (.inr (0, k, 0))), some (.inl a1), some (.inl s1.1), some (.inl s1.2.1), none]) (stk' := []) (h' := s1.2.2) 3 (fun _ _ => rfl) (fun c11 => ?_) (fun c11 => ?_)
  · rw [if_pos c11] at HF
    have hz := Option.some.inj HF
    subst hz
    rw [← H23 _ rfl] at HK4
    exact q_wk (loc := [some (.inr (.inr (0, k, 0))), some (.inl a1), some (.inl s1.1), none, none]) ⟨Or.inl rfl, ⟨Or.inl rfl, ⟨Or.inl rfl, ⟨Or.inr ⟨rfl, fun _ h => by cases h⟩, ⟨Or.inl rfl, trivial⟩⟩⟩⟩⟩ (hP5 (s1.1, s1.2.2) HK4)
  · rw [if_neg c11] at HF
    obtain ⟨x9, hx10, HF⟩ := q_bind HF
    refine q_cll (m' := 165) (av := [.inr (.inr (0, k, 0)), .inl ((a1 * (10 : Int32)) + s1.2.1)]) (st' := [.inl s1.1]) (pc' := 21) (loc' := [some (.inr (.inr (0, k, 0))), some (.inl a1), some (.inl s1.1), some (.inl s1.2.1), none]) (h' := s1.2.2) 8 (fun _ _ => rfl) (eSt_pruneSlot (by omega) hx10) ?_
    refine q_blk (pc' := 4) (loc' := [some (.inr (.inr (0, k, 0))), some (.inl a1), some (.inl (s1.1 + x9.1)), some (.inl (s1.2.1 + (1 : Int32))), none]) (stk' := []) (h' := x9.2) 4 (fun _ _ => rfl) ?_
    have hz := Option.some.inj HF
    subst hz
    exact H12 ((s1.1 + x9.1), (s1.2.1 + (1 : Int32)), x9.2) rfl
def St_clearStubs (k : Nat) (h : q_H) : Option (Int32 × q_H) :=
  (q_lp (fun s1 : Int32 × Int32 × Int32 × Int32 × q_H => (if (60 : Int32) ≤ s1.2.2.2.1 then (some (.inr ((s1.1, s1.2.1, s1.2.2.1, s1.2.2.2.2)))) else ((Pg_at k s1.2.2.2.1 s1.2.2.2.2).bind fun x9 => Option.bind (α := Int32 × Int32 × Int32 × q_H) (if (s1.2.2.2.2.1 3 0 k x9) = (3 : Int32) then ((Ix_dropAllTo k s1.2.2.2.1 s1.2.2.2.2).bind fun x15 => (Pg_at k s1.2.2.2.1 x15.2).bind fun x17 => (Sl_empty k x17 (0 : Int32) x15.2).bind fun x19 => if (s1.2.1 + (1 : Int32)) < (x19.1 0 5 k 0) then (some (((s1.1 + (1 : Int32)), (s1.2.1 + (1 : Int32)), (s1.2.2.1 + x15.1), x19))) else ((St_tellPass k (s1.2.2.1 + x15.1) x19).bind fun x21 => some (((s1.1 + (1 : Int32)), (0 : Int32), (0 : Int32), x21)))) else (some ((s1.1, s1.2.1, s1.2.2.1, s1.2.2.2.2)))) (fun p25 => some (.inl (p25.1, p25.2.1, p25.2.2.1, (s1.2.2.2.1 + (1 : Int32)), p25.2.2.2)))) : Option ((Int32 × Int32 × Int32 × Int32 × q_H) ⊕ (Int32 × Int32 × Int32 × q_H)))) q_fu (((0 : Int32), (0 : Int32), (0 : Int32), (0 : Int32), h) : Int32 × Int32 × Int32 × Int32 × q_H)).bind fun p28 => if p28.2.1 ≤ 0 then (some ((p28.1, p28.2.2.2))) else ((St_tellPass k p28.2.2.1 p28.2.2.2).bind fun x29 => some ((p28.1, x29)))
set_option maxRecDepth 100000 in
set_option maxHeartbeats 4000000 in
theorem eSt_clearStubs {d : Nat} (hd : 4 ≤ d) {k : Nat} {h : q_H} {r : (Int32 × q_H)} (HF : St_clearStubs k h = some r) : q_T d 167 [.inr (.inr (0, k, 0))] h (some (.inl r.1), r.2) := by
  obtain ⟨d, rfl⟩ : ∃ d', d = d' + 1 := ⟨d - 1, by omega⟩
  refine q_ent q_K167 rfl rfl rfl ?_
  unfold St_clearStubs at HF
  refine q_blk (pc' := 9) (loc' := [some (.inr (.inr (0, k, 0))), some (.inl (0 : Int32)), some (.inl (0 : Int32)), some (.inl (0 : Int32)), some (.inl (0 : Int32))]) (stk' := []) (h' := h) 8 (fun _ _ => rfl) ?_
  obtain ⟨r6, hl7, HK4⟩ := q_bind HF
  have hP5 : ∀ p28 : Int32 × Int32 × Int32 × q_H, (if p28.2.1 ≤ 0 then (some ((p28.1, p28.2.2.2))) else ((St_tellPass k p28.2.2.1 p28.2.2.2).bind fun x29 => some ((p28.1, x29))) : Option (Int32 × q_H)) = some r → q_E d q_K167 89 [some (.inr (.inr (0, k, 0))), some (.inl p28.1), some (.inl p28.2.1), some (.inl p28.2.2.1), none] [] p28.2.2.2 (some (.inl r.1), r.2) := by
    intro p28 HF
    refine q_br (P := p28.2.1 ≤ 0) (pcT := 98) (pcF := 93) (loc' := [some (.inr (.inr (0, k, 0))), some (.inl p28.1), some (.inl p28.2.1), some (.inl p28.2.2.1), none]) (stk' := []) (h' := p28.2.2.2) 2 (fun _ _ => rfl) (fun c31 => ?_) (fun c31 => ?_)
    · rw [if_pos c31] at HF
      have hz := Option.some.inj HF
      subst hz
      exact q_rtn 2 (fun _ _ => rfl)
    · rw [if_neg c31] at HF
      obtain ⟨x29, hx30, HF⟩ := q_bind HF
      refine q_cll (m' := 168) (av := [.inr (.inr (0, k, 0)), .inl p28.2.2.1]) (st' := []) (pc' := 98) (loc' := [some (.inr (.inr (0, k, 0))), some (.inl p28.1), some (.inl p28.2.1), some (.inl p28.2.2.1), none]) (h' := p28.2.2.2) 3 (fun _ _ => rfl) (eSt_tellPass (by omega) hx30) ?_
      have hz := Option.some.inj HF
      subst hz
      exact q_rtn 2 (fun _ _ => rfl)
  refine q_lpE (E := fun s1 => q_E d q_K167 9 [some (.inr (.inr (0, k, 0))), some (.inl s1.1), some (.inl s1.2.1), some (.inl s1.2.2.1), some (.inl s1.2.2.2.1)] [] s1.2.2.2.2 (some (.inl r.1), r.2)) r6 (fun s1 z8 HF H12 H23 => ?_) _ _ hl7
  refine q_br (P := (60 : Int32) ≤ s1.2.2.2.1) (pcT := 89) (pcF := 16) (loc' := [some (.inr (.inr (0, k, 0))), some (.inl s1.1), some (.inl s1.2.1), some (.inl s1.2.2.1), some (.inl s1.2.2.2.1)]) (stk' := []) (h' := s1.2.2.2.2) 3 (fun _ _ => rfl) (fun c27 => ?_) (fun c27 => ?_)
  · rw [if_pos c27] at HF
    have hz := Option.some.inj HF
    subst hz
    rw [← H23 _ rfl] at HK4
    exact q_wk (loc := [some (.inr (.inr (0, k, 0))), some (.inl s1.1), some (.inl s1.2.1), some (.inl s1.2.2.1), none]) ⟨Or.inl rfl, ⟨Or.inl rfl, ⟨Or.inl rfl, ⟨Or.inl rfl, ⟨Or.inr ⟨rfl, fun _ h => by cases h⟩, trivial⟩⟩⟩⟩⟩ (hP5 (s1.1, s1.2.1, s1.2.2.1, s1.2.2.2.2) HK4)
  · rw [if_neg c27] at HF
    obtain ⟨x9, hx10, HF⟩ := q_bind HF
    refine q_cll (m' := 89) (av := [.inr (.inr (1, k, 0)), .inl s1.2.2.2.1]) (st' := []) (pc' := 25) (loc' := [some (.inr (.inr (0, k, 0))), some (.inl s1.1), some (.inl s1.2.1), some (.inl s1.2.2.1), some (.inl s1.2.2.2.1)]) (h' := s1.2.2.2.2) 4 (fun _ _ => rfl) (ePg_at (by omega) hx10) ?_
    obtain ⟨z11, HA12, HK13⟩ := q_bind HF
    have hP14 : ∀ p25 : Int32 × Int32 × Int32 × q_H, (some (.inl (p25.1, p25.2.1, p25.2.2.1, (s1.2.2.2.1 + (1 : Int32)), p25.2.2.2)) : Option ((Int32 × Int32 × Int32 × Int32 × q_H) ⊕ (Int32 × Int32 × Int32 × q_H))) = some z8 → q_E d q_K167 83 [some (.inr (.inr (0, k, 0))), some (.inl p25.1), some (.inl p25.2.1), some (.inl p25.2.2.1), some (.inl s1.2.2.2.1)] [] p25.2.2.2 (some (.inl r.1), r.2) := by
      intro p25 HF
      refine q_blk (pc' := 9) (loc' := [some (.inr (.inr (0, k, 0))), some (.inl p25.1), some (.inl p25.2.1), some (.inl p25.2.2.1), some (.inl (s1.2.2.2.1 + (1 : Int32)))]) (stk' := []) (h' := p25.2.2.2) 2 (fun _ _ => rfl) ?_
      have hz := Option.some.inj HF
      subst hz
      exact H12 (p25.1, p25.2.1, p25.2.2.1, (s1.2.2.2.1 + (1 : Int32)), p25.2.2.2) rfl
    replace HF := HA12
    refine q_br (P := (s1.2.2.2.2.1 3 0 k x9) = (3 : Int32)) (pcT := 35) (pcF := 32) (loc' := [some (.inr (.inr (0, k, 0))), some (.inl s1.1), some (.inl s1.2.1), some (.inl s1.2.2.1), some (.inl s1.2.2.2.1)]) (stk' := []) (h' := s1.2.2.2.2) 3 (fun _ _ => rfl) (fun c24 => ?_) (fun c24 => ?_)
    · rw [if_pos c24] at HF
      obtain ⟨x15, hx16, HF⟩ := q_bind HF
      refine q_cll (m' := 78) (av := [.inr (.inr (11, k, 0)), .inl s1.2.2.2.1]) (st' := [.inl s1.2.2.1]) (pc' := 45) (loc' := [some (.inr (.inr (0, k, 0))), some (.inl s1.1), some (.inl s1.2.1), some (.inl s1.2.2.1), some (.inl s1.2.2.2.1)]) (h' := s1.2.2.2.2) 5 (fun _ _ => rfl) (eIx_dropAllTo (by omega) hx16) ?_
      obtain ⟨x17, hx18, HF⟩ := q_bind HF
      refine q_cll (m' := 89) (av := [.inr (.inr (1, k, 0)), .inl s1.2.2.2.1]) (st' := []) (pc' := 56) (loc' := [some (.inr (.inr (0, k, 0))), some (.inl s1.1), some (.inl s1.2.1), some (.inl (s1.2.2.1 + x15.1)), some (.inl s1.2.2.2.1)]) (h' := x15.2) 6 (fun _ _ => rfl) (ePg_at (by omega) hx18) ?_
      obtain ⟨x19, hx20, HF⟩ := q_bind HF
      refine q_cll (m' := 63) (av := [.inr (.inr (3, k, x17)), .inl (0 : Int32)]) (st' := []) (pc' := 60) (loc' := [some (.inr (.inr (0, k, 0))), some (.inl s1.1), some (.inl s1.2.1), some (.inl (s1.2.2.1 + x15.1)), some (.inl s1.2.2.2.1)]) (h' := x15.2) 2 (fun _ _ => rfl) (eSl_empty (by omega) hx20) ?_
      refine q_br (P := (s1.2.1 + (1 : Int32)) < (x19.1 0 5 k 0)) (pcT := 83) (pcF := 74) (loc' := [some (.inr (.inr (0, k, 0))), some (.inl (s1.1 + (1 : Int32))), some (.inl (s1.2.1 + (1 : Int32))), some (.inl (s1.2.2.1 + x15.1)), some (.inl s1.2.2.2.1)]) (stk' := []) (h' := x19) 6 (fun _ _ => rfl) (fun c23 => ?_) (fun c23 => ?_)
      · rw [if_pos c23] at HF
        have hz := Option.some.inj HF
        subst hz
        exact hP14 ((s1.1 + (1 : Int32)), (s1.2.1 + (1 : Int32)), (s1.2.2.1 + x15.1), x19) HK13
      · rw [if_neg c23] at HF
        obtain ⟨x21, hx22, HF⟩ := q_bind HF
        refine q_cll (m' := 168) (av := [.inr (.inr (0, k, 0)), .inl (s1.2.2.1 + x15.1)]) (st' := []) (pc' := 79) (loc' := [some (.inr (.inr (0, k, 0))), some (.inl (s1.1 + (1 : Int32))), some (.inl (s1.2.1 + (1 : Int32))), some (.inl (s1.2.2.1 + x15.1)), some (.inl s1.2.2.2.1)]) (h' := x19) 3 (fun _ _ => rfl) (eSt_tellPass (by omega) hx22) ?_
        refine q_blk (pc' := 83) (loc' := [some (.inr (.inr (0, k, 0))), some (.inl (s1.1 + (1 : Int32))), some (.inl (0 : Int32)), some (.inl (0 : Int32)), some (.inl s1.2.2.2.1)]) (stk' := []) (h' := x21) 4 (fun _ _ => rfl) ?_
        have hz := Option.some.inj HF
        subst hz
        exact hP14 ((s1.1 + (1 : Int32)), (0 : Int32), (0 : Int32), x21) HK13
    · rw [if_neg c24] at HF
      refine q_blk (pc' := 83) (loc' := [some (.inr (.inr (0, k, 0))), some (.inl s1.1), some (.inl s1.2.1), some (.inl s1.2.2.1), some (.inl s1.2.2.2.1)]) (stk' := []) (h' := s1.2.2.2.2) 1 (fun _ _ => rfl) ?_
      have hz := Option.some.inj HF
      subst hz
      exact hP14 (s1.1, s1.2.1, s1.2.2.1, s1.2.2.2.2) HK13
def St_isClearNow (k : Nat) (a1 : Int32) (h : q_H) : Option Int32 :=
  (q_lp (fun s1 : Int32 => (if (10 : Int32) ≤ s1 then (some (.inr ((1 : Int32)))) else ((Pg_at k ((a1 * (10 : Int32)) + s1) h).bind fun x9 => Option.bind (α := (Unit) ⊕ ((Int32) ⊕ Int32)) (if (h.1 3 0 k x9) = 0 then (some (.inl ())) else (if ¬ (h.1 3 0 k x9) = (1 : Int32) then (some (.inr (.inr ((0 : Int32))))) else ((St_isForAll k k x9 h).bind fun x15 => if ¬ x15 = 0 then (some (.inl ())) else (some (.inr (.inr ((0 : Int32)))))))) (fun z11 => match z11 with | .inl p20 => some (.inl (s1 + (1 : Int32))) | .inr z11 => some z11)) : Option ((Int32) ⊕ Int32))) q_fu ((0 : Int32) : Int32)).bind fun z8 => some z8
set_option maxRecDepth 100000 in
set_option maxHeartbeats 4000000 in
theorem eSt_isClearNow {d : Nat} (hd : 4 ≤ d) {k : Nat} {a1 : Int32} {h : q_H} {r : Int32} (HF : St_isClearNow k a1 h = some r) : q_T d 170 [.inr (.inr (0, k, 0)), .inl a1] h (some (.inl r), h) := by
  obtain ⟨d, rfl⟩ : ∃ d', d = d' + 1 := ⟨d - 1, by omega⟩
  refine q_ent q_K170 rfl rfl rfl ?_
  unfold St_isClearNow at HF
  refine q_blk (pc' := 2) (loc' := [some (.inr (.inr (0, k, 0))), some (.inl a1), some (.inl (0 : Int32)), none]) (stk' := []) (h' := h) 2 (fun _ _ => rfl) ?_
  obtain ⟨r6, hl7, HK4⟩ := q_bind HF
  refine q_lpE (E := fun s1 => q_E d q_K170 2 [some (.inr (.inr (0, k, 0))), some (.inl a1), some (.inl s1), none] [] h (some (.inl r), h)) r6 (fun s1 z8 HF H12 H23 => ?_) _ _ hl7
  refine q_br (P := (10 : Int32) ≤ s1) (pcT := 53) (pcF := 8) (loc' := [some (.inr (.inr (0, k, 0))), some (.inl a1), some (.inl s1), none]) (stk' := []) (h' := h) 3 (fun _ _ => rfl) (fun c22 => ?_) (fun c22 => ?_)
  · rw [if_pos c22] at HF
    have hz := Option.some.inj HF
    subst hz
    replace HF := HK4
    rw [← H23 _ rfl] at HF
    have hz := Option.some.inj HF
    subst hz
    exact q_rtn 2 (fun _ _ => rfl)
  · rw [if_neg c22] at HF
    obtain ⟨x9, hx10, HF⟩ := q_bind HF
    refine q_cll (m' := 89) (av := [.inr (.inr (1, k, 0)), .inl ((a1 * (10 : Int32)) + s1)]) (st' := []) (pc' := 21) (loc' := [some (.inr (.inr (0, k, 0))), some (.inl a1), some (.inl s1), none]) (h' := h) 8 (fun _ _ => rfl) (ePg_at (by omega) hx10) ?_
    obtain ⟨z11, HA12, HK13⟩ := q_bind HF
    have hP14 : ∀ p20 : Unit, (some (.inl (s1 + (1 : Int32))) : Option ((Int32) ⊕ Int32)) = some z8 → q_E d q_K170 47 [some (.inr (.inr (0, k, 0))), some (.inl a1), some (.inl s1), some (.inr (.inr (3, k, x9)))] [] h (some (.inl r), h) := by
      intro p20 HF
      refine q_blk (pc' := 2) (loc' := [some (.inr (.inr (0, k, 0))), some (.inl a1), some (.inl (s1 + (1 : Int32))), some (.inr (.inr (3, k, x9)))]) (stk' := []) (h' := h) 2 (fun _ _ => rfl) ?_
      have hz := Option.some.inj HF
      subst hz
      exact q_wk (loc := [some (.inr (.inr (0, k, 0))), some (.inl a1), some (.inl (s1 + (1 : Int32))), none]) ⟨Or.inl rfl, ⟨Or.inl rfl, ⟨Or.inl rfl, ⟨Or.inr ⟨rfl, fun _ h => by cases h⟩, trivial⟩⟩⟩⟩ (H12 (s1 + (1 : Int32)) rfl)
    replace HF := HA12
    refine q_br (P := (h.1 3 0 k x9) = 0) (pcT := 47) (pcF := 29) (loc' := [some (.inr (.inr (0, k, 0))), some (.inl a1), some (.inl s1), some (.inr (.inr (3, k, x9)))]) (stk' := []) (h' := h) 4 (fun _ _ => rfl) (fun c19 => ?_) (fun c19 => ?_)
    · rw [if_pos c19] at HF
      have hz := Option.some.inj HF
      subst hz
      exact hP14 () HK13
    · rw [if_neg c19] at HF
      refine q_br (P := ¬ (h.1 3 0 k x9) = (1 : Int32)) (pcT := 45) (pcF := 37) (loc' := [some (.inr (.inr (0, k, 0))), some (.inl a1), some (.inl s1), some (.inr (.inr (3, k, x9)))]) (stk' := []) (h' := h) 4 (fun _ _ => rfl) (fun c18 => ?_) (fun c18 => ?_)
      · rw [if_pos c18] at HF
        have hz := Option.some.inj HF
        subst hz
        replace HF := HK13
        have hz := Option.some.inj HF
        subst hz
        replace HF := HK4
        rw [← H23 _ rfl] at HF
        have hz := Option.some.inj HF
        subst hz
        exact q_rtn 2 (fun _ _ => rfl)
      · rw [if_neg c18] at HF
        obtain ⟨x15, hx16, HF⟩ := q_bind HF
        refine q_cll (m' := 171) (av := [.inr (.inr (0, k, 0)), .inr (.inr (3, k, x9))]) (st' := []) (pc' := 42) (loc' := [some (.inr (.inr (0, k, 0))), some (.inl a1), some (.inl s1), some (.inr (.inr (3, k, x9)))]) (h' := h) 3 (fun _ _ => rfl) (eSt_isForAll (by omega) hx16) ?_
        refine q_br (P := ¬ x15 = 0) (pcT := 47) (pcF := 45) (loc' := [some (.inr (.inr (0, k, 0))), some (.inl a1), some (.inl s1), some (.inr (.inr (3, k, x9)))]) (stk' := []) (h' := h) 1 (fun _ _ => rfl) (fun c17 => ?_) (fun c17 => ?_)
        · rw [if_pos c17] at HF
          have hz := Option.some.inj HF
          subst hz
          exact hP14 () HK13
        · rw [if_neg c17] at HF
          have hz := Option.some.inj HF
          subst hz
          replace HF := HK13
          have hz := Option.some.inj HF
          subst hz
          replace HF := HK4
          rw [← H23 _ rfl] at HF
          have hz := Option.some.inj HF
          subst hz
          exact q_rtn 2 (fun _ _ => rfl)
def St_lookFor (k : Nat) (a1 : Int32) (a2 : Int32) (h : q_H) : Option (Int32 × q_H) :=
  (q_lp (fun s1 : Int32 × q_H => (if (s1.2.1 11 3 k 0) ≤ s1.1 then (some (.inr (((s1.2.1 19 4 k 0), s1.2)))) else ((Ix_keyAt k s1.1 s1.2).bind fun x9 => Option.bind (α := q_H) (if ¬ x9 = a2 then (some (s1.2)) else ((Ix_isKilled k s1.1 s1.2).bind fun x15 => if x15 = 0 then ((Ix_placeAt k s1.1 s1.2).bind fun x17 => (Rp_pageOf x17 s1.2).bind fun x19 => (Pg_isClear k x19 s1.2).bind fun x21 => Option.bind (α := q_H) (if ¬ x21 = 0 then (some (s1.2)) else ((Lg_count k (7 : Int32) (1 : Int32) s1.2).bind fun x27 => some (x27))) (fun p30 => (St_goThrough k a1 a2 s1.1 p30).bind fun x31 => some (x31))) else (some (s1.2)))) (fun p36 => some (.inl ((s1.1 + (1 : Int32)), p36)))) : Option ((Int32 × q_H) ⊕ (Int32 × q_H)))) q_fu (((0 : Int32), (q_si h 19 4 k 0 (0 : Int32))) : Int32 × q_H)).bind fun z8 => some z8
set_option maxRecDepth 100000 in
set_option maxHeartbeats 4000000 in
theorem eSt_lookFor {d : Nat} (hd : 4 ≤ d) {k : Nat} {a1 : Int32} {a2 : Int32} {h : q_H} {r : (Int32 × q_H)} (HF : St_lookFor k a1 a2 h = some r) : q_T d 173 [.inr (.inr (0, k, 0)), .inl a1, .inl a2] h (some (.inl r.1), r.2) := by
  obtain ⟨d, rfl⟩ : ∃ d', d = d' + 1 := ⟨d - 1, by omega⟩
  refine q_ent q_K173 rfl rfl rfl ?_
  unfold St_lookFor at HF
  refine q_blk (pc' := 10) (loc' := [some (.inr (.inr (0, k, 0))), some (.inl a1), some (.inl a2), some (.inl (0 : Int32))]) (stk' := []) (h' := (q_si h 19 4 k 0 (0 : Int32))) 6 (fun _ _ => rfl) ?_
  obtain ⟨r6, hl7, HK4⟩ := q_bind HF
  refine q_lpE (E := fun s1 => q_E d q_K173 10 [some (.inr (.inr (0, k, 0))), some (.inl a1), some (.inl a2), some (.inl s1.1)] [] s1.2 (some (.inl r.1), r.2)) r6 (fun s1 z8 HF H12 H23 => ?_) _ _ hl7
  refine q_br (P := (s1.2.1 11 3 k 0) ≤ s1.1) (pcT := 91) (pcF := 21) (loc' := [some (.inr (.inr (0, k, 0))), some (.inl a1), some (.inl a2), some (.inl s1.1)]) (stk' := []) (h' := s1.2) 5 (fun _ _ => rfl) (fun c38 => ?_) (fun c38 => ?_)
  · rw [if_pos c38] at HF
    have hz := Option.some.inj HF
    subst hz
    replace HF := HK4
    rw [← H23 _ rfl] at HF
    have hz := Option.some.inj HF
    subst hz
    exact q_rtn 4 (fun _ _ => rfl)
  · rw [if_neg c38] at HF
    obtain ⟨x9, hx10, HF⟩ := q_bind HF
    refine q_cll (m' := 71) (av := [.inr (.inr (11, k, 0)), .inl s1.1]) (st' := []) (pc' := 29) (loc' := [some (.inr (.inr (0, k, 0))), some (.inl a1), some (.inl a2), some (.inl s1.1)]) (h' := s1.2) 4 (fun _ _ => rfl) (eIx_keyAt (by omega) hx10) ?_
    obtain ⟨z11, HA12, HK13⟩ := q_bind HF
    have hP14 : ∀ p36 : q_H, (some (.inl ((s1.1 + (1 : Int32)), p36)) : Option ((Int32 × q_H) ⊕ (Int32 × q_H))) = some z8 → q_E d q_K173 85 [some (.inr (.inr (0, k, 0))), some (.inl a1), some (.inl a2), some (.inl s1.1)] [] p36 (some (.inl r.1), r.2) := by
      intro p36 HF
      refine q_blk (pc' := 10) (loc' := [some (.inr (.inr (0, k, 0))), some (.inl a1), some (.inl a2), some (.inl (s1.1 + (1 : Int32)))]) (stk' := []) (h' := p36) 2 (fun _ _ => rfl) ?_
      have hz := Option.some.inj HF
      subst hz
      exact H12 ((s1.1 + (1 : Int32)), p36) rfl
    replace HF := HA12
    refine q_br (P := ¬ x9 = a2) (pcT := 85) (pcF := 33) (loc' := [some (.inr (.inr (0, k, 0))), some (.inl a1), some (.inl a2), some (.inl s1.1)]) (stk' := []) (h' := s1.2) 2 (fun _ _ => rfl) (fun c35 => ?_) (fun c35 => ?_)
    · rw [if_pos c35] at HF
      have hz := Option.some.inj HF
      subst hz
      exact hP14 (s1.2) HK13
    · rw [if_neg c35] at HF
      obtain ⟨x15, hx16, HF⟩ := q_bind HF
      refine q_cll (m' := 73) (av := [.inr (.inr (11, k, 0)), .inl s1.1]) (st' := []) (pc' := 41) (loc' := [some (.inr (.inr (0, k, 0))), some (.inl a1), some (.inl a2), some (.inl s1.1)]) (h' := s1.2) 4 (fun _ _ => rfl) (eIx_isKilled (by omega) hx16) ?_
      refine q_br (P := x15 = 0) (pcT := 47) (pcF := 44) (loc' := [some (.inr (.inr (0, k, 0))), some (.inl a1), some (.inl a2), some (.inl s1.1)]) (stk' := []) (h' := s1.2) 1 (fun _ _ => rfl) (fun c34 => ?_) (fun c34 => ?_)
      · rw [if_pos c34] at HF
        obtain ⟨x17, hx18, HF⟩ := q_bind HF
        refine q_cll (m' := 72) (av := [.inr (.inr (11, k, 0)), .inl s1.1]) (st' := [.inr (.inr (1, k, 0))]) (pc' := 59) (loc' := [some (.inr (.inr (0, k, 0))), some (.inl a1), some (.inl a2), some (.inl s1.1)]) (h' := s1.2) 6 (fun _ _ => rfl) (eIx_placeAt (by omega) hx18) ?_
        obtain ⟨x19, hx20, HF⟩ := q_bind HF
        refine q_cll (m' := 58) (av := [.inl x17]) (st' := [.inr (.inr (1, k, 0))]) (pc' := 62) (loc' := [some (.inr (.inr (0, k, 0))), some (.inl a1), some (.inl a2), some (.inl s1.1)]) (h' := s1.2) 1 (fun _ _ => rfl) (eRp_pageOf (by omega) hx20) ?_
        obtain ⟨x21, hx22, HF⟩ := q_bind HF
        refine q_cll (m' := 92) (av := [.inr (.inr (1, k, 0)), .inl x19]) (st' := []) (pc' := 65) (loc' := [some (.inr (.inr (0, k, 0))), some (.inl a1), some (.inl a2), some (.inl s1.1)]) (h' := s1.2) 1 (fun _ _ => rfl) (ePg_isClear (by omega) hx22) ?_
        obtain ⟨z23, HA24, HK25⟩ := q_bind HF
        have hP26 : ∀ p30 : q_H, ((St_goThrough k a1 a2 s1.1 p30).bind fun x31 => some (x31) : Option (q_H)) = some z11 → q_E d q_K173 78 [some (.inr (.inr (0, k, 0))), some (.inl a1), some (.inl a2), some (.inl s1.1)] [] p30 (some (.inl r.1), r.2) := by
          intro p30 HF
          obtain ⟨x31, hx32, HF⟩ := q_bind HF
          refine q_cll (m' := 174) (av := [.inr (.inr (0, k, 0)), .inl a1, .inl a2, .inl s1.1]) (st' := []) (pc' := 85) (loc' := [some (.inr (.inr (0, k, 0))), some (.inl a1), some (.inl a2), some (.inl s1.1)]) (h' := p30) 5 (fun _ _ => rfl) (eSt_goThrough (by omega) hx32) ?_
          have hz := Option.some.inj HF
          subst hz
          exact hP14 (x31) HK13
        replace HF := HA24
        refine q_br (P := ¬ x21 = 0) (pcT := 78) (pcF := 68) (loc' := [some (.inr (.inr (0, k, 0))), some (.inl a1), some (.inl a2), some (.inl s1.1)]) (stk' := []) (h' := s1.2) 1 (fun _ _ => rfl) (fun c29 => ?_) (fun c29 => ?_)
        · rw [if_pos c29] at HF
          have hz := Option.some.inj HF
          subst hz
          exact hP26 (s1.2) HK25
        · rw [if_neg c29] at HF
          obtain ⟨x27, hx28, HF⟩ := q_bind HF
          refine q_cll (m' := 85) (av := [.inr (.inr (15, k, 0)), .inl (7 : Int32), .inl (1 : Int32)]) (st' := []) (pc' := 78) (loc' := [some (.inr (.inr (0, k, 0))), some (.inl a1), some (.inl a2), some (.inl s1.1)]) (h' := s1.2) 5 (fun _ _ => rfl) (eLg_count (by omega) hx28) ?_
          have hz := Option.some.inj HF
          subst hz
          exact hP26 (x27) HK25
      · rw [if_neg c34] at HF
        refine q_blk (pc' := 85) (loc' := [some (.inr (.inr (0, k, 0))), some (.inl a1), some (.inl a2), some (.inl s1.1)]) (stk' := []) (h' := s1.2) 1 (fun _ _ => rfl) ?_
        have hz := Option.some.inj HF
        subst hz
        exact hP14 (s1.2) HK13
def St_layDown (k : Nat) (k1 : Nat) (i1 : Nat) (a2 : Int32) (h : q_H) : Option q_H :=
  (Pg_at k a2 h).bind fun x1 => (Sl_copyFrom k x1 k1 i1 h).bind fun x3 => (Ix_add k ((q_si (q_si (q_si x3 3 10 k x1 (0 : Int32)) 3 7 k x1 (-1 : Int32)) 3 8 k x1 (-1 : Int32)).1 3 3 k1 i1) a2 (q_si (q_si (q_si x3 3 10 k x1 (0 : Int32)) 3 7 k x1 (-1 : Int32)) 3 8 k x1 (-1 : Int32))).bind fun x5 => some (x5)
set_option maxRecDepth 100000 in
set_option maxHeartbeats 4000000 in
theorem eSt_layDown {d : Nat} (hd : 4 ≤ d) {k : Nat} {k1 : Nat} {i1 : Nat} {a2 : Int32} {h : q_H} {r : q_H} (HF : St_layDown k k1 i1 a2 h = some r) : q_T d 177 [.inr (.inr (0, k, 0)), .inr (.inr (3, k1, i1)), .inl a2] h (none, r) := by
  obtain ⟨d, rfl⟩ : ∃ d', d = d' + 1 := ⟨d - 1, by omega⟩
  refine q_ent q_K177 rfl rfl rfl ?_
  unfold St_layDown at HF
  obtain ⟨x1, hx2, HF⟩ := q_bind HF
  refine q_cll (m' := 89) (av := [.inr (.inr (1, k, 0)), .inl a2]) (st' := []) (pc' := 8) (loc' := [some (.inr (.inr (0, k, 0))), some (.inr (.inr (3, k1, i1))), some (.inl a2), none]) (h' := h) 4 (fun _ _ => rfl) (ePg_at (by omega) hx2) ?_
  obtain ⟨x3, hx4, HF⟩ := q_bind HF
  refine q_cll (m' := 64) (av := [.inr (.inr (3, k, x1)), .inr (.inr (3, k1, i1))]) (st' := []) (pc' := 14) (loc' := [some (.inr (.inr (0, k, 0))), some (.inr (.inr (3, k1, i1))), some (.inl a2), some (.inr (.inr (3, k, x1)))]) (h' := h) 4 (fun _ _ => rfl) (eSl_copyFrom (by omega) hx4) ?_
  obtain ⟨x5, hx6, HF⟩ := q_bind HF
  refine q_cll (m' := 77) (av := [.inr (.inr (11, k, 0)), .inl ((q_si (q_si (q_si x3 3 10 k x1 (0 : Int32)) 3 7 k x1 (-1 : Int32)) 3 8 k x1 (-1 : Int32)).1 3 3 k1 i1), .inl a2]) (st' := []) (pc' := 41) (loc' := [some (.inr (.inr (0, k, 0))), some (.inr (.inr (3, k1, i1))), some (.inl a2), some (.inr (.inr (3, k, x1)))]) (h' := (q_si (q_si (q_si x3 3 10 k x1 (0 : Int32)) 3 7 k x1 (-1 : Int32)) 3 8 k x1 (-1 : Int32))) 15 (fun _ _ => rfl) (eIx_add (by omega) hx6) ?_
  have hz := Option.some.inj HF
  subst hz
  exact q_rtn 1 (fun _ _ => rfl)
