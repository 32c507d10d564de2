def Rp_holder  (h : q_H) : Option (Int32 × q_H) :=
  (Tn_firstAtHorizon 0 h).bind fun x1 => if ¬ x1 = (-1 : Int32) then ((Rp_answer x1 h).bind fun x3 => some ((x3.1, x3.2))) else ((Rp_refuse (5 : Int32) h).bind fun x5 => some ((x5.1, x5.2)))
set_option maxRecDepth 100000 in
set_option maxHeartbeats 4000000 in
theorem eRp_holder {d : Nat} (hd : 4 ≤ d)  {h : q_H} {r : (Int32 × q_H)} (HF : Rp_holder  h = some r) : q_T d 39 [.inr (.inr (24, 6, 0))] h (some (.inl r.1), r.2) := by
  obtain ⟨d, rfl⟩ : ∃ d', d = d' + 1 := ⟨d - 1, by omega⟩
  refine q_ent q_K39 rfl rfl rfl ?_
  unfold Rp_holder at HF
  obtain ⟨x1, hx2, HF⟩ := q_bind HF
  refine q_cll (m' := 116) (av := [.inr (.inr (6, 0, 0))]) (st' := []) (pc' := 10) (loc' := [some (.inr (.inr (24, 6, 0))), none]) (h' := h) 4 (fun _ _ => rfl) (eTn_firstAtHorizon (by omega) hx2) ?_
  refine q_br (P := ¬ x1 = (-1 : Int32)) (pcT := 24) (pcF := 16) (loc' := [some (.inr (.inr (24, 6, 0))), some (.inl x1)]) (stk' := []) (h' := h) 4 (fun _ _ => rfl) (fun c7 => ?_) (fun c7 => ?_)
  · rw [if_pos c7] at HF
    obtain ⟨x3, hx4, HF⟩ := q_bind HF
    refine q_cll (m' := 45) (av := [.inr (.inr (24, 6, 0)), .inl x1]) (st' := []) (pc' := 29) (loc' := [some (.inr (.inr (24, 6, 0))), some (.inl x1)]) (h' := h) 3 (fun _ _ => rfl) (eRp_answer (by omega) hx4) ?_
    have hz := Option.some.inj HF
    subst hz
    exact q_rtn 1 (fun _ _ => rfl)
  · rw [if_neg c7] at HF
    obtain ⟨x5, hx6, HF⟩ := q_bind HF
    refine q_cll (m' := 46) (av := [.inr (.inr (24, 6, 0)), .inl (5 : Int32)]) (st' := []) (pc' := 21) (loc' := [some (.inr (.inr (24, 6, 0))), some (.inl x1)]) (h' := h) 3 (fun _ _ => rfl) (eRp_refuse (by omega) hx6) ?_
    have hz := Option.some.inj HF
    subst hz
    exact q_rtn 2 (fun _ _ => rfl)
def Rp_reads (a1 : Int32) (a2 : Int32) (h : q_H) : Option (Int32 × q_H) :=
  (Rp_isWithin a2 (0 : Int32) (99 : Int32) h).bind fun x1 => if ¬ x1 = 0 then ((Rp_asOpen a1 h).bind fun x3 => if ¬ x3 = 0 then ((Rp_refuse x3 h).bind fun x5 => some ((x5.1, x5.2))) else ((St_readsFor 0 a2 h).bind fun x7 => (Rp_answer x7 h).bind fun x9 => some ((x9.1, x9.2)))) else ((Rp_refuse (1 : Int32) h).bind fun x12 => some ((x12.1, x12.2)))
set_option maxRecDepth 100000 in
set_option maxHeartbeats 4000000 in
theorem eRp_reads {d : Nat} (hd : 4 ≤ d) {a1 : Int32} {a2 : Int32} {h : q_H} {r : (Int32 × q_H)} (HF : Rp_reads a1 a2 h = some r) : q_T d 43 [.inr (.inr (24, 6, 0)), .inl a1, .inl a2] h (some (.inl r.1), r.2) := by
  obtain ⟨d, rfl⟩ : ∃ d', d = d' + 1 := ⟨d - 1, by omega⟩
  refine q_ent q_K43 rfl rfl rfl ?_
  unfold Rp_reads at HF
  obtain ⟨x1, hx2, HF⟩ := q_bind HF
  refine q_cll (m' := 55) (av := [.inl a2, .inl (0 : Int32), .inl (99 : Int32)]) (st' := []) (pc' := 7) (loc' := [some (.inr (.inr (24, 6, 0))), some (.inl a1), some (.inl a2), none]) (h' := h) 4 (fun _ _ => rfl) (eRp_isWithin (by omega) hx2) ?_
  refine q_br (P := ¬ x1 = 0) (pcT := 16) (pcF := 10) (loc' := [some (.inr (.inr (24, 6, 0))), some (.inl a1), some (.inl a2), none]) (stk' := []) (h' := h) 1 (fun _ _ => rfl) (fun c14 => ?_) (fun c14 => ?_)
  · rw [if_pos c14] at HF
    obtain ⟨x3, hx4, HF⟩ := q_bind HF
    refine q_cll (m' := 47) (av := [.inr (.inr (24, 6, 0)), .inl a1]) (st' := []) (pc' := 21) (loc' := [some (.inr (.inr (24, 6, 0))), some (.inl a1), some (.inl a2), none]) (h' := h) 3 (fun _ _ => rfl) (eRp_asOpen (by omega) hx4) ?_
    refine q_br (P := ¬ x3 = 0) (pcT := 41) (pcF := 26) (loc' := [some (.inr (.inr (24, 6, 0))), some (.inl a1), some (.inl a2), some (.inl x3)]) (stk' := []) (h' := h) 3 (fun _ _ => rfl) (fun c11 => ?_) (fun c11 => ?_)
    · rw [if_pos c11] at HF
      obtain ⟨x5, hx6, HF⟩ := q_bind HF
      refine q_cll (m' := 46) (av := [.inr (.inr (24, 6, 0)), .inl x3]) (st' := []) (pc' := 46) (loc' := [some (.inr (.inr (24, 6, 0))), some (.inl a1), some (.inl a2), some (.inl x3)]) (h' := h) 3 (fun _ _ => rfl) (eRp_refuse (by omega) hx6) ?_
      have hz := Option.some.inj HF
      subst hz
      exact q_rtn 1 (fun _ _ => rfl)
    · rw [if_neg c11] at HF
      obtain ⟨x7, hx8, HF⟩ := q_bind HF
      refine q_cll (m' := 175) (av := [.inr (.inr (0, 0, 0)), .inl a2]) (st' := [.inr (.inr (24, 6, 0))]) (pc' := 35) (loc' := [some (.inr (.inr (24, 6, 0))), some (.inl a1), some (.inl a2), some (.inl x3)]) (h' := h) 5 (fun _ _ => rfl) (eSt_readsFor (by omega) hx8) ?_
      obtain ⟨x9, hx10, HF⟩ := q_bind HF
      refine q_cll (m' := 45) (av := [.inr (.inr (24, 6, 0)), .inl x7]) (st' := []) (pc' := 38) (loc' := [some (.inr (.inr (24, 6, 0))), some (.inl a1), some (.inl a2), some (.inl x3)]) (h' := h) 1 (fun _ _ => rfl) (eRp_answer (by omega) hx10) ?_
      have hz := Option.some.inj HF
      subst hz
      exact q_rtn 2 (fun _ _ => rfl)
  · rw [if_neg c14] at HF
    obtain ⟨x12, hx13, HF⟩ := q_bind HF
    refine q_cll (m' := 46) (av := [.inr (.inr (24, 6, 0)), .inl (1 : Int32)]) (st' := []) (pc' := 15) (loc' := [some (.inr (.inr (24, 6, 0))), some (.inl a1), some (.inl a2), none]) (h' := h) 3 (fun _ _ => rfl) (eRp_refuse (by omega) hx13) ?_
    have hz := Option.some.inj HF
    subst hz
    exact q_rtn 1 (fun _ _ => rfl)
def Rp_asReader (a1 : Int32) (a2 : Int32) (h : q_H) : Option Int32 :=
  (St_hasRow 0 a2 h).bind fun x1 => if ¬ x1 = 0 then ((Rp_asFree a1 h).bind fun x3 => if x3 = 0 then ((St_seenPlace 0 a1 a2 h).bind fun x5 => if ¬ x5 = (-1 : Int32) then (some ((0 : Int32))) else (some ((6 : Int32)))) else (some (x3))) else (some ((2 : Int32)))
set_option maxRecDepth 100000 in
set_option maxHeartbeats 4000000 in
theorem eRp_asReader {d : Nat} (hd : 4 ≤ d) {a1 : Int32} {a2 : Int32} {h : q_H} {r : Int32} (HF : Rp_asReader a1 a2 h = some r) : q_T d 49 [.inr (.inr (24, 6, 0)), .inl a1, .inl a2] h (some (.inl r), h) := by
  obtain ⟨d, rfl⟩ : ∃ d', d = d' + 1 := ⟨d - 1, by omega⟩
  refine q_ent q_K49 rfl rfl rfl ?_
  unfold Rp_asReader at HF
  obtain ⟨x1, hx2, HF⟩ := q_bind HF
  refine q_cll (m' := 144) (av := [.inr (.inr (0, 0, 0)), .inl a2]) (st' := []) (pc' := 8) (loc' := [some (.inr (.inr (24, 6, 0))), some (.inl a1), some (.inl a2), none]) (h' := h) 4 (fun _ _ => rfl) (eSt_hasRow (by omega) hx2) ?_
  refine q_br (P := ¬ x1 = 0) (pcT := 13) (pcF := 11) (loc' := [some (.inr (.inr (24, 6, 0))), some (.inl a1), some (.inl a2), none]) (stk' := []) (h' := h) 1 (fun _ _ => rfl) (fun c9 => ?_) (fun c9 => ?_)
  · rw [if_pos c9] at HF
    obtain ⟨x3, hx4, HF⟩ := q_bind HF
    refine q_cll (m' := 48) (av := [.inr (.inr (24, 6, 0)), .inl a1]) (st' := []) (pc' := 18) (loc' := [some (.inr (.inr (24, 6, 0))), some (.inl a1), some (.inl a2), none]) (h' := h) 3 (fun _ _ => rfl) (eRp_asFree (by omega) hx4) ?_
    refine q_br (P := x3 = 0) (pcT := 25) (pcF := 23) (loc' := [some (.inr (.inr (24, 6, 0))), some (.inl a1), some (.inl a2), some (.inl x3)]) (stk' := []) (h' := h) 3 (fun _ _ => rfl) (fun c8 => ?_) (fun c8 => ?_)
    · rw [if_pos c8] at HF
      obtain ⟨x5, hx6, HF⟩ := q_bind HF
      refine q_cll (m' := 156) (av := [.inr (.inr (0, 0, 0)), .inl a1, .inl a2]) (st' := []) (pc' := 34) (loc' := [some (.inr (.inr (24, 6, 0))), some (.inl a1), some (.inl a2), some (.inl x3)]) (h' := h) 5 (fun _ _ => rfl) (eSt_seenPlace (by omega) hx6) ?_
      refine q_br (P := ¬ x5 = (-1 : Int32)) (pcT := 43) (pcF := 38) (loc' := [some (.inr (.inr (24, 6, 0))), some (.inl a1), some (.inl a2), some (.inl x3)]) (stk' := []) (h' := h) 2 (fun _ _ => rfl) (fun c7 => ?_) (fun c7 => ?_)
      · rw [if_pos c7] at HF
        have hz := Option.some.inj HF
        subst hz
        exact q_rtn 2 (fun _ _ => rfl)
      · rw [if_neg c7] at HF
        have hz := Option.some.inj HF
        subst hz
        exact q_rtn 3 (fun _ _ => rfl)
    · rw [if_neg c8] at HF
      have hz := Option.some.inj HF
      subst hz
      exact q_rtn 2 (fun _ _ => rfl)
  · rw [if_neg c9] at HF
    have hz := Option.some.inj HF
    subst hz
    exact q_rtn 2 (fun _ _ => rfl)
def Rp_openEnder (a1 : Int32) (a2 : Int32) (h : q_H) : Option Int32 :=
  (St_seenPlace 0 a1 a2 h).bind fun x1 => (Pg_at 0 x1 h).bind fun x3 => if (h.1 3 7 0 x3) = a1 then (some ((-1 : Int32))) else ((Tn_stateOf 0 (h.1 3 7 0 x3) h).bind fun x5 => if ¬ x5 = 0 then (some ((-1 : Int32))) else (some ((h.1 3 7 0 x3))))
set_option maxRecDepth 100000 in
set_option maxHeartbeats 4000000 in
theorem eRp_openEnder {d : Nat} (hd : 4 ≤ d) {a1 : Int32} {a2 : Int32} {h : q_H} {r : Int32} (HF : Rp_openEnder a1 a2 h = some r) : q_T d 51 [.inr (.inr (24, 6, 0)), .inl a1, .inl a2] h (some (.inl r), h) := by
  obtain ⟨d, rfl⟩ : ∃ d', d = d' + 1 := ⟨d - 1, by omega⟩
  refine q_ent q_K51 rfl rfl rfl ?_
  unfold Rp_openEnder at HF
  obtain ⟨x1, hx2, HF⟩ := q_bind HF
  refine q_cll (m' := 156) (av := [.inr (.inr (0, 0, 0)), .inl a1, .inl a2]) (st' := [.inr (.inr (1, 0, 0))]) (pc' := 16) (loc' := [some (.inr (.inr (24, 6, 0))), some (.inl a1), some (.inl a2), none]) (h' := h) 8 (fun _ _ => rfl) (eSt_seenPlace (by omega) hx2) ?_
  obtain ⟨x3, hx4, HF⟩ := q_bind HF
  refine q_cll (m' := 89) (av := [.inr (.inr (1, 0, 0)), .inl x1]) (st' := []) (pc' := 19) (loc' := [some (.inr (.inr (24, 6, 0))), some (.inl a1), some (.inl a2), none]) (h' := h) 1 (fun _ _ => rfl) (ePg_at (by omega) hx4) ?_
  refine q_br (P := (h.1 3 7 0 x3) = a1) (pcT := 46) (pcF := 28) (loc' := [some (.inr (.inr (24, 6, 0))), some (.inl a1), some (.inl a2), some (.inl (h.1 3 7 0 x3))]) (stk' := []) (h' := h) 5 (fun _ _ => rfl) (fun c8 => ?_) (fun c8 => ?_)
  · rw [if_pos c8] at HF
    have hz := Option.some.inj HF
    subst hz
    exact q_rtn 2 (fun _ _ => rfl)
  · rw [if_neg c8] at HF
    obtain ⟨x5, hx6, HF⟩ := q_bind HF
    refine q_cll (m' := 106) (av := [.inr (.inr (6, 0, 0)), .inl (h.1 3 7 0 x3)]) (st' := []) (pc' := 39) (loc' := [some (.inr (.inr (24, 6, 0))), some (.inl a1), some (.inl a2), some (.inl (h.1 3 7 0 x3))]) (h' := h) 5 (fun _ _ => rfl) (eTn_stateOf (by omega) hx6) ?_
    refine q_br (P := ¬ x5 = 0) (pcT := 46) (pcF := 42) (loc' := [some (.inr (.inr (24, 6, 0))), some (.inl a1), some (.inl a2), some (.inl (h.1 3 7 0 x3))]) (stk' := []) (h' := h) 1 (fun _ _ => rfl) (fun c7 => ?_) (fun c7 => ?_)
    · rw [if_pos c7] at HF
      have hz := Option.some.inj HF
      subst hz
      exact q_rtn 2 (fun _ _ => rfl)
    · rw [if_neg c7] at HF
      have hz := Option.some.inj HF
      subst hz
      exact q_rtn 3 (fun _ _ => rfl)
def Pg_firstPlace (k : Nat) (a1 : Int32) (h : q_H) : Option Int32 :=
  (q_lp (fun s1 : Int32 => (if (6 : Int32) ≤ s1 then (some (.inr ((-1 : Int32)))) else ((Pg_placeIn k s1 a1 h).bind fun x9 => if x9 = (-1 : Int32) then (some (.inl (s1 + (1 : Int32)))) else (some (.inr (x9)))) : Option ((Int32) ⊕ Int32))) q_fu ((0 : Int32) : Int32)).bind fun z8 => some z8
set_option maxRecDepth 100000 in
set_option maxHeartbeats 4000000 in
theorem ePg_firstPlace {d : Nat} (hd : 4 ≤ d) {k : Nat} {a1 : Int32} {h : q_H} {r : Int32} (HF : Pg_firstPlace k a1 h = some r) : q_T d 100 [.inr (.inr (1, k, 0)), .inl a1] h (some (.inl r), h) := by
  obtain ⟨d, rfl⟩ : ∃ d', d = d' + 1 := ⟨d - 1, by omega⟩
  refine q_ent q_K100 rfl rfl rfl ?_
  unfold Pg_firstPlace at HF
  refine q_blk (pc' := 2) (loc' := [some (.inr (.inr (1, k, 0))), some (.inl a1), some (.inl (0 : Int32)), none]) (stk' := []) (h' := h) 2 (fun _ _ => rfl) ?_
  obtain ⟨r6, hl7, HK4⟩ := q_bind HF
  refine q_lpE (E := fun s1 => q_E d q_K100 2 [some (.inr (.inr (1, k, 0))), some (.inl a1), some (.inl s1), none] [] h (some (.inl r), h)) r6 (fun s1 z8 HF H12 H23 => ?_) _ _ hl7
  refine q_br (P := (6 : Int32) ≤ s1) (pcT := 28) (pcF := 8) (loc' := [some (.inr (.inr (1, k, 0))), some (.inl a1), some (.inl s1), none]) (stk' := []) (h' := h) 3 (fun _ _ => rfl) (fun c12 => ?_) (fun c12 => ?_)
  · rw [if_pos c12] at HF
    have hz := Option.some.inj HF
    subst hz
    replace HF := HK4
    rw [← H23 _ rfl] at HF
    have hz := Option.some.inj HF
    subst hz
    exact q_rtn 2 (fun _ _ => rfl)
  · rw [if_neg c12] at HF
    obtain ⟨x9, hx10, HF⟩ := q_bind HF
    refine q_cll (m' := 99) (av := [.inr (.inr (1, k, 0)), .inl s1, .inl a1]) (st' := []) (pc' := 14) (loc' := [some (.inr (.inr (1, k, 0))), some (.inl a1), some (.inl s1), none]) (h' := h) 4 (fun _ _ => rfl) (ePg_placeIn (by omega) hx10) ?_
    refine q_br (P := x9 = (-1 : Int32)) (pcT := 22) (pcF := 20) (loc' := [some (.inr (.inr (1, k, 0))), some (.inl a1), some (.inl s1), some (.inl x9)]) (stk' := []) (h' := h) 4 (fun _ _ => rfl) (fun c11 => ?_) (fun c11 => ?_)
    · rw [if_pos c11] at HF
      refine q_blk (pc' := 2) (loc' := [some (.inr (.inr (1, k, 0))), some (.inl a1), some (.inl (s1 + (1 : Int32))), some (.inl x9)]) (stk' := []) (h' := h) 2 (fun _ _ => rfl) ?_
      have hz := Option.some.inj HF
      subst hz
      exact q_wk (loc := [some (.inr (.inr (1, k, 0))), some (.inl a1), some (.inl (s1 + (1 : Int32))), none]) ⟨Or.inl rfl, ⟨Or.inl rfl, ⟨Or.inl rfl, ⟨Or.inr ⟨rfl, fun _ h => by cases h⟩, trivial⟩⟩⟩⟩ (H12 (s1 + (1 : Int32)) rfl)
    · rw [if_neg c11] at HF
      have hz := Option.some.inj HF
      subst hz
      replace HF := HK4
      rw [← H23 _ rfl] at HF
      have hz := Option.some.inj HF
      subst hz
      exact q_rtn 2 (fun _ _ => rfl)
def Tn_open (k : Nat) (h : q_H) : Option (Int32 × q_H) :=
  (q_lp (fun s1 : Int64 × Int32 × Int32 => (if s1.2.2 < (1 : Int32) then ((Rp_put 7 k (h.1 6 4 k 0) (0 : Int32) (q_si h 6 4 k 0 ((h.1 6 4 k 0) + (1 : Int32)))).bind fun x9 => (Rp_put 8 k (h.1 6 4 k 0) s1.2.1 x9).bind fun x11 => (Rp_put 9 k (h.1 6 4 k 0) (-1 : Int32) x11).bind fun x13 => (Tn_setNoted k (h.1 6 4 k 0) s1.1 x13).bind fun x15 => (Tn_horizonBut k (-1 : Int32) x15).bind fun x17 => some (.inr (((h.1 6 4 k 0), (q_si x15 6 5 k 0 x17))))) else ((Tn_stateOf k s1.2.2 h).bind fun x19 => Option.bind (α := Int64 × Int32) (if ¬ x19 = 0 then (some ((s1.1, s1.2.1))) else (some (((s1.1 ||| ((1 : Int64) <<< (s1.2.2.toInt64 &&& 63))), s1.2.2)))) (fun p26 => some (.inl (p26.1, p26.2, (s1.2.2 + (-1 : Int32)))))) : Option ((Int64 × Int32 × Int32) ⊕ (Int32 × q_H)))) q_fu (((0 : Int64), (h.1 6 4 k 0), ((h.1 6 4 k 0) - (1 : Int32))) : Int64 × Int32 × Int32)).bind fun z8 => some z8
set_option maxRecDepth 100000 in
set_option maxHeartbeats 4000000 in
theorem eTn_open {d : Nat} (hd : 4 ≤ d) {k : Nat} {h : q_H} {r : (Int32 × q_H)} (HF : Tn_open k h = some r) : q_T d 112 [.inr (.inr (6, k, 0))] h (some (.inl r.1), r.2) := by
  obtain ⟨d, rfl⟩ : ∃ d', d = d' + 1 := ⟨d - 1, by omega⟩
  refine q_ent q_K112 rfl rfl rfl ?_
  unfold Tn_open at HF
  refine q_blk (pc' := 15) (loc' := [some (.inr (.inr (6, k, 0))), some (.inl (h.1 6 4 k 0)), some (.inr (.inl (0 : Int64))), none, some (.inl (h.1 6 4 k 0)), some (.inl ((h.1 6 4 k 0) - (1 : Int32)))]) (stk' := []) (h' := h) 11 (fun _ _ => rfl) ?_
  obtain ⟨r6, hl7, HK4⟩ := q_bind HF
  refine q_lpE (E := fun s1 => q_E d q_K112 15 [some (.inr (.inr (6, k, 0))), some (.inl (h.1 6 4 k 0)), some (.inr (.inl s1.1)), none, some (.inl s1.2.1), some (.inl s1.2.2)] [] h (some (.inl r.1), r.2)) r6 (fun s1 z8 HF H12 H23 => ?_) _ _ hl7
  refine q_br (P := s1.2.2 < (1 : Int32)) (pcT := 47) (pcF := 21) (loc' := [some (.inr (.inr (6, k, 0))), some (.inl (h.1 6 4 k 0)), some (.inr (.inl s1.1)), none, some (.inl s1.2.1), some (.inl s1.2.2)]) (stk' := []) (h' := h) 3 (fun _ _ => rfl) (fun c28 => ?_) (fun c28 => ?_)
  · rw [if_pos c28] at HF
    obtain ⟨x9, hx10, HF⟩ := q_bind HF
    refine q_cll (m' := 61) (av := [.inr (.inr (7, k, 0)), .inl (h.1 6 4 k 0), .inl (0 : Int32)]) (st' := []) (pc' := 66) (loc' := [some (.inr (.inr (6, k, 0))), some (.inl (h.1 6 4 k 0)), some (.inr (.inl s1.1)), none, some (.inl s1.2.1), some (.inl s1.2.2)]) (h' := (q_si h 6 4 k 0 ((h.1 6 4 k 0) + (1 : Int32)))) 11 (fun _ _ => rfl) (eRp_put (by omega) hx10) ?_
    obtain ⟨x11, hx12, HF⟩ := q_bind HF
    refine q_cll (m' := 61) (av := [.inr (.inr (8, k, 0)), .inl (h.1 6 4 k 0), .inl s1.2.1]) (st' := []) (pc' := 76) (loc' := [some (.inr (.inr (6, k, 0))), some (.inl (h.1 6 4 k 0)), some (.inr (.inl s1.1)), none, some (.inl s1.2.1), some (.inl s1.2.2)]) (h' := x9) 5 (fun _ _ => rfl) (eRp_put (by omega) hx12) ?_
    obtain ⟨x13, hx14, HF⟩ := q_bind HF
    refine q_cll (m' := 61) (av := [.inr (.inr (9, k, 0)), .inl (h.1 6 4 k 0), .inl (-1 : Int32)]) (st' := []) (pc' := 85) (loc' := [some (.inr (.inr (6, k, 0))), some (.inl (h.1 6 4 k 0)), some (.inr (.inl s1.1)), none, some (.inl s1.2.1), some (.inl s1.2.2)]) (h' := x11) 5 (fun _ _ => rfl) (eRp_put (by omega) hx14) ?_
    obtain ⟨x15, hx16, HF⟩ := q_bind HF
    refine q_cll (m' := 110) (av := [.inr (.inr (6, k, 0)), .inl (h.1 6 4 k 0), .inr (.inl s1.1)]) (st' := []) (pc' := 91) (loc' := [some (.inr (.inr (6, k, 0))), some (.inl (h.1 6 4 k 0)), some (.inr (.inl s1.1)), none, some (.inl s1.2.1), some (.inl s1.2.2)]) (h' := x13) 4 (fun _ _ => rfl) (eTn_setNoted (by omega) hx16) ?_
    obtain ⟨x17, hx18, HF⟩ := q_bind HF
    refine q_cll (m' := 115) (av := [.inr (.inr (6, k, 0)), .inl (-1 : Int32)]) (st' := [.inr (.inr (6, k, 0))]) (pc' := 97) (loc' := [some (.inr (.inr (6, k, 0))), some (.inl (h.1 6 4 k 0)), some (.inr (.inl s1.1)), none, some (.inl s1.2.1), some (.inl s1.2.2)]) (h' := x15) 4 (fun _ _ => rfl) (eTn_horizonBut (by omega) hx18) ?_
    have hz := Option.some.inj HF
    subst hz
    replace HF := HK4
    rw [← H23 _ rfl] at HF
    have hz := Option.some.inj HF
    subst hz
    exact q_rtn 3 (fun _ _ => rfl)
  · rw [if_neg c28] at HF
    obtain ⟨x19, hx20, HF⟩ := q_bind HF
    refine q_cll (m' := 106) (av := [.inr (.inr (6, k, 0)), .inl s1.2.2]) (st' := []) (pc' := 27) (loc' := [some (.inr (.inr (6, k, 0))), some (.inl (h.1 6 4 k 0)), some (.inr (.inl s1.1)), none, some (.inl s1.2.1), some (.inl s1.2.2)]) (h' := h) 3 (fun _ _ => rfl) (eTn_stateOf (by omega) hx20) ?_
    obtain ⟨z21, HA22, HK23⟩ := q_bind HF
    have hP24 : ∀ p26 : Int64 × Int32, (some (.inl (p26.1, p26.2, (s1.2.2 + (-1 : Int32)))) : Option ((Int64 × Int32 × Int32) ⊕ (Int32 × q_H))) = some z8 → q_E d q_K112 41 [some (.inr (.inr (6, k, 0))), some (.inl (h.1 6 4 k 0)), some (.inr (.inl p26.1)), none, some (.inl p26.2), some (.inl s1.2.2)] [] h (some (.inl r.1), r.2) := by
      intro p26 HF
      refine q_blk (pc' := 15) (loc' := [some (.inr (.inr (6, k, 0))), some (.inl (h.1 6 4 k 0)), some (.inr (.inl p26.1)), none, some (.inl p26.2), some (.inl (s1.2.2 + (-1 : Int32)))]) (stk' := []) (h' := h) 2 (fun _ _ => rfl) ?_
      have hz := Option.some.inj HF
      subst hz
      exact H12 (p26.1, p26.2, (s1.2.2 + (-1 : Int32))) rfl
    replace HF := HA22
    refine q_br (P := ¬ x19 = 0) (pcT := 41) (pcF := 30) (loc' := [some (.inr (.inr (6, k, 0))), some (.inl (h.1 6 4 k 0)), some (.inr (.inl s1.1)), none, some (.inl s1.2.1), some (.inl s1.2.2)]) (stk' := []) (h' := h) 1 (fun _ _ => rfl) (fun c25 => ?_) (fun c25 => ?_)
    · rw [if_pos c25] at HF
      have hz := Option.some.inj HF
      subst hz
      exact hP24 (s1.1, s1.2.1) HK23
    · rw [if_neg c25] at HF
      refine q_blk (pc' := 41) (loc' := [some (.inr (.inr (6, k, 0))), some (.inl (h.1 6 4 k 0)), some (.inr (.inl (s1.1 ||| ((1 : Int64) <<< (s1.2.2.toInt64 &&& 63))))), none, some (.inl s1.2.2), some (.inl s1.2.2)]) (stk' := []) (h' := h) 8 (fun _ _ => rfl) ?_
      have hz := Option.some.inj HF
      subst hz
      exact hP24 ((s1.1 ||| ((1 : Int64) <<< (s1.2.2.toInt64 &&& 63))), s1.2.2) HK23
def Tn_end (k : Nat) (a1 : Int32) (a2 : Int32) (h : q_H) : Option q_H :=
  (Rp_put 7 k a1 a2 h).bind fun x1 => (Rp_put 9 k a1 (-1 : Int32) x1).bind fun x3 => (q_lp (fun s5 : Int32 × q_H => (if (s5.2.1 6 4 k 0) ≤ s5.1 then ((Tn_horizonBut k (-1 : Int32) s5.2).bind fun x13 => some (.inr ((q_si s5.2 6 5 k 0 x13)))) else ((Tn_waitsFor k s5.1 s5.2).bind fun x15 => Option.bind (α := q_H) (if ¬ x15 = a1 then (some (s5.2)) else ((Rp_put 9 k s5.1 (-1 : Int32) s5.2).bind fun x21 => some (x21))) (fun p24 => some (.inl ((s5.1 + (1 : Int32)), p24)))) : Option ((Int32 × q_H) ⊕ q_H))) q_fu (((1 : Int32), x3) : Int32 × q_H)).bind fun z12 => some z12
set_option maxRecDepth 100000 in
set_option maxHeartbeats 4000000 in
theorem eTn_end {d : Nat} (hd : 4 ≤ d) {k : Nat} {a1 : Int32} {a2 : Int32} {h : q_H} {r : q_H} (HF : Tn_end k a1 a2 h = some r) : q_T d 113 [.inr (.inr (6, k, 0)), .inl a1, .inl a2] h (none, r) := by
  obtain ⟨d, rfl⟩ : ∃ d', d = d' + 1 := ⟨d - 1, by omega⟩
  refine q_ent q_K113 rfl rfl rfl ?_
  unfold Tn_end at HF
  obtain ⟨x1, hx2, HF⟩ := q_bind HF
  refine q_cll (m' := 61) (av := [.inr (.inr (7, k, 0)), .inl a1, .inl a2]) (st' := []) (pc' := 9) (loc' := [some (.inr (.inr (6, k, 0))), some (.inl a1), some (.inl a2), none]) (h' := h) 5 (fun _ _ => rfl) (eRp_put (by omega) hx2) ?_
  obtain ⟨x3, hx4, HF⟩ := q_bind HF
  refine q_cll (m' := 61) (av := [.inr (.inr (9, k, 0)), .inl a1, .inl (-1 : Int32)]) (st' := []) (pc' := 18) (loc' := [some (.inr (.inr (6, k, 0))), some (.inl a1), some (.inl a2), none]) (h' := x1) 5 (fun _ _ => rfl) (eRp_put (by omega) hx4) ?_
  refine q_blk (pc' := 20) (loc' := [some (.inr (.inr (6, k, 0))), some (.inl a1), some (.inl a2), some (.inl (1 : Int32))]) (stk' := []) (h' := x3) 2 (fun _ _ => rfl) ?_
  obtain ⟨r10, hl11, HK8⟩ := q_bind HF
  refine q_lpE (E := fun s5 => q_E d q_K113 20 [some (.inr (.inr (6, k, 0))), some (.inl a1), some (.inl a2), some (.inl s5.1)] [] s5.2 (none, r)) r10 (fun s5 z12 HF H16 H27 => ?_) _ _ hl11
  refine q_br (P := (s5.2.1 6 4 k 0) ≤ s5.1) (pcT := 52) (pcF := 28) (loc' := [some (.inr (.inr (6, k, 0))), some (.inl a1), some (.inl a2), some (.inl s5.1)]) (stk' := []) (h' := s5.2) 4 (fun _ _ => rfl) (fun c26 => ?_) (fun c26 => ?_)
  · rw [if_pos c26] at HF
    obtain ⟨x13, hx14, HF⟩ := q_bind HF
    refine q_cll (m' := 115) (av := [.inr (.inr (6, k, 0)), .inl (-1 : Int32)]) (st' := [.inr (.inr (6, k, 0))]) (pc' := 58) (loc' := [some (.inr (.inr (6, k, 0))), some (.inl a1), some (.inl a2), some (.inl s5.1)]) (h' := s5.2) 4 (fun _ _ => rfl) (eTn_horizonBut (by omega) hx14) ?_
    have hz := Option.some.inj HF
    subst hz
    replace HF := HK8
    rw [← H27 _ rfl] at HF
    have hz := Option.some.inj HF
    subst hz
    exact q_rtn 2 (fun _ _ => rfl)
  · rw [if_neg c26] at HF
    obtain ⟨x15, hx16, HF⟩ := q_bind HF
    refine q_cll (m' := 108) (av := [.inr (.inr (6, k, 0)), .inl s5.1]) (st' := []) (pc' := 33) (loc' := [some (.inr (.inr (6, k, 0))), some (.inl a1), some (.inl a2), some (.inl s5.1)]) (h' := s5.2) 3 (fun _ _ => rfl) (eTn_waitsFor (by omega) hx16) ?_
    obtain ⟨z17, HA18, HK19⟩ := q_bind HF
    have hP20 : ∀ p24 : q_H, (some (.inl ((s5.1 + (1 : Int32)), p24)) : Option ((Int32 × q_H) ⊕ q_H)) = some z12 → q_E d q_K113 46 [some (.inr (.inr (6, k, 0))), some (.inl a1), some (.inl a2), some (.inl s5.1)] [] p24 (none, r) := by
      intro p24 HF
      refine q_blk (pc' := 20) (loc' := [some (.inr (.inr (6, k, 0))), some (.inl a1), some (.inl a2), some (.inl (s5.1 + (1 : Int32)))]) (stk' := []) (h' := p24) 2 (fun _ _ => rfl) ?_
      have hz := Option.some.inj HF
      subst hz
      exact H16 ((s5.1 + (1 : Int32)), p24) rfl
    replace HF := HA18
    refine q_br (P := ¬ x15 = a1) (pcT := 46) (pcF := 37) (loc' := [some (.inr (.inr (6, k, 0))), some (.inl a1), some (.inl a2), some (.inl s5.1)]) (stk' := []) (h' := s5.2) 2 (fun _ _ => rfl) (fun c23 => ?_) (fun c23 => ?_)
    · rw [if_pos c23] at HF
      have hz := Option.some.inj HF
      subst hz
      exact hP20 (s5.2) HK19
    · rw [if_neg c23] at HF
      obtain ⟨x21, hx22, HF⟩ := q_bind HF
      refine q_cll (m' := 61) (av := [.inr (.inr (9, k, 0)), .inl s5.1, .inl (-1 : Int32)]) (st' := []) (pc' := 46) (loc' := [some (.inr (.inr (6, k, 0))), some (.inl a1), some (.inl a2), some (.inl s5.1)]) (h' := s5.2) 5 (fun _ _ => rfl) (eRp_put (by omega) hx22) ?_
      have hz := Option.some.inj HF
      subst hz
      exact hP20 (x21) HK19
def Tn_howManyWaitFor (k : Nat) (a1 : Int32) (h : q_H) : Option Int32 :=
  (q_lp (fun s1 : Int32 × Int32 => (if (h.1 6 4 k 0) ≤ s1.2 then (some (.inr (s1.1))) else (Option.bind (α := Int32) (if s1.2 = a1 then (some (s1.1)) else ((Tn_ringLength k a1 s1.2 h).bind fun x13 => if x13 ≤ 0 then (some (s1.1)) else (some ((s1.1 + (1 : Int32)))))) (fun p17 => some (.inl (p17, (s1.2 + (1 : Int32)))))) : Option ((Int32 × Int32) ⊕ Int32))) q_fu (((0 : Int32), (1 : Int32)) : Int32 × Int32)).bind fun z8 => some z8
set_option maxRecDepth 100000 in
set_option maxHeartbeats 4000000 in
theorem eTn_howManyWaitFor {d : Nat} (hd : 4 ≤ d) {k : Nat} {a1 : Int32} {h : q_H} {r : Int32} (HF : Tn_howManyWaitFor k a1 h = some r) : q_T d 121 [.inr (.inr (6, k, 0)), .inl a1] h (some (.inl r), h) := by
  obtain ⟨d, rfl⟩ : ∃ d', d = d' + 1 := ⟨d - 1, by omega⟩
  refine q_ent q_K121 rfl rfl rfl ?_
  unfold Tn_howManyWaitFor at HF
  refine q_blk (pc' := 4) (loc' := [some (.inr (.inr (6, k, 0))), some (.inl a1), some (.inl (0 : Int32)), some (.inl (1 : Int32))]) (stk' := []) (h' := h) 4 (fun _ _ => rfl) ?_
  obtain ⟨r6, hl7, HK4⟩ := q_bind HF
  refine q_lpE (E := fun s1 => q_E d q_K121 4 [some (.inr (.inr (6, k, 0))), some (.inl a1), some (.inl s1.1), some (.inl s1.2)] [] h (some (.inl r), h)) r6 (fun s1 z8 HF H12 H23 => ?_) _ _ hl7
  refine q_br (P := (h.1 6 4 k 0) ≤ s1.2) (pcT := 35) (pcF := 12) (loc' := [some (.inr (.inr (6, k, 0))), some (.inl a1), some (.inl s1.1), some (.inl s1.2)]) (stk' := []) (h' := h) 4 (fun _ _ => rfl) (fun c19 => ?_) (fun c19 => ?_)
  · rw [if_pos c19] at HF
    have hz := Option.some.inj HF
    subst hz
    replace HF := HK4
    rw [← H23 _ rfl] at HF
    have hz := Option.some.inj HF
    subst hz
    exact q_rtn 2 (fun _ _ => rfl)
  · rw [if_neg c19] at HF
    obtain ⟨z9, HA10, HK11⟩ := q_bind HF
    have hP12 : ∀ p17 : Int32, (some (.inl (p17, (s1.2 + (1 : Int32)))) : Option ((Int32 × Int32) ⊕ Int32)) = some z8 → q_E d q_K121 29 [some (.inr (.inr (6, k, 0))), some (.inl a1), some (.inl p17), some (.inl s1.2)] [] h (some (.inl r), h) := by
      intro p17 HF
      refine q_blk (pc' := 4) (loc' := [some (.inr (.inr (6, k, 0))), some (.inl a1), some (.inl p17), some (.inl (s1.2 + (1 : Int32)))]) (stk' := []) (h' := h) 2 (fun _ _ => rfl) ?_
      have hz := Option.some.inj HF
      subst hz
      exact H12 (p17, (s1.2 + (1 : Int32))) rfl
    replace HF := HA10
    refine q_br (P := s1.2 = a1) (pcT := 29) (pcF := 17) (loc' := [some (.inr (.inr (6, k, 0))), some (.inl a1), some (.inl s1.1), some (.inl s1.2)]) (stk' := []) (h' := h) 3 (fun _ _ => rfl) (fun c16 => ?_) (fun c16 => ?_)
    · rw [if_pos c16] at HF
      have hz := Option.some.inj HF
      subst hz
      exact hP12 (s1.1) HK11
    · rw [if_neg c16] at HF
      obtain ⟨x13, hx14, HF⟩ := q_bind HF
      refine q_cll (m' := 120) (av := [.inr (.inr (6, k, 0)), .inl a1, .inl s1.2]) (st' := []) (pc' := 23) (loc' := [some (.inr (.inr (6, k, 0))), some (.inl a1), some (.inl s1.1), some (.inl s1.2)]) (h' := h) 4 (fun _ _ => rfl) (eTn_ringLength (by omega) hx14) ?_
      refine q_br (P := x13 ≤ 0) (pcT := 29) (pcF := 26) (loc' := [some (.inr (.inr (6, k, 0))), some (.inl a1), some (.inl s1.1), some (.inl s1.2)]) (stk' := []) (h' := h) 1 (fun _ _ => rfl) (fun c15 => ?_) (fun c15 => ?_)
      · rw [if_pos c15] at HF
        have hz := Option.some.inj HF
        subst hz
        exact hP12 (s1.1) HK11
      · rw [if_neg c15] at HF
        refine q_blk (pc' := 29) (loc' := [some (.inr (.inr (6, k, 0))), some (.inl a1), some (.inl (s1.1 + (1 : Int32))), some (.inl s1.2)]) (stk' := []) (h' := h) 1 (fun _ _ => rfl) ?_
        have hz := Option.some.inj HF
        subst hz
        exact hP12 (s1.1 + (1 : Int32)) HK11
def Tx_readToken  (h : q_H) : Option q_H :=
  (q_lp (fun s1 : q_H => (Option.bind (α := (Unit) ⊕ ((q_H) ⊕ (q_H))) (if (s1.1 25 2 6 0) ≤ (s1.1 25 3 6 0) then (some (.inr (.inr (s1)))) else (some (.inl ()))) (fun z9 => match z9 with | .inl p14 => (Tx_byteAt (s1.1 25 3 6 0) s1).bind fun x15 => if x15 = (32 : Int32) then (some (.inl (q_si s1 25 3 6 0 ((s1.1 25 3 6 0) + (1 : Int32))))) else ((Tx_byteAt (s1.1 25 3 6 0) s1).bind fun x17 => Option.bind (α := (Unit) ⊕ ((q_H) ⊕ (q_H))) (if ¬ x17 = (10 : Int32) then (some (.inr (.inr (s1)))) else (some (.inl ()))) (fun z19 => match z19 with | .inl p24 => some (.inl (q_si s1 25 3 6 0 ((s1.1 25 3 6 0) + (1 : Int32)))) | .inr z19 => some z19)) | .inr z9 => some z9) : Option ((q_H) ⊕ (q_H)))) q_fu (h : q_H)).bind fun p28 => (Tx_byteAt ((q_si p28 25 5 6 0 (p28.1 25 3 6 0)).1 25 3 6 0) (q_si p28 25 5 6 0 (p28.1 25 3 6 0))).bind fun x29 => if ((q_si p28 25 5 6 0 (p28.1 25 3 6 0)).1 25 3 6 0) < ((q_si p28 25 5 6 0 (p28.1 25 3 6 0)).1 25 2 6 0) then (if ¬ x29 = (59 : Int32) then ((Rp_isWithin x29 (97 : Int32) (122 : Int32) (q_si p28 25 5 6 0 (p28.1 25 3 6 0))).bind fun x31 => if x31 = 0 then ((Rp_isWithin x29 (48 : Int32) (57 : Int32) (q_si p28 25 5 6 0 (p28.1 25 3 6 0))).bind fun x33 => if x33 = 0 then (some ((q_si (q_si p28 25 5 6 0 (p28.1 25 3 6 0)) 25 4 6 0 (4 : Int32)))) else ((Tx_passAll (48 : Int32) (57 : Int32) (q_si p28 25 5 6 0 (p28.1 25 3 6 0))).bind fun x35 => if ((x35.1 25 3 6 0) - (x35.1 25 5 6 0)) ≤ (3 : Int32) then ((Tx_numberRead (q_si x35 25 4 6 0 (2 : Int32))).bind fun x37 => some ((q_si (q_si x35 25 4 6 0 (2 : Int32)) 25 6 6 0 x37))) else ((Tx_numberRead (q_si x35 25 4 6 0 (4 : Int32))).bind fun x39 => some ((q_si (q_si x35 25 4 6 0 (4 : Int32)) 25 6 6 0 x39))))) else ((Tx_passAll (97 : Int32) (122 : Int32) (q_si (q_si p28 25 5 6 0 (p28.1 25 3 6 0)) 25 4 6 0 (1 : Int32))).bind fun x43 => some (x43))) else ((some (q_si (q_si (q_si p28 25 5 6 0 (p28.1 25 3 6 0)) 25 4 6 0 (3 : Int32)) 25 3 6 0 (((q_si (q_si p28 25 5 6 0 (p28.1 25 3 6 0)) 25 4 6 0 (3 : Int32)).1 25 3 6 0) + (1 : Int32)))).bind fun h46 => some (h46))) else (some ((q_si (q_si p28 25 5 6 0 (p28.1 25 3 6 0)) 25 4 6 0 (0 : Int32))))
set_option maxRecDepth 100000 in
set_option maxHeartbeats 4000000 in
theorem eTx_readToken {d : Nat} (hd : 4 ≤ d)  {h : q_H} {r : q_H} (HF : Tx_readToken  h = some r) : q_T d 135 [.inr (.inr (25, 6, 0))] h (none, r) := by
  obtain ⟨d, rfl⟩ : ∃ d', d = d' + 1 := ⟨d - 1, by omega⟩
  refine q_ent q_K135 rfl rfl rfl ?_
  unfold Tx_readToken at HF
  obtain ⟨r6, hl7, HK4⟩ := q_bind HF
  have hP5 : ∀ p28 : q_H, ((Tx_byteAt ((q_si p28 25 5 6 0 (p28.1 25 3 6 0)).1 25 3 6 0) (q_si p28 25 5 6 0 (p28.1 25 3 6 0))).bind fun x29 => if ((q_si p28 25 5 6 0 (p28.1 25 3 6 0)).1 25 3 6 0) < ((q_si p28 25 5 6 0 (p28.1 25 3 6 0)).1 25 2 6 0) then (if ¬ x29 = (59 : Int32) then ((Rp_isWithin x29 (97 : Int32) (122 : Int32) (q_si p28 25 5 6 0 (p28.1 25 3 6 0))).bind fun x31 => if x31 = 0 then ((Rp_isWithin x29 (48 : Int32) (57 : Int32) (q_si p28 25 5 6 0 (p28.1 25 3 6 0))).bind fun x33 => if x33 = 0 then (some ((q_si (q_si p28 25 5 6 0 (p28.1 25 3 6 0)) 25 4 6 0 (4 : Int32)))) else ((Tx_passAll (48 : Int32) (57 : Int32) (q_si p28 25 5 6 0 (p28.1 25 3 6 0))).bind fun x35 => if ((x35.1 25 3 6 0) - (x35.1 25 5 6 0)) ≤ (3 : Int32) then ((Tx_numberRead (q_si x35 25 4 6 0 (2 : Int32))).bind fun x37 => some ((q_si (q_si x35 25 4 6 0 (2 : Int32)) 25 6 6 0 x37))) else ((Tx_numberRead (q_si x35 25 4 6 0 (4 : Int32))).bind fun x39 => some ((q_si (q_si x35 25 4 6 0 (4 : Int32)) 25 6 6 0 x39))))) else ((Tx_passAll (97 : Int32) (122 : Int32) (q_si (q_si p28 25 5 6 0 (p28.1 25 3 6 0)) 25 4 6 0 (1 : Int32))).bind fun x43 => some (x43))) else ((some (q_si (q_si (q_si p28 25 5 6 0 (p28.1 25 3 6 0)) 25 4 6 0 (3 : Int32)) 25 3 6 0 (((q_si (q_si p28 25 5 6 0 (p28.1 25 3 6 0)) 25 4 6 0 (3 : Int32)).1 25 3 6 0) + (1 : Int32)))).bind fun h46 => some (h46))) else (some ((q_si (q_si p28 25 5 6 0 (p28.1 25 3 6 0)) 25 4 6 0 (0 : Int32)))) : Option q_H) = some r → q_E d q_K135 50 [some (.inr (.inr (25, 6, 0))), none] [] p28 (none, r) := by
    intro p28 HF
    obtain ⟨x29, hx30, HF⟩ := q_bind HF
    refine q_cll (m' := 134) (av := [.inr (.inr (25, 6, 0)), .inl ((q_si p28 25 5 6 0 (p28.1 25 3 6 0)).1 25 3 6 0)]) (st' := []) (pc' := 66) (loc' := [some (.inr (.inr (25, 6, 0))), none]) (h' := (q_si p28 25 5 6 0 (p28.1 25 3 6 0))) 8 (fun _ _ => rfl) (eTx_byteAt (by omega) hx30) ?_
    refine q_br (P := ((q_si p28 25 5 6 0 (p28.1 25 3 6 0)).1 25 3 6 0) < ((q_si p28 25 5 6 0 (p28.1 25 3 6 0)).1 25 2 6 0)) (pcT := 86) (pcF := 78) (loc' := [some (.inr (.inr (25, 6, 0))), some (.inl x29)]) (stk' := []) (h' := (q_si p28 25 5 6 0 (p28.1 25 3 6 0))) 6 (fun _ _ => rfl) (fun c49 => ?_) (fun c49 => ?_)
    · rw [if_pos c49] at HF
      refine q_br (P := ¬ x29 = (59 : Int32)) (pcT := 110) (pcF := 92) (loc' := [some (.inr (.inr (25, 6, 0))), some (.inl x29)]) (stk' := []) (h' := (q_si p28 25 5 6 0 (p28.1 25 3 6 0))) 3 (fun _ _ => rfl) (fun c48 => ?_) (fun c48 => ?_)
      · rw [if_pos c48] at HF
        obtain ⟨x31, hx32, HF⟩ := q_bind HF
        refine q_cll (m' := 55) (av := [.inl x29, .inl (97 : Int32), .inl (122 : Int32)]) (st' := []) (pc' := 118) (loc' := [some (.inr (.inr (25, 6, 0))), some (.inl x29)]) (h' := (q_si p28 25 5 6 0 (p28.1 25 3 6 0))) 4 (fun _ _ => rfl) (eRp_isWithin (by omega) hx32) ?_
        refine q_br (P := x31 = 0) (pcT := 137) (pcF := 121) (loc' := [some (.inr (.inr (25, 6, 0))), some (.inl x29)]) (stk' := []) (h' := (q_si p28 25 5 6 0 (p28.1 25 3 6 0))) 1 (fun _ _ => rfl) (fun c45 => ?_) (fun c45 => ?_)
        · rw [if_pos c45] at HF
          obtain ⟨x33, hx34, HF⟩ := q_bind HF
          refine q_cll (m' := 55) (av := [.inl x29, .inl (48 : Int32), .inl (57 : Int32)]) (st' := []) (pc' := 145) (loc' := [some (.inr (.inr (25, 6, 0))), some (.inl x29)]) (h' := (q_si p28 25 5 6 0 (p28.1 25 3 6 0))) 4 (fun _ _ => rfl) (eRp_isWithin (by omega) hx34) ?_
          refine q_br (P := x33 = 0) (pcT := 189) (pcF := 148) (loc' := [some (.inr (.inr (25, 6, 0))), some (.inl x29)]) (stk' := []) (h' := (q_si p28 25 5 6 0 (p28.1 25 3 6 0))) 1 (fun _ _ => rfl) (fun c42 => ?_) (fun c42 => ?_)
          · rw [if_pos c42] at HF
            have hz := Option.some.inj HF
            subst hz
            exact q_rtn 4 (fun _ _ => rfl)
          · rw [if_neg c42] at HF
            obtain ⟨x35, hx36, HF⟩ := q_bind HF
            refine q_cll (m' := 136) (av := [.inr (.inr (25, 6, 0)), .inl (48 : Int32), .inl (57 : Int32)]) (st' := []) (pc' := 156) (loc' := [some (.inr (.inr (25, 6, 0))), some (.inl x29)]) (h' := (q_si p28 25 5 6 0 (p28.1 25 3 6 0))) 4 (fun _ _ => rfl) (eTx_passAll (by omega) hx36) ?_
            refine q_br (P := ((x35.1 25 3 6 0) - (x35.1 25 5 6 0)) ≤ (3 : Int32)) (pcT := 174) (pcF := 170) (loc' := [some (.inr (.inr (25, 6, 0))), some (.inl x29)]) (stk' := [.inr (.inr (25, 6, 0))]) (h' := x35) 8 (fun _ _ => rfl) (fun c41 => ?_) (fun c41 => ?_)
            · rw [if_pos c41] at HF
              obtain ⟨x37, hx38, HF⟩ := q_bind HF
              refine q_cll (m' := 137) (av := [.inr (.inr (25, 6, 0))]) (st' := [.inr (.inr (25, 6, 0))]) (pc' := 183) (loc' := [some (.inr (.inr (25, 6, 0))), some (.inl x29)]) (h' := (q_si x35 25 4 6 0 (2 : Int32))) 5 (fun _ _ => rfl) (eTx_numberRead (by omega) hx38) ?_
              have hz := Option.some.inj HF
              subst hz
              exact q_rtn 3 (fun _ _ => rfl)
            · rw [if_neg c41] at HF
              obtain ⟨x39, hx40, HF⟩ := q_bind HF
              refine q_cll (m' := 137) (av := [.inr (.inr (25, 6, 0))]) (st' := [.inr (.inr (25, 6, 0))]) (pc' := 183) (loc' := [some (.inr (.inr (25, 6, 0))), some (.inl x29)]) (h' := (q_si x35 25 4 6 0 (4 : Int32))) 6 (fun _ _ => rfl) (eTx_numberRead (by omega) hx40) ?_
              have hz := Option.some.inj HF
              subst hz
              exact q_rtn 3 (fun _ _ => rfl)
        · rw [if_neg c45] at HF
          obtain ⟨x43, hx44, HF⟩ := q_bind HF
          refine q_cll (m' := 136) (av := [.inr (.inr (25, 6, 0)), .inl (97 : Int32), .inl (122 : Int32)]) (st' := []) (pc' := 134) (loc' := [some (.inr (.inr (25, 6, 0))), some (.inl x29)]) (h' := (q_si (q_si p28 25 5 6 0 (p28.1 25 3 6 0)) 25 4 6 0 (1 : Int32))) 7 (fun _ _ => rfl) (eTx_passAll (by omega) hx44) ?_
          have hz := Option.some.inj HF
          subst hz
          exact q_rtn 2 (fun _ _ => rfl)
      · rw [if_neg c48] at HF
        obtain ⟨h46, e47, HF⟩ := q_bind HF
        refine q_blk (pc' := 107) (loc' := [some (.inr (.inr (25, 6, 0))), some (.inl x29)]) (stk' := []) (h' := (q_si (q_si (q_si p28 25 5 6 0 (p28.1 25 3 6 0)) 25 4 6 0 (3 : Int32)) 25 3 6 0 (((q_si (q_si p28 25 5 6 0 (p28.1 25 3 6 0)) 25 4 6 0 (3 : Int32)).1 25 3 6 0) + (1 : Int32)))) 9 (fun _ _ => rfl) ?_
        rw [Option.some.inj e47]
        have hz := Option.some.inj HF
        subst hz
        exact q_rtn 2 (fun _ _ => rfl)
    · rw [if_neg c49] at HF
      have hz := Option.some.inj HF
      subst hz
      exact q_rtn 5 (fun _ _ => rfl)
  refine q_lpE (E := fun s1 => q_E d q_K135 0 [some (.inr (.inr (25, 6, 0))), none] [] s1 (none, r)) r6 (fun s1 z8 HF H12 H23 => ?_) _ _ hl7
  obtain ⟨z9, HA10, HK11⟩ := q_bind HF
  have hP12 : ∀ p14 : Unit, ((Tx_byteAt (s1.1 25 3 6 0) s1).bind fun x15 => if x15 = (32 : Int32) then (some (.inl (q_si s1 25 3 6 0 ((s1.1 25 3 6 0) + (1 : Int32))))) else ((Tx_byteAt (s1.1 25 3 6 0) s1).bind fun x17 => Option.bind (α := (Unit) ⊕ ((q_H) ⊕ (q_H))) (if ¬ x17 = (10 : Int32) then (some (.inr (.inr (s1)))) else (some (.inl ()))) (fun z19 => match z19 with | .inl p24 => some (.inl (q_si s1 25 3 6 0 ((s1.1 25 3 6 0) + (1 : Int32)))) | .inr z19 => some z19)) : Option ((q_H) ⊕ (q_H))) = some z8 → q_E d q_K135 11 [some (.inr (.inr (25, 6, 0))), none] [] s1 (none, r) := by
    intro p14 HF
    obtain ⟨x15, hx16, HF⟩ := q_bind HF
    refine q_cll (m' := 134) (av := [.inr (.inr (25, 6, 0)), .inl (s1.1 25 3 6 0)]) (st' := []) (pc' := 19) (loc' := [some (.inr (.inr (25, 6, 0))), none]) (h' := s1) 4 (fun _ _ => rfl) (eTx_byteAt (by omega) hx16) ?_
    refine q_br (P := x15 = (32 : Int32)) (pcT := 37) (pcF := 24) (loc' := [some (.inr (.inr (25, 6, 0))), none]) (stk' := []) (h' := s1) 2 (fun _ _ => rfl) (fun c26 => ?_) (fun c26 => ?_)
    · rw [if_pos c26] at HF
      refine q_blk (pc' := 0) (loc' := [some (.inr (.inr (25, 6, 0))), none]) (stk' := []) (h' := (q_si s1 25 3 6 0 ((s1.1 25 3 6 0) + (1 : Int32)))) 7 (fun _ _ => rfl) ?_
      have hz := Option.some.inj HF
      subst hz
      exact H12 (q_si s1 25 3 6 0 ((s1.1 25 3 6 0) + (1 : Int32))) rfl
    · rw [if_neg c26] at HF
      obtain ⟨x17, hx18, HF⟩ := q_bind HF
      refine q_cll (m' := 134) (av := [.inr (.inr (25, 6, 0)), .inl (s1.1 25 3 6 0)]) (st' := []) (pc' := 32) (loc' := [some (.inr (.inr (25, 6, 0))), none]) (h' := s1) 4 (fun _ _ => rfl) (eTx_byteAt (by omega) hx18) ?_
      obtain ⟨z19, HA20, HK21⟩ := q_bind HF
      have hP22 : ∀ p24 : Unit, (some (.inl (q_si s1 25 3 6 0 ((s1.1 25 3 6 0) + (1 : Int32)))) : Option ((q_H) ⊕ (q_H))) = some z8 → q_E d q_K135 37 [some (.inr (.inr (25, 6, 0))), none] [] s1 (none, r) := by
        intro p24 HF
        refine q_blk (pc' := 0) (loc' := [some (.inr (.inr (25, 6, 0))), none]) (stk' := []) (h' := (q_si s1 25 3 6 0 ((s1.1 25 3 6 0) + (1 : Int32)))) 7 (fun _ _ => rfl) ?_
        have hz := Option.some.inj HF
        subst hz
        exact H12 (q_si s1 25 3 6 0 ((s1.1 25 3 6 0) + (1 : Int32))) rfl
      replace HF := HA20
      refine q_br (P := ¬ x17 = (10 : Int32)) (pcT := 50) (pcF := 37) (loc' := [some (.inr (.inr (25, 6, 0))), none]) (stk' := []) (h' := s1) 2 (fun _ _ => rfl) (fun c23 => ?_) (fun c23 => ?_)
      · rw [if_pos c23] at HF
        have hz := Option.some.inj HF
        subst hz
        replace HF := HK21
        have hz := Option.some.inj HF
        subst hz
        rw [← H23 _ rfl] at HK4
        exact hP5 (s1) HK4
      · rw [if_neg c23] at HF
        have hz := Option.some.inj HF
        subst hz
        exact hP22 () HK21
  replace HF := HA10
  refine q_br (P := (s1.1 25 2 6 0) ≤ (s1.1 25 3 6 0)) (pcT := 50) (pcF := 11) (loc' := [some (.inr (.inr (25, 6, 0))), none]) (stk' := []) (h' := s1) 5 (fun _ _ => rfl) (fun c13 => ?_) (fun c13 => ?_)
  · rw [if_pos c13] at HF
    have hz := Option.some.inj HF
    subst hz
    replace HF := HK11
    have hz := Option.some.inj HF
    subst hz
    rw [← H23 _ rfl] at HK4
    exact hP5 (s1) HK4
  · rw [if_neg c13] at HF
    have hz := Option.some.inj HF
    subst hz
    exact hP12 () HK11
def St_copyFrom (k : Nat) (k1 : Nat) (h : q_H) : Option q_H :=
  (Pg_copyFrom k k1 h).bind fun x1 => (Tn_copyFrom k k1 x1).bind fun x3 => (Ix_copyFrom k k1 x3).bind fun x5 => (Lg_copyFrom k k1 x5).bind fun x7 => (Fo_copyFrom k k1 x7).bind fun x9 => (some (q_si (q_si (q_si x9 0 5 k 0 (x9.1 0 5 k1 0)) 0 6 k 0 ((q_si x9 0 5 k 0 (x9.1 0 5 k1 0)).1 0 6 k1 0)) 0 7 k 0 ((q_si (q_si x9 0 5 k 0 (x9.1 0 5 k1 0)) 0 6 k 0 ((q_si x9 0 5 k 0 (x9.1 0 5 k1 0)).1 0 6 k1 0)).1 0 7 k1 0))).bind fun h11 => some ((q_si h11 0 8 k 0 (h11.1 0 8 k1 0)))
set_option maxRecDepth 100000 in
set_option maxHeartbeats 4000000 in
theorem eSt_copyFrom {d : Nat} (hd : 4 ≤ d) {k : Nat} {k1 : Nat} {h : q_H} {r : q_H} (HF : St_copyFrom k k1 h = some r) : q_T d 142 [.inr (.inr (0, k, 0)), .inr (.inr (0, k1, 0))] h (none, r) := by
  obtain ⟨d, rfl⟩ : ∃ d', d = d' + 1 := ⟨d - 1, by omega⟩
  refine q_ent q_K142 rfl rfl rfl ?_
  unfold St_copyFrom at HF
  obtain ⟨x1, hx2, HF⟩ := q_bind HF
  refine q_cll (m' := 87) (av := [.inr (.inr (1, k, 0)), .inr (.inr (1, k1, 0))]) (st' := []) (pc' := 11) (loc' := [some (.inr (.inr (0, k, 0))), some (.inr (.inr (0, k1, 0)))]) (h' := h) 5 (fun _ _ => rfl) (ePg_copyFrom (by omega) hx2) ?_
  obtain ⟨x3, hx4, HF⟩ := q_bind HF
  refine q_cll (m' := 104) (av := [.inr (.inr (6, k, 0)), .inr (.inr (6, k1, 0))]) (st' := []) (pc' := 22) (loc' := [some (.inr (.inr (0, k, 0))), some (.inr (.inr (0, k1, 0)))]) (h' := x1) 5 (fun _ _ => rfl) (eTn_copyFrom (by omega) hx4) ?_
  obtain ⟨x5, hx6, HF⟩ := q_bind HF
  refine q_cll (m' := 70) (av := [.inr (.inr (11, k, 0)), .inr (.inr (11, k1, 0))]) (st' := []) (pc' := 33) (loc' := [some (.inr (.inr (0, k, 0))), some (.inr (.inr (0, k1, 0)))]) (h' := x3) 5 (fun _ _ => rfl) (eIx_copyFrom (by omega) hx6) ?_
  obtain ⟨x7, hx8, HF⟩ := q_bind HF
  refine q_cll (m' := 80) (av := [.inr (.inr (15, k, 0)), .inr (.inr (15, k1, 0))]) (st' := []) (pc' := 44) (loc' := [some (.inr (.inr (0, k, 0))), some (.inr (.inr (0, k1, 0)))]) (h' := x5) 5 (fun _ _ => rfl) (eLg_copyFrom (by omega) hx8) ?_
  obtain ⟨x9, hx10, HF⟩ := q_bind HF
  refine q_cll (m' := 67) (av := [.inr (.inr (19, k, 0)), .inr (.inr (19, k1, 0))]) (st' := []) (pc' := 55) (loc' := [some (.inr (.inr (0, k, 0))), some (.inr (.inr (0, k1, 0)))]) (h' := x7) 5 (fun _ _ => rfl) (eFo_copyFrom (by omega) hx10) ?_
  obtain ⟨h11, e12, HF⟩ := q_bind HF
  refine q_blk (pc' := 79) (loc' := [some (.inr (.inr (0, k, 0))), some (.inr (.inr (0, k1, 0)))]) (stk' := []) (h' := (q_si (q_si (q_si x9 0 5 k 0 (x9.1 0 5 k1 0)) 0 6 k 0 ((q_si x9 0 5 k 0 (x9.1 0 5 k1 0)).1 0 6 k1 0)) 0 7 k 0 ((q_si (q_si x9 0 5 k 0 (x9.1 0 5 k1 0)) 0 6 k 0 ((q_si x9 0 5 k 0 (x9.1 0 5 k1 0)).1 0 6 k1 0)).1 0 7 k1 0))) 12 (fun _ _ => rfl) ?_
  rw [Option.some.inj e12]
  have hz := Option.some.inj HF
  subst hz
  exact q_rtn 5 (fun _ _ => rfl)
def St_isSuch (k : Nat) (k1 : Nat) (i1 : Nat) (a2 : Int32) (h : q_H) : Option Int32 :=
  if a2 = 8 then (bif q_01 (h.1 3 10 k1 i1) then some ((h.1 3 10 k1 i1)) else none) else (if a2 = 9 then (bif q_01 (h.1 3 11 k1 i1) then some ((h.1 3 11 k1 i1)) else none) else (if a2 = 10 then ((St_isDead k k1 i1 h).bind fun x3 => bif q_01 x3 then some (x3) else none) else ((St_isDying k k1 i1 h).bind fun x6 => bif q_01 x6 then some (x6) else none)))
set_option maxRecDepth 100000 in
set_option maxHeartbeats 4000000 in
theorem eSt_isSuch {d : Nat} (hd : 4 ≤ d) {k : Nat} {k1 : Nat} {i1 : Nat} {a2 : Int32} {h : q_H} {r : Int32} (HF : St_isSuch k k1 i1 a2 h = some r) : q_T d 147 [.inr (.inr (0, k, 0)), .inr (.inr (3, k1, i1)), .inl a2] h (some (.inl r), h) := by
  obtain ⟨d, rfl⟩ : ∃ d', d = d' + 1 := ⟨d - 1, by omega⟩
  refine q_ent q_K147 rfl rfl rfl ?_
  unfold St_isSuch at HF
  by_cases c9 : a2 = 8
  · rw [if_pos c9] at HF
    refine q_sw (o1 := 27) (pcx := 1) (pc' := 28) (loc' := [some (.inr (.inr (0, k, 0))), some (.inr (.inr (3, k1, i1))), some (.inl a2)]) (stk' := []) (h' := h) 2 (fun _ _ => rfl) (q_tsI c9 rfl) rfl ?_
    obtain ⟨g1, HF⟩ := q_gF HF
    have hz := Option.some.inj HF
    subst hz
    exact q_rtz 3 (fun _ _ => rfl) g1
  · rw [if_neg c9] at HF
    by_cases c10 : a2 = 9
    · rw [if_pos c10] at HF
      refine q_sw (o1 := 32) (pcx := 1) (pc' := 33) (loc' := [some (.inr (.inr (0, k, 0))), some (.inr (.inr (3, k1, i1))), some (.inl a2)]) (stk' := []) (h' := h) 2 (fun _ _ => rfl) (q_tsI c10 rfl) rfl ?_
      obtain ⟨g2, HF⟩ := q_gF HF
      have hz := Option.some.inj HF
      subst hz
      exact q_rtz 3 (fun _ _ => rfl) g2
    · rw [if_neg c10] at HF
      by_cases c11 : a2 = 10
      · rw [if_pos c11] at HF
        refine q_sw (o1 := 37) (pcx := 1) (pc' := 38) (loc' := [some (.inr (.inr (0, k, 0))), some (.inr (.inr (3, k1, i1))), some (.inl a2)]) (stk' := []) (h' := h) 2 (fun _ _ => rfl) (q_tsI c11 rfl) rfl ?_
        obtain ⟨x3, hx4, HF⟩ := q_bind HF
        refine q_cll (m' := 145) (av := [.inr (.inr (0, k, 0)), .inr (.inr (3, k1, i1))]) (st' := []) (pc' := 43) (loc' := [some (.inr (.inr (0, k, 0))), some (.inr (.inr (3, k1, i1))), some (.inl a2)]) (h' := h) 3 (fun _ _ => rfl) (eSt_isDead (by omega) hx4) ?_
        obtain ⟨g5, HF⟩ := q_gF HF
        have hz := Option.some.inj HF
        subst hz
        exact q_rtz 1 (fun _ _ => rfl) g5
      · rw [if_neg c11] at HF
        refine q_sw (o1 := 43) (pcx := 1) (pc' := 44) (loc' := [some (.inr (.inr (0, k, 0))), some (.inr (.inr (3, k1, i1))), some (.inl a2)]) (stk' := []) (h' := h) 2 (fun _ _ => rfl) (q_tsD (a := a2) (lo := 8) (hi := 10) (by have z0 := q_neI c9 (a := 8) rfl; have z1 := q_neI c10 (a := 9) rfl; have z2 := q_neI c11 (a := 10) rfl; omega)) rfl ?_
        obtain ⟨x6, hx7, HF⟩ := q_bind HF
        refine q_cll (m' := 146) (av := [.inr (.inr (0, k, 0)), .inr (.inr (3, k1, i1))]) (st' := []) (pc' := 49) (loc' := [some (.inr (.inr (0, k, 0))), some (.inr (.inr (3, k1, i1))), some (.inl a2)]) (h' := h) 3 (fun _ _ => rfl) (eSt_isDying (by omega) hx7) ?_
        obtain ⟨g8, HF⟩ := q_gF HF
        have hz := Option.some.inj HF
        subst hz
        exact q_rtz 1 (fun _ _ => rfl) g8
def St_isCounted (k : Nat) (k1 : Nat) (i1 : Nat) (a2 : Int32) (h : q_H) : Option Int32 :=
  if a2 = 7 then (some ((1 : Int32))) else (if a2 = 8 then ((St_isDead k k1 i1 h).bind fun x1 => bif q_01 x1 then some (x1) else none) else (if a2 = 9 then ((St_isDying k k1 i1 h).bind fun x4 => bif q_01 x4 then some (x4) else none) else (if a2 = 10 then (bif q_01 (h.1 3 11 k1 i1) then some ((h.1 3 11 k1 i1)) else none) else (bif q_01 (h.1 3 10 k1 i1) then some ((h.1 3 10 k1 i1)) else none))))
set_option maxRecDepth 100000 in
set_option maxHeartbeats 4000000 in
theorem eSt_isCounted {d : Nat} (hd : 4 ≤ d) {k : Nat} {k1 : Nat} {i1 : Nat} {a2 : Int32} {h : q_H} {r : Int32} (HF : St_isCounted k k1 i1 a2 h = some r) : q_T d 149 [.inr (.inr (0, k, 0)), .inr (.inr (3, k1, i1)), .inl a2] h (some (.inl r), h) := by
  obtain ⟨d, rfl⟩ : ∃ d', d = d' + 1 := ⟨d - 1, by omega⟩
  refine q_ent q_K149 rfl rfl rfl ?_
  unfold St_isCounted at HF
  by_cases c9 : a2 = 7
  · rw [if_pos c9] at HF
    refine q_sw (o1 := 31) (pcx := 1) (pc' := 32) (loc' := [some (.inr (.inr (0, k, 0))), some (.inr (.inr (3, k1, i1))), some (.inl a2)]) (stk' := []) (h' := h) 2 (fun _ _ => rfl) (q_tsI c9 rfl) rfl ?_
    have hz := Option.some.inj HF
    subst hz
    exact q_rtn 2 (fun _ _ => rfl)
  · rw [if_neg c9] at HF
    by_cases c10 : a2 = 8
    · rw [if_pos c10] at HF
      refine q_sw (o1 := 33) (pcx := 1) (pc' := 34) (loc' := [some (.inr (.inr (0, k, 0))), some (.inr (.inr (3, k1, i1))), some (.inl a2)]) (stk' := []) (h' := h) 2 (fun _ _ => rfl) (q_tsI c10 rfl) rfl ?_
      obtain ⟨x1, hx2, HF⟩ := q_bind HF
      refine q_cll (m' := 145) (av := [.inr (.inr (0, k, 0)), .inr (.inr (3, k1, i1))]) (st' := []) (pc' := 39) (loc' := [some (.inr (.inr (0, k, 0))), some (.inr (.inr (3, k1, i1))), some (.inl a2)]) (h' := h) 3 (fun _ _ => rfl) (eSt_isDead (by omega) hx2) ?_
      obtain ⟨g3, HF⟩ := q_gF HF
      have hz := Option.some.inj HF
      subst hz
      exact q_rtz 1 (fun _ _ => rfl) g3
    · rw [if_neg c10] at HF
      by_cases c11 : a2 = 9
      · rw [if_pos c11] at HF
        refine q_sw (o1 := 39) (pcx := 1) (pc' := 40) (loc' := [some (.inr (.inr (0, k, 0))), some (.inr (.inr (3, k1, i1))), some (.inl a2)]) (stk' := []) (h' := h) 2 (fun _ _ => rfl) (q_tsI c11 rfl) rfl ?_
        obtain ⟨x4, hx5, HF⟩ := q_bind HF
        refine q_cll (m' := 146) (av := [.inr (.inr (0, k, 0)), .inr (.inr (3, k1, i1))]) (st' := []) (pc' := 45) (loc' := [some (.inr (.inr (0, k, 0))), some (.inr (.inr (3, k1, i1))), some (.inl a2)]) (h' := h) 3 (fun _ _ => rfl) (eSt_isDying (by omega) hx5) ?_
        obtain ⟨g6, HF⟩ := q_gF HF
        have hz := Option.some.inj HF
        subst hz
        exact q_rtz 1 (fun _ _ => rfl) g6
      · rw [if_neg c11] at HF
        by_cases c12 : a2 = 10
        · rw [if_pos c12] at HF
          refine q_sw (o1 := 45) (pcx := 1) (pc' := 46) (loc' := [some (.inr (.inr (0, k, 0))), some (.inr (.inr (3, k1, i1))), some (.inl a2)]) (stk' := []) (h' := h) 2 (fun _ _ => rfl) (q_tsI c12 rfl) rfl ?_
          obtain ⟨g7, HF⟩ := q_gF HF
          have hz := Option.some.inj HF
          subst hz
          exact q_rtz 3 (fun _ _ => rfl) g7
        · rw [if_neg c12] at HF
          refine q_sw (o1 := 50) (pcx := 1) (pc' := 51) (loc' := [some (.inr (.inr (0, k, 0))), some (.inr (.inr (3, k1, i1))), some (.inl a2)]) (stk' := []) (h' := h) 2 (fun _ _ => rfl) (q_tsD (a := a2) (lo := 7) (hi := 10) (by have z0 := q_neI c9 (a := 7) rfl; have z1 := q_neI c10 (a := 8) rfl; have z2 := q_neI c11 (a := 9) rfl; have z3 := q_neI c12 (a := 10) rfl; omega)) rfl ?_
          obtain ⟨g8, HF⟩ := q_gF HF
          have hz := Option.some.inj HF
          subst hz
          exact q_rtz 3 (fun _ _ => rfl) g8
def St_deadUnits (k : Nat) (h : q_H) : Option Int32 :=
  (q_lp (fun s1 : Int32 × Int32 => (if (6 : Int32) ≤ s1.2 then (some (.inr (s1.1))) else ((St_deadUnitsOf k s1.2 h).bind fun x9 => some (.inl ((s1.1 + x9), (s1.2 + (1 : Int32))))) : Option ((Int32 × Int32) ⊕ Int32))) q_fu (((0 : Int32), (0 : Int32)) : Int32 × Int32)).bind fun z8 => some z8
set_option maxRecDepth 100000 in
set_option maxHeartbeats 4000000 in
theorem eSt_deadUnits {d : Nat} (hd : 4 ≤ d) {k : Nat} {h : q_H} {r : Int32} (HF : St_deadUnits k h = some r) : q_T d 154 [.inr (.inr (0, k, 0))] h (some (.inl r), h) := by
  obtain ⟨d, rfl⟩ : ∃ d', d = d' + 1 := ⟨d - 1, by omega⟩
  refine q_ent q_K154 rfl rfl rfl ?_
  unfold St_deadUnits at HF
  refine q_blk (pc' := 4) (loc' := [some (.inr (.inr (0, k, 0))), some (.inl (0 : Int32)), some (.inl (0 : Int32))]) (stk' := []) (h' := h) 4 (fun _ _ => rfl) ?_
  obtain ⟨r6, hl7, HK4⟩ := q_bind HF
  refine q_lpE (E := fun s1 => q_E d q_K154 4 [some (.inr (.inr (0, k, 0))), some (.inl s1.1), some (.inl s1.2)] [] h (some (.inl r), h)) r6 (fun s1 z8 HF H12 H23 => ?_) _ _ hl7
  refine q_br (P := (6 : Int32) ≤ s1.2) (pcT := 24) (pcF := 10) (loc' := [some (.inr (.inr (0, k, 0))), some (.inl s1.1), some (.inl s1.2)]) (stk' := []) (h' := h) 3 (fun _ _ => rfl) (fun c11 => ?_) (fun c11 => ?_)
  · rw [if_pos c11] at HF
    have hz := Option.some.inj HF
    subst hz
    replace HF := HK4
    rw [← H23 _ rfl] at HF
    have hz := Option.some.inj HF
    subst hz
    exact q_rtn 2 (fun _ _ => rfl)
  · rw [if_neg c11] at HF
    obtain ⟨x9, hx10, HF⟩ := q_bind HF
    refine q_cll (m' := 153) (av := [.inr (.inr (0, k, 0)), .inl s1.2]) (st' := [.inl s1.1]) (pc' := 16) (loc' := [some (.inr (.inr (0, k, 0))), some (.inl s1.1), some (.inl s1.2)]) (h' := h) 4 (fun _ _ => rfl) (eSt_deadUnitsOf (by omega) hx10) ?_
    refine q_blk (pc' := 4) (loc' := [some (.inr (.inr (0, k, 0))), some (.inl (s1.1 + x9)), some (.inl (s1.2 + (1 : Int32)))]) (stk' := []) (h' := h) 4 (fun _ _ => rfl) ?_
    have hz := Option.some.inj HF
    subst hz
    exact H12 ((s1.1 + x9), (s1.2 + (1 : Int32))) rfl
def St_addVersion (k : Nat) (a1 : Int32) (a2 : Int32) (a3 : Int32) (a4 : Int32) (a5 : Int32) (a6 : Int32) (a7 : Int32) (h : q_H) : Option q_H :=
  (Pg_take k a1 h).bind fun x1 => Option.bind (α := q_H) (if x1.1 = 0 then (some (x1.2)) else ((Lg_count k (2 : Int32) (1 : Int32) x1.2).bind fun x7 => some (x7))) (fun p10 => (Pg_at k a1 p10).bind fun x11 => bif q_01 a7 then ((some (q_si (q_si (q_si (q_si (q_si (q_si (q_si p10 3 2 k x11 a2) 3 3 k x11 a3) 3 4 k x11 a4) 3 5 k x11 a5) 3 6 k x11 a6) 3 10 k x11 a7) 3 9 k x11 ((q_si (q_si (q_si (q_si (q_si (q_si p10 3 2 k x11 a2) 3 3 k x11 a3) 3 4 k x11 a4) 3 5 k x11 a5) 3 6 k x11 a6) 3 10 k x11 a7).1 0 8 k 0))).bind fun h13 => if ¬ a7 = 0 then (some ((q_si h13 0 8 k 0 ((h13.1 0 8 k 0) + (1 : Int32))))) else ((Ix_add k a3 a1 (q_si h13 0 8 k 0 ((h13.1 0 8 k 0) + (1 : Int32)))).bind fun x15 => some (x15))) else none)
set_option maxRecDepth 100000 in
set_option maxHeartbeats 4000000 in
theorem eSt_addVersion {d : Nat} (hd : 4 ≤ d) {k : Nat} {a1 : Int32} {a2 : Int32} {a3 : Int32} {a4 : Int32} {a5 : Int32} {a6 : Int32} {a7 : Int32} {h : q_H} {r : q_H} (HF : St_addVersion k a1 a2 a3 a4 a5 a6 a7 h = some r) : q_T d 161 [.inr (.inr (0, k, 0)), .inl a1, .inl a2, .inl a3, .inl a4, .inl a5, .inl a6, .inl a7] h (none, r) := by
  obtain ⟨d, rfl⟩ : ∃ d', d = d' + 1 := ⟨d - 1, by omega⟩
  refine q_ent q_K161 rfl rfl rfl ?_
  unfold St_addVersion at HF
  obtain ⟨x1, hx2, HF⟩ := q_bind HF
  refine q_cll (m' := 101) (av := [.inr (.inr (1, k, 0)), .inl a1]) (st' := []) (pc' := 8) (loc' := [some (.inr (.inr (0, k, 0))), some (.inl a1), some (.inl a2), some (.inl a3), some (.inl a4), some (.inl a5), some (.inl a6), some (.inl a7), none]) (h' := h) 4 (fun _ _ => rfl) (ePg_take (by omega) hx2) ?_
  obtain ⟨z3, HA4, HK5⟩ := q_bind HF
  have hP6 : ∀ p10 : q_H, ((Pg_at k a1 p10).bind fun x11 => bif q_01 a7 then ((some (q_si (q_si (q_si (q_si (q_si (q_si (q_si p10 3 2 k x11 a2) 3 3 k x11 a3) 3 4 k x11 a4) 3 5 k x11 a5) 3 6 k x11 a6) 3 10 k x11 a7) 3 9 k x11 ((q_si (q_si (q_si (q_si (q_si (q_si p10 3 2 k x11 a2) 3 3 k x11 a3) 3 4 k x11 a4) 3 5 k x11 a5) 3 6 k x11 a6) 3 10 k x11 a7).1 0 8 k 0))).bind fun h13 => if ¬ a7 = 0 then (some ((q_si h13 0 8 k 0 ((h13.1 0 8 k 0) + (1 : Int32))))) else ((Ix_add k a3 a1 (q_si h13 0 8 k 0 ((h13.1 0 8 k 0) + (1 : Int32)))).bind fun x15 => some (x15))) else none : Option q_H) = some r → q_E d q_K161 20 [some (.inr (.inr (0, k, 0))), some (.inl a1), some (.inl a2), some (.inl a3), some (.inl a4), some (.inl a5), some (.inl a6), some (.inl a7), none] [] p10 (none, r) := by
    intro p10 HF
    obtain ⟨x11, hx12, HF⟩ := q_bind HF
    refine q_cll (m' := 89) (av := [.inr (.inr (1, k, 0)), .inl a1]) (st' := []) (pc' := 28) (loc' := [some (.inr (.inr (0, k, 0))), some (.inl a1), some (.inl a2), some (.inl a3), some (.inl a4), some (.inl a5), some (.inl a6), some (.inl a7), none]) (h' := p10) 4 (fun _ _ => rfl) (ePg_at (by omega) hx12) ?_
    obtain ⟨g18, HF⟩ := q_gF HF
    refine q_gdp (pc' := 70) (loc' := [some (.inr (.inr (0, k, 0))), some (.inl a1), some (.inl a2), some (.inl a3), some (.inl a4), some (.inl a5), some (.inl a6), some (.inl a7), some (.inr (.inr (3, k, x11)))]) (stk' := []) (h' := (q_si (q_si (q_si (q_si (q_si (q_si p10 3 2 k x11 a2) 3 3 k x11 a3) 3 4 k x11 a4) 3 5 k x11 a5) 3 6 k x11 a6) 3 10 k x11 a7)) 19 (fun _ _ => rfl) g18 ?_
    obtain ⟨h13, e14, HF⟩ := q_bind HF
    refine q_blk (pc' := 79) (loc' := [some (.inr (.inr (0, k, 0))), some (.inl a1), some (.inl a2), some (.inl a3), some (.inl a4), some (.inl a5), some (.inl a6), some (.inl a7), some (.inr (.inr (3, k, x11)))]) (stk' := []) (h' := (q_si (q_si (q_si (q_si (q_si (q_si (q_si p10 3 2 k x11 a2) 3 3 k x11 a3) 3 4 k x11 a4) 3 5 k x11 a5) 3 6 k x11 a6) 3 10 k x11 a7) 3 9 k x11 ((q_si (q_si (q_si (q_si (q_si (q_si p10 3 2 k x11 a2) 3 3 k x11 a3) 3 4 k x11 a4) 3 5 k x11 a5) 3 6 k x11 a6) 3 10 k x11 a7).1 0 8 k 0))) 4 (fun _ _ => rfl) ?_
    rw [Option.some.inj e14]
    refine q_br (P := ¬ a7 = 0) (pcT := 103) (pcF := 94) (loc' := [some (.inr (.inr (0, k, 0))), some (.inl a1), some (.inl a2), some (.inl a3), some (.inl a4), some (.inl a5), some (.inl a6), some (.inl a7), some (.inr (.inr (3, k, x11)))]) (stk' := []) (h' := (q_si h13 0 8 k 0 ((h13.1 0 8 k 0) + (1 : Int32)))) 8 (fun _ _ => rfl) (fun c17 => ?_) (fun c17 => ?_)
    · rw [if_pos c17] at HF
      have hz := Option.some.inj HF
      subst hz
      exact q_rtn 1 (fun _ _ => rfl)
    · rw [if_neg c17] at HF
      obtain ⟨x15, hx16, HF⟩ := q_bind HF
      refine q_cll (m' := 77) (av := [.inr (.inr (11, k, 0)), .inl a3, .inl a1]) (st' := []) (pc' := 103) (loc' := [some (.inr (.inr (0, k, 0))), some (.inl a1), some (.inl a2), some (.inl a3), some (.inl a4), some (.inl a5), some (.inl a6), some (.inl a7), some (.inr (.inr (3, k, x11)))]) (h' := (q_si h13 0 8 k 0 ((h13.1 0 8 k 0) + (1 : Int32)))) 5 (fun _ _ => rfl) (eIx_add (by omega) hx16) ?_
      have hz := Option.some.inj HF
      subst hz
      exact q_rtn 1 (fun _ _ => rfl)
  replace HF := HA4
  refine q_br (P := x1.1 = 0) (pcT := 20) (pcF := 11) (loc' := [some (.inr (.inr (0, k, 0))), some (.inl a1), some (.inl a2), some (.inl a3), some (.inl a4), some (.inl a5), some (.inl a6), some (.inl a7), none]) (stk' := []) (h' := x1.2) 1 (fun _ _ => rfl) (fun c9 => ?_) (fun c9 => ?_)
  · rw [if_pos c9] at HF
    have hz := Option.some.inj HF
    subst hz
    exact hP6 (x1.2) HK5
  · rw [if_neg c9] at HF
    obtain ⟨x7, hx8, HF⟩ := q_bind HF
    refine q_cll (m' := 85) (av := [.inr (.inr (15, k, 0)), .inl (2 : Int32), .inl (1 : Int32)]) (st' := []) (pc' := 20) (loc' := [some (.inr (.inr (0, k, 0))), some (.inl a1), some (.inl a2), some (.inl a3), some (.inl a4), some (.inl a5), some (.inl a6), some (.inl a7), none]) (h' := x1.2) 5 (fun _ _ => rfl) (eLg_count (by omega) hx8) ?_
    have hz := Option.some.inj HF
    subst hz
    exact hP6 (x7) HK5
def St_prunePage (k : Nat) (a1 : Int32) (h : q_H) : Option (Int32 × q_H) :=
  (q_lp (fun s1 : Int32 × Int32 × q_H => (Option.bind (α := (Unit) ⊕ ((Int32 × Int32 × q_H) ⊕ (Int32 × q_H))) (if (10 : Int32) ≤ s1.2.1 then (some (.inr (.inr ((s1.1, s1.2.2))))) else (some (.inl ()))) (fun z9 => match z9 with | .inl p14 => (St_pruneSlot k ((a1 * (10 : Int32)) + s1.2.1) s1.2.2).bind fun x15 => some (.inl ((s1.1 + x15.1), (s1.2.1 + (1 : Int32)), x15.2)) | .inr z9 => some z9) : Option ((Int32 × Int32 × q_H) ⊕ (Int32 × q_H)))) q_fu (((0 : Int32), (0 : Int32), h) : Int32 × Int32 × q_H)).bind fun p18 => (q_lp (fun s19 : Int32 × Int32 × q_H => (Option.bind (α := (Unit) ⊕ ((Int32 × Int32 × q_H) ⊕ (Int32 × q_H))) (if (10 : Int32) ≤ s19.2.1 then (some (.inr (.inr ((s19.1, s19.2.2))))) else (some (.inl ()))) (fun z27 => match z27 with | .inl p32 => (Pg_at k ((a1 * (10 : Int32)) + s19.2.1) s19.2.2).bind fun x33 => Option.bind (α := Int32 × q_H) (if ¬ (s19.2.2.1 3 0 k x33) = (1 : Int32) then (some ((s19.1, s19.2.2))) else (Option.bind (α := (Unit) ⊕ (Int32 × q_H)) (if (s19.2.2.1 3 10 k x33) = 0 then (some (.inr ((s19.1, s19.2.2)))) else (some (.inl ()))) (fun z39 => match z39 with | .inl p44 => (Tn_stateOf k (s19.2.2.1 3 6 k x33) s19.2.2).bind fun x45 => if ¬ x45 = (2 : Int32) then (some ((s19.1, s19.2.2))) else ((Sl_empty k x33 (0 : Int32) s19.2.2).bind fun x47 => some (((s19.1 + (1 : Int32)), x47))) | .inr z39 => some z39))) (fun p52 => some (.inl (p52.1, (s19.2.1 + (1 : Int32)), p52.2))) | .inr z27 => some z27) : Option ((Int32 × Int32 × q_H) ⊕ (Int32 × q_H)))) q_fu ((p18.1, (0 : Int32), p18.2) : Int32 × Int32 × q_H)).bind fun p55 => if p55.1 ≤ 0 then (some ((p55.1, p55.2))) else ((Pg_setClear k a1 (0 : Int32) p55.2).bind fun x56 => (Lg_count k (0 : Int32) (1 : Int32) x56).bind fun x58 => (Lg_count k (1 : Int32) p55.1 x58).bind fun x60 => (Lg_tell k (0 : Int32) a1 x60).bind fun x62 => some ((p55.1, x62)))
set_option maxRecDepth 100000 in
set_option maxHeartbeats 4000000 in
theorem eSt_prunePage {d : Nat} (hd : 4 ≤ d) {k : Nat} {a1 : Int32} {h : q_H} {r : (Int32 × q_H)} (HF : St_prunePage k a1 h = some r) : q_T d 164 [.inr (.inr (0, k, 0)), .inl a1] h (some (.inl r.1), r.2) := by
  obtain ⟨d, rfl⟩ : ∃ d', d = d' + 1 := ⟨d - 1, by omega⟩
  refine q_ent q_K164 rfl rfl rfl ?_
  unfold St_prunePage at HF
  refine q_blk (pc' := 4) (loc' := [some (.inr (.inr (0, k, 0))), some (.inl a1), some (.inl (0 : Int32)), some (.inl (0 : Int32)), none]) (stk' := []) (h' := h) 4 (fun _ _ => rfl) ?_
  obtain ⟨r6, hl7, HK4⟩ := q_bind HF
  have hP5 : ∀ p18 : Int32 × q_H, ((q_lp (fun s19 : Int32 × Int32 × q_H => (Option.bind (α := (Unit) ⊕ ((Int32 × Int32 × q_H) ⊕ (Int32 × q_H))) (if (10 : Int32) ≤ s19.2.1 then (some (.inr (.inr ((s19.1, s19.2.2))))) else (some (.inl ()))) (fun z27 => match z27 with | .inl p32 => (Pg_at k ((a1 * (10 : Int32)) + s19.2.1) s19.2.2).bind fun x33 => Option.bind (α := Int32 × q_H) (if ¬ (s19.2.2.1 3 0 k x33) = (1 : Int32) then (some ((s19.1, s19.2.2))) else (Option.bind (α := (Unit) ⊕ (Int32 × q_H)) (if (s19.2.2.1 3 10 k x33) = 0 then (some (.inr ((s19.1, s19.2.2)))) else (some (.inl ()))) (fun z39 => match z39 with | .inl p44 => (Tn_stateOf k (s19.2.2.1 3 6 k x33) s19.2.2).bind fun x45 => if ¬ x45 = (2 : Int32) then (some ((s19.1, s19.2.2))) else ((Sl_empty k x33 (0 : Int32) s19.2.2).bind fun x47 => some (((s19.1 + (1 : Int32)), x47))) | .inr z39 => some z39))) (fun p52 => some (.inl (p52.1, (s19.2.1 + (1 : Int32)), p52.2))) | .inr z27 => some z27) : Option ((Int32 × Int32 × q_H) ⊕ (Int32 × q_H)))) q_fu ((p18.1, (0 : Int32), p18.2) : Int32 × Int32 × q_H)).bind fun p55 => if p55.1 ≤ 0 then (some ((p55.1, p55.2))) else ((Pg_setClear k a1 (0 : Int32) p55.2).bind fun x56 => (Lg_count k (0 : Int32) (1 : Int32) x56).bind fun x58 => (Lg_count k (1 : Int32) p55.1 x58).bind fun x60 => (Lg_tell k (0 : Int32) a1 x60).bind fun x62 => some ((p55.1, x62))) : Option (Int32 × q_H)) = some r → q_E d q_K164 29 [some (.inr (.inr (0, k, 0))), some (.inl a1), some (.inl p18.1), none, none] [] p18.2 (some (.inl r.1), r.2) := by
    intro p18 HF
    refine q_blk (pc' := 31) (loc' := [some (.inr (.inr (0, k, 0))), some (.inl a1), some (.inl p18.1), some (.inl (0 : Int32)), none]) (stk' := []) (h' := p18.2) 2 (fun _ _ => rfl) ?_
    obtain ⟨r24, hl25, HK22⟩ := q_bind HF
    have hP23 : ∀ p55 : Int32 × q_H, (if p55.1 ≤ 0 then (some ((p55.1, p55.2))) else ((Pg_setClear k a1 (0 : Int32) p55.2).bind fun x56 => (Lg_count k (0 : Int32) (1 : Int32) x56).bind fun x58 => (Lg_count k (1 : Int32) p55.1 x58).bind fun x60 => (Lg_tell k (0 : Int32) a1 x60).bind fun x62 => some ((p55.1, x62))) : Option (Int32 × q_H)) = some r → q_E d q_K164 100 [some (.inr (.inr (0, k, 0))), some (.inl a1), some (.inl p55.1), none, none] [] p55.2 (some (.inl r.1), r.2) := by
      intro p55 HF
      refine q_br (P := p55.1 ≤ 0) (pcT := 140) (pcF := 104) (loc' := [some (.inr (.inr (0, k, 0))), some (.inl a1), some (.inl p55.1), none, none]) (stk' := []) (h' := p55.2) 2 (fun _ _ => rfl) (fun c64 => ?_) (fun c64 => ?_)
      · rw [if_pos c64] at HF
        have hz := Option.some.inj HF
        subst hz
        exact q_rtn 2 (fun _ _ => rfl)
      · rw [if_neg c64] at HF
        obtain ⟨x56, hx57, HF⟩ := q_bind HF
        refine q_cll (m' := 93) (av := [.inr (.inr (1, k, 0)), .inl a1, .inl (0 : Int32)]) (st' := []) (pc' := 113) (loc' := [some (.inr (.inr (0, k, 0))), some (.inl a1), some (.inl p55.1), none, none]) (h' := p55.2) 5 (fun _ _ => rfl) (ePg_setClear (by omega) hx57) ?_
        obtain ⟨x58, hx59, HF⟩ := q_bind HF
        refine q_cll (m' := 85) (av := [.inr (.inr (15, k, 0)), .inl (0 : Int32), .inl (1 : Int32)]) (st' := []) (pc' := 122) (loc' := [some (.inr (.inr (0, k, 0))), some (.inl a1), some (.inl p55.1), none, none]) (h' := x56) 5 (fun _ _ => rfl) (eLg_count (by omega) hx59) ?_
        obtain ⟨x60, hx61, HF⟩ := q_bind HF
        refine q_cll (m' := 85) (av := [.inr (.inr (15, k, 0)), .inl (1 : Int32), .inl p55.1]) (st' := []) (pc' := 131) (loc' := [some (.inr (.inr (0, k, 0))), some (.inl a1), some (.inl p55.1), none, none]) (h' := x58) 5 (fun _ _ => rfl) (eLg_count (by omega) hx61) ?_
        obtain ⟨x62, hx63, HF⟩ := q_bind HF
        refine q_cll (m' := 82) (av := [.inr (.inr (15, k, 0)), .inl (0 : Int32), .inl a1]) (st' := []) (pc' := 140) (loc' := [some (.inr (.inr (0, k, 0))), some (.inl a1), some (.inl p55.1), none, none]) (h' := x60) 5 (fun _ _ => rfl) (eLg_tell (by omega) hx63) ?_
        have hz := Option.some.inj HF
        subst hz
        exact q_rtn 2 (fun _ _ => rfl)
    refine q_lpE (E := fun s19 => q_E d q_K164 31 [some (.inr (.inr (0, k, 0))), some (.inl a1), some (.inl s19.1), some (.inl s19.2.1), none] [] s19.2.2 (some (.inl r.1), r.2)) r24 (fun s19 z26 HF H120 H221 => ?_) _ _ hl25
    obtain ⟨z27, HA28, HK29⟩ := q_bind HF
    have hP30 : ∀ p32 : Unit, ((Pg_at k ((a1 * (10 : Int32)) + s19.2.1) s19.2.2).bind fun x33 => Option.bind (α := Int32 × q_H) (if ¬ (s19.2.2.1 3 0 k x33) = (1 : Int32) then (some ((s19.1, s19.2.2))) else (Option.bind (α := (Unit) ⊕ (Int32 × q_H)) (if (s19.2.2.1 3 10 k x33) = 0 then (some (.inr ((s19.1, s19.2.2)))) else (some (.inl ()))) (fun z39 => match z39 with | .inl p44 => (Tn_stateOf k (s19.2.2.1 3 6 k x33) s19.2.2).bind fun x45 => if ¬ x45 = (2 : Int32) then (some ((s19.1, s19.2.2))) else ((Sl_empty k x33 (0 : Int32) s19.2.2).bind fun x47 => some (((s19.1 + (1 : Int32)), x47))) | .inr z39 => some z39))) (fun p52 => some (.inl (p52.1, (s19.2.1 + (1 : Int32)), p52.2))) : Option ((Int32 × Int32 × q_H) ⊕ (Int32 × q_H))) = some z26 → q_E d q_K164 37 [some (.inr (.inr (0, k, 0))), some (.inl a1), some (.inl s19.1), some (.inl s19.2.1), none] [] s19.2.2 (some (.inl r.1), r.2) := by
      intro p32 HF
      obtain ⟨x33, hx34, HF⟩ := q_bind HF
      refine q_cll (m' := 89) (av := [.inr (.inr (1, k, 0)), .inl ((a1 * (10 : Int32)) + s19.2.1)]) (st' := []) (pc' := 50) (loc' := [some (.inr (.inr (0, k, 0))), some (.inl a1), some (.inl s19.1), some (.inl s19.2.1), none]) (h' := s19.2.2) 8 (fun _ _ => rfl) (ePg_at (by omega) hx34) ?_
      obtain ⟨z35, HA36, HK37⟩ := q_bind HF
      have hP38 : ∀ p52 : Int32 × q_H, (some (.inl (p52.1, (s19.2.1 + (1 : Int32)), p52.2)) : Option ((Int32 × Int32 × q_H) ⊕ (Int32 × q_H))) = some z26 → q_E d q_K164 94 [some (.inr (.inr (0, k, 0))), some (.inl a1), some (.inl p52.1), some (.inl s19.2.1), some (.inr (.inr (3, k, x33)))] [] p52.2 (some (.inl r.1), r.2) := by
        intro p52 HF
        refine q_blk (pc' := 31) (loc' := [some (.inr (.inr (0, k, 0))), some (.inl a1), some (.inl p52.1), some (.inl (s19.2.1 + (1 : Int32))), some (.inr (.inr (3, k, x33)))]) (stk' := []) (h' := p52.2) 2 (fun _ _ => rfl) ?_
        have hz := Option.some.inj HF
        subst hz
        exact q_wk (loc := [some (.inr (.inr (0, k, 0))), some (.inl a1), some (.inl p52.1), some (.inl (s19.2.1 + (1 : Int32))), none]) ⟨Or.inl rfl, ⟨Or.inl rfl, ⟨Or.inl rfl, ⟨Or.inl rfl, ⟨Or.inr ⟨rfl, fun _ h => by cases h⟩, trivial⟩⟩⟩⟩⟩ (H120 (p52.1, (s19.2.1 + (1 : Int32)), p52.2) rfl)
      replace HF := HA36
      refine q_br (P := ¬ (s19.2.2.1 3 0 k x33) = (1 : Int32)) (pcT := 94) (pcF := 61) (loc' := [some (.inr (.inr (0, k, 0))), some (.inl a1), some (.inl s19.1), some (.inl s19.2.1), some (.inr (.inr (3, k, x33)))]) (stk' := []) (h' := s19.2.2) 5 (fun _ _ => rfl) (fun c51 => ?_) (fun c51 => ?_)
      · rw [if_pos c51] at HF
        have hz := Option.some.inj HF
        subst hz
        exact hP38 (s19.1, s19.2.2) HK37
      · rw [if_neg c51] at HF
        obtain ⟨z39, HA40, HK41⟩ := q_bind HF
        have hP42 : ∀ p44 : Unit, ((Tn_stateOf k (s19.2.2.1 3 6 k x33) s19.2.2).bind fun x45 => if ¬ x45 = (2 : Int32) then (some ((s19.1, s19.2.2))) else ((Sl_empty k x33 (0 : Int32) s19.2.2).bind fun x47 => some (((s19.1 + (1 : Int32)), x47))) : Option (Int32 × q_H)) = some z35 → q_E d q_K164 69 [some (.inr (.inr (0, k, 0))), some (.inl a1), some (.inl s19.1), some (.inl s19.2.1), some (.inr (.inr (3, k, x33)))] [] s19.2.2 (some (.inl r.1), r.2) := by
          intro p44 HF
          obtain ⟨x45, hx46, HF⟩ := q_bind HF
          refine q_cll (m' := 106) (av := [.inr (.inr (6, k, 0)), .inl (s19.2.2.1 3 6 k x33)]) (st' := []) (pc' := 81) (loc' := [some (.inr (.inr (0, k, 0))), some (.inl a1), some (.inl s19.1), some (.inl s19.2.1), some (.inr (.inr (3, k, x33)))]) (h' := s19.2.2) 5 (fun _ _ => rfl) (eTn_stateOf (by omega) hx46) ?_
          refine q_br (P := ¬ x45 = (2 : Int32)) (pcT := 94) (pcF := 85) (loc' := [some (.inr (.inr (0, k, 0))), some (.inl a1), some (.inl s19.1), some (.inl s19.2.1), some (.inr (.inr (3, k, x33)))]) (stk' := []) (h' := s19.2.2) 2 (fun _ _ => rfl) (fun c49 => ?_) (fun c49 => ?_)
          · rw [if_pos c49] at HF
            have hz := Option.some.inj HF
            subst hz
            exact hP38 (s19.1, s19.2.2) HK37
          · rw [if_neg c49] at HF
            obtain ⟨x47, hx48, HF⟩ := q_bind HF
            refine q_cll (m' := 63) (av := [.inr (.inr (3, k, x33)), .inl (0 : Int32)]) (st' := []) (pc' := 91) (loc' := [some (.inr (.inr (0, k, 0))), some (.inl a1), some (.inl s19.1), some (.inl s19.2.1), some (.inr (.inr (3, k, x33)))]) (h' := s19.2.2) 3 (fun _ _ => rfl) (eSl_empty (by omega) hx48) ?_
            refine q_blk (pc' := 94) (loc' := [some (.inr (.inr (0, k, 0))), some (.inl a1), some (.inl (s19.1 + (1 : Int32))), some (.inl s19.2.1), some (.inr (.inr (3, k, x33)))]) (stk' := []) (h' := x47) 1 (fun _ _ => rfl) ?_
            have hz := Option.some.inj HF
            subst hz
            exact hP38 ((s19.1 + (1 : Int32)), x47) HK37
        replace HF := HA40
        refine q_br (P := (s19.2.2.1 3 10 k x33) = 0) (pcT := 94) (pcF := 69) (loc' := [some (.inr (.inr (0, k, 0))), some (.inl a1), some (.inl s19.1), some (.inl s19.2.1), some (.inr (.inr (3, k, x33)))]) (stk' := []) (h' := s19.2.2) 3 (fun _ _ => rfl) (fun c43 => ?_) (fun c43 => ?_)
        · rw [if_pos c43] at HF
          have hz := Option.some.inj HF
          subst hz
          replace HF := HK41
          have hz := Option.some.inj HF
          subst hz
          exact hP38 (s19.1, s19.2.2) HK37
        · rw [if_neg c43] at HF
          have hz := Option.some.inj HF
          subst hz
          exact hP42 () HK41
    replace HF := HA28
    refine q_br (P := (10 : Int32) ≤ s19.2.1) (pcT := 100) (pcF := 37) (loc' := [some (.inr (.inr (0, k, 0))), some (.inl a1), some (.inl s19.1), some (.inl s19.2.1), none]) (stk' := []) (h' := s19.2.2) 3 (fun _ _ => rfl) (fun c31 => ?_) (fun c31 => ?_)
    · rw [if_pos c31] at HF
      have hz := Option.some.inj HF
      subst hz
      replace HF := HK29
      have hz := Option.some.inj HF
      subst hz
      rw [← H221 _ rfl] at HK22
      exact q_wk (loc := [some (.inr (.inr (0, k, 0))), some (.inl a1), some (.inl s19.1), none, none]) ⟨Or.inl rfl, ⟨Or.inl rfl, ⟨Or.inl rfl, ⟨Or.inr ⟨rfl, fun _ h => by cases h⟩, ⟨Or.inl rfl, trivial⟩⟩⟩⟩⟩ (hP23 (s19.1, s19.2.2) HK22)
    · rw [if_neg c31] at HF
      have hz := Option.some.inj HF
      subst hz
      exact hP30 () HK29
  refine q_lpE (E := fun s1 => q_E d q_K164 4 [some (.inr (.inr (0, k, 0))), some (.inl a1), some (.inl s1.1), some (.inl s1.2.1), none] [] s1.2.2 (some (.inl r.1), r.2)) r6 (fun s1 z8 HF H12 H23 => ?_) _ _ hl7
  obtain ⟨z9, HA10, HK11⟩ := q_bind HF
  have hP12 : ∀ p14 : Unit, ((St_pruneSlot k ((a1 * (10 : Int32)) + s1.2.1) s1.2.2).bind fun x15 => some (.inl ((s1.1 + x15.1), (s1.2.1 + (1 : Int32)), x15.2)) : Option ((Int32 × Int32 × q_H) ⊕ (Int32 × q_H))) = some z8 → q_E d q_K164 10 [some (.inr (.inr (0, k, 0))), some (.inl a1), some (.inl s1.1), some (.inl s1.2.1), none] [] s1.2.2 (some (.inl r.1), r.2) := by
    intro p14 HF
    obtain ⟨x15, hx16, HF⟩ := q_bind HF
    refine q_cll (m' := 165) (av := [.inr (.inr (0, k, 0)), .inl ((a1 * (10 : Int32)) + s1.2.1)]) (st' := [.inl s1.1]) (pc' := 21) (loc' := [some (.inr (.inr (0, k, 0))), some (.inl a1), some (.inl s1.1), some (.inl s1.2.1), none]) (h' := s1.2.2) 8 (fun _ _ => rfl) (eSt_pruneSlot (by omega) hx16) ?_
    refine q_blk (pc' := 4) (loc' := [some (.inr (.inr (0, k, 0))), some (.inl a1), some (.inl (s1.1 + x15.1)), some (.inl (s1.2.1 + (1 : Int32))), none]) (stk' := []) (h' := x15.2) 4 (fun _ _ => rfl) ?_
    have hz := Option.some.inj HF
    subst hz
    exact H12 ((s1.1 + x15.1), (s1.2.1 + (1 : Int32)), x15.2) rfl
  replace HF := HA10
  refine q_br (P := (10 : Int32) ≤ s1.2.1) (pcT := 29) (pcF := 10) (loc' := [some (.inr (.inr (0, k, 0))), some (.inl a1), some (.inl s1.1), some (.inl s1.2.1), none]) (stk' := []) (h' := s1.2.2) 3 (fun _ _ => rfl) (fun c13 => ?_) (fun c13 => ?_)
  · rw [if_pos c13] at HF
    have hz := Option.some.inj HF
    subst hz
    replace HF := HK11
    have hz := Option.some.inj HF
    subst hz
    rw [← H23 _ rfl] at HK4
    exact q_wk (loc := [some (.inr (.inr (0, k, 0))), some (.inl a1), some (.inl s1.1), none, none]) ⟨Or.inl rfl, ⟨Or.inl rfl, ⟨Or.inl rfl, ⟨Or.inr ⟨rfl, fun _ h => by cases h⟩, ⟨Or.inl rfl, trivial⟩⟩⟩⟩⟩ (hP5 (s1.1, s1.2.2) HK4)
  · rw [if_neg c13] at HF
    have hz := Option.some.inj HF
    subst hz
    exact hP12 () HK11
def St_clearStubs (k : Nat) (h : q_H) : Option (Int32 × q_H) :=
  (q_lp (fun s1 : Int32 × Int32 × Int32 × Int32 × q_H => (Option.bind (α := (Unit) ⊕ ((Int32 × Int32 × Int32 × Int32 × q_H) ⊕ (Int32 × Int32 × Int32 × q_H))) (if (60 : Int32) ≤ s1.2.2.2.1 then (some (.inr (.inr ((s1.1, s1.2.1, s1.2.2.1, s1.2.2.2.2))))) else (some (.inl ()))) (fun z9 => match z9 with | .inl p14 => (Pg_at k s1.2.2.2.1 s1.2.2.2.2).bind fun x15 => Option.bind (α := Int32 × Int32 × Int32 × q_H) (if (s1.2.2.2.2.1 3 0 k x15) = (3 : Int32) then ((Ix_dropAllTo k s1.2.2.2.1 s1.2.2.2.2).bind fun x21 => (Pg_at k s1.2.2.2.1 x21.2).bind fun x23 => (Sl_empty k x23 (0 : Int32) x21.2).bind fun x25 => Option.bind (α := (Unit) ⊕ (Int32 × Int32 × Int32 × q_H)) (if (s1.2.1 + (1 : Int32)) < (x25.1 0 5 k 0) then (some (.inr (((s1.1 + (1 : Int32)), (s1.2.1 + (1 : Int32)), (s1.2.2.1 + x21.1), x25)))) else (some (.inl ()))) (fun z27 => match z27 with | .inl p32 => (St_tellPass k (s1.2.2.1 + x21.1) x25).bind fun x33 => some (((s1.1 + (1 : Int32)), (0 : Int32), (0 : Int32), x33)) | .inr z27 => some z27)) else (some ((s1.1, s1.2.1, s1.2.2.1, s1.2.2.2.2)))) (fun p37 => some (.inl (p37.1, p37.2.1, p37.2.2.1, (s1.2.2.2.1 + (1 : Int32)), p37.2.2.2))) | .inr z9 => some z9) : Option ((Int32 × Int32 × Int32 × Int32 × q_H) ⊕ (Int32 × Int32 × Int32 × q_H)))) q_fu (((0 : Int32), (0 : Int32), (0 : Int32), (0 : Int32), h) : Int32 × Int32 × Int32 × Int32 × q_H)).bind fun p40 => if p40.2.1 ≤ 0 then (some ((p40.1, p40.2.2.2))) else ((St_tellPass k p40.2.2.1 p40.2.2.2).bind fun x41 => some ((p40.1, x41)))
set_option maxRecDepth 100000 in
set_option maxHeartbeats 4000000 in
theorem eSt_clearStubs {d : Nat} (hd : 4 ≤ d) {k : Nat} {h : q_H} {r : (Int32 × q_H)} (HF : St_clearStubs k h = some r) : q_T d 167 [.inr (.inr (0, k, 0))] h (some (.inl r.1), r.2) := by
  obtain ⟨d, rfl⟩ : ∃ d', d = d' + 1 := ⟨d - 1, by omega⟩
  refine q_ent q_K167 rfl rfl rfl ?_
  unfold St_clearStubs at HF
  refine q_blk (pc' := 9) (loc' := [some (.inr (.inr (0, k, 0))), some (.inl (0 : Int32)), some (.inl (0 : Int32)), some (.inl (0 : Int32)), some (.inl (0 : Int32))]) (stk' := []) (h' := h) 8 (fun _ _ => rfl) ?_
  obtain ⟨r6, hl7, HK4⟩ := q_bind HF
  have hP5 : ∀ p40 : Int32 × Int32 × Int32 × q_H, (if p40.2.1 ≤ 0 then (some ((p40.1, p40.2.2.2))) else ((St_tellPass k p40.2.2.1 p40.2.2.2).bind fun x41 => some ((p40.1, x41))) : Option (Int32 × q_H)) = some r → q_E d q_K167 89 [some (.inr (.inr (0, k, 0))), some (.inl p40.1), some (.inl p40.2.1), some (.inl p40.2.2.1), none] [] p40.2.2.2 (some (.inl r.1), r.2) := by
    intro p40 HF
    refine q_br (P := p40.2.1 ≤ 0) (pcT := 98) (pcF := 93) (loc' := [some (.inr (.inr (0, k, 0))), some (.inl p40.1), some (.inl p40.2.1), some (.inl p40.2.2.1), none]) (stk' := []) (h' := p40.2.2.2) 2 (fun _ _ => rfl) (fun c43 => ?_) (fun c43 => ?_)
    · rw [if_pos c43] at HF
      have hz := Option.some.inj HF
      subst hz
      exact q_rtn 2 (fun _ _ => rfl)
    · rw [if_neg c43] at HF
      obtain ⟨x41, hx42, HF⟩ := q_bind HF
      refine q_cll (m' := 168) (av := [.inr (.inr (0, k, 0)), .inl p40.2.2.1]) (st' := []) (pc' := 98) (loc' := [some (.inr (.inr (0, k, 0))), some (.inl p40.1), some (.inl p40.2.1), some (.inl p40.2.2.1), none]) (h' := p40.2.2.2) 3 (fun _ _ => rfl) (eSt_tellPass (by omega) hx42) ?_
      have hz := Option.some.inj HF
      subst hz
      exact q_rtn 2 (fun _ _ => rfl)
  refine q_lpE (E := fun s1 => q_E d q_K167 9 [some (.inr (.inr (0, k, 0))), some (.inl s1.1), some (.inl s1.2.1), some (.inl s1.2.2.1), some (.inl s1.2.2.2.1)] [] s1.2.2.2.2 (some (.inl r.1), r.2)) r6 (fun s1 z8 HF H12 H23 => ?_) _ _ hl7
  obtain ⟨z9, HA10, HK11⟩ := q_bind HF
  have hP12 : ∀ p14 : Unit, ((Pg_at k s1.2.2.2.1 s1.2.2.2.2).bind fun x15 => Option.bind (α := Int32 × Int32 × Int32 × q_H) (if (s1.2.2.2.2.1 3 0 k x15) = (3 : Int32) then ((Ix_dropAllTo k s1.2.2.2.1 s1.2.2.2.2).bind fun x21 => (Pg_at k s1.2.2.2.1 x21.2).bind fun x23 => (Sl_empty k x23 (0 : Int32) x21.2).bind fun x25 => Option.bind (α := (Unit) ⊕ (Int32 × Int32 × Int32 × q_H)) (if (s1.2.1 + (1 : Int32)) < (x25.1 0 5 k 0) then (some (.inr (((s1.1 + (1 : Int32)), (s1.2.1 + (1 : Int32)), (s1.2.2.1 + x21.1), x25)))) else (some (.inl ()))) (fun z27 => match z27 with | .inl p32 => (St_tellPass k (s1.2.2.1 + x21.1) x25).bind fun x33 => some (((s1.1 + (1 : Int32)), (0 : Int32), (0 : Int32), x33)) | .inr z27 => some z27)) else (some ((s1.1, s1.2.1, s1.2.2.1, s1.2.2.2.2)))) (fun p37 => some (.inl (p37.1, p37.2.1, p37.2.2.1, (s1.2.2.2.1 + (1 : Int32)), p37.2.2.2))) : Option ((Int32 × Int32 × Int32 × Int32 × q_H) ⊕ (Int32 × Int32 × Int32 × q_H))) = some z8 → q_E d q_K167 16 [some (.inr (.inr (0, k, 0))), some (.inl s1.1), some (.inl s1.2.1), some (.inl s1.2.2.1), some (.inl s1.2.2.2.1)] [] s1.2.2.2.2 (some (.inl r.1), r.2) := by
    intro p14 HF
    obtain ⟨x15, hx16, HF⟩ := q_bind HF
    refine q_cll (m' := 89) (av := [.inr (.inr (1, k, 0)), .inl s1.2.2.2.1]) (st' := []) (pc' := 25) (loc' := [some (.inr (.inr (0, k, 0))), some (.inl s1.1), some (.inl s1.2.1), some (.inl s1.2.2.1), some (.inl s1.2.2.2.1)]) (h' := s1.2.2.2.2) 4 (fun _ _ => rfl) (ePg_at (by omega) hx16) ?_
    obtain ⟨z17, HA18, HK19⟩ := q_bind HF
    have hP20 : ∀ p37 : Int32 × Int32 × Int32 × q_H, (some (.inl (p37.1, p37.2.1, p37.2.2.1, (s1.2.2.2.1 + (1 : Int32)), p37.2.2.2)) : Option ((Int32 × Int32 × Int32 × Int32 × q_H) ⊕ (Int32 × Int32 × Int32 × q_H))) = some z8 → q_E d q_K167 83 [some (.inr (.inr (0, k, 0))), some (.inl p37.1), some (.inl p37.2.1), some (.inl p37.2.2.1), some (.inl s1.2.2.2.1)] [] p37.2.2.2 (some (.inl r.1), r.2) := by
      intro p37 HF
      refine q_blk (pc' := 9) (loc' := [some (.inr (.inr (0, k, 0))), some (.inl p37.1), some (.inl p37.2.1), some (.inl p37.2.2.1), some (.inl (s1.2.2.2.1 + (1 : Int32)))]) (stk' := []) (h' := p37.2.2.2) 2 (fun _ _ => rfl) ?_
      have hz := Option.some.inj HF
      subst hz
      exact H12 (p37.1, p37.2.1, p37.2.2.1, (s1.2.2.2.1 + (1 : Int32)), p37.2.2.2) rfl
    replace HF := HA18
    refine q_br (P := (s1.2.2.2.2.1 3 0 k x15) = (3 : Int32)) (pcT := 35) (pcF := 32) (loc' := [some (.inr (.inr (0, k, 0))), some (.inl s1.1), some (.inl s1.2.1), some (.inl s1.2.2.1), some (.inl s1.2.2.2.1)]) (stk' := []) (h' := s1.2.2.2.2) 3 (fun _ _ => rfl) (fun c36 => ?_) (fun c36 => ?_)
    · rw [if_pos c36] at HF
      obtain ⟨x21, hx22, HF⟩ := q_bind HF
      refine q_cll (m' := 78) (av := [.inr (.inr (11, k, 0)), .inl s1.2.2.2.1]) (st' := [.inl s1.2.2.1]) (pc' := 45) (loc' := [some (.inr (.inr (0, k, 0))), some (.inl s1.1), some (.inl s1.2.1), some (.inl s1.2.2.1), some (.inl s1.2.2.2.1)]) (h' := s1.2.2.2.2) 5 (fun _ _ => rfl) (eIx_dropAllTo (by omega) hx22) ?_
      obtain ⟨x23, hx24, HF⟩ := q_bind HF
      refine q_cll (m' := 89) (av := [.inr (.inr (1, k, 0)), .inl s1.2.2.2.1]) (st' := []) (pc' := 56) (loc' := [some (.inr (.inr (0, k, 0))), some (.inl s1.1), some (.inl s1.2.1), some (.inl (s1.2.2.1 + x21.1)), some (.inl s1.2.2.2.1)]) (h' := x21.2) 6 (fun _ _ => rfl) (ePg_at (by omega) hx24) ?_
      obtain ⟨x25, hx26, HF⟩ := q_bind HF
      refine q_cll (m' := 63) (av := [.inr (.inr (3, k, x23)), .inl (0 : Int32)]) (st' := []) (pc' := 60) (loc' := [some (.inr (.inr (0, k, 0))), some (.inl s1.1), some (.inl s1.2.1), some (.inl (s1.2.2.1 + x21.1)), some (.inl s1.2.2.2.1)]) (h' := x21.2) 2 (fun _ _ => rfl) (eSl_empty (by omega) hx26) ?_
      obtain ⟨z27, HA28, HK29⟩ := q_bind HF
      have hP30 : ∀ p32 : Unit, ((St_tellPass k (s1.2.2.1 + x21.1) x25).bind fun x33 => some (((s1.1 + (1 : Int32)), (0 : Int32), (0 : Int32), x33)) : Option (Int32 × Int32 × Int32 × q_H)) = some z17 → q_E d q_K167 74 [some (.inr (.inr (0, k, 0))), some (.inl (s1.1 + (1 : Int32))), some (.inl (s1.2.1 + (1 : Int32))), some (.inl (s1.2.2.1 + x21.1)), some (.inl s1.2.2.2.1)] [] x25 (some (.inl r.1), r.2) := by
        intro p32 HF
        obtain ⟨x33, hx34, HF⟩ := q_bind HF
        refine q_cll (m' := 168) (av := [.inr (.inr (0, k, 0)), .inl (s1.2.2.1 + x21.1)]) (st' := []) (pc' := 79) (loc' := [some (.inr (.inr (0, k, 0))), some (.inl (s1.1 + (1 : Int32))), some (.inl (s1.2.1 + (1 : Int32))), some (.inl (s1.2.2.1 + x21.1)), some (.inl s1.2.2.2.1)]) (h' := x25) 3 (fun _ _ => rfl) (eSt_tellPass (by omega) hx34) ?_
        refine q_blk (pc' := 83) (loc' := [some (.inr (.inr (0, k, 0))), some (.inl (s1.1 + (1 : Int32))), some (.inl (0 : Int32)), some (.inl (0 : Int32)), some (.inl s1.2.2.2.1)]) (stk' := []) (h' := x33) 4 (fun _ _ => rfl) ?_
        have hz := Option.some.inj HF
        subst hz
        exact hP20 ((s1.1 + (1 : Int32)), (0 : Int32), (0 : Int32), x33) HK19
      replace HF := HA28
      refine q_br (P := (s1.2.1 + (1 : Int32)) < (x25.1 0 5 k 0)) (pcT := 83) (pcF := 74) (loc' := [some (.inr (.inr (0, k, 0))), some (.inl (s1.1 + (1 : Int32))), some (.inl (s1.2.1 + (1 : Int32))), some (.inl (s1.2.2.1 + x21.1)), some (.inl s1.2.2.2.1)]) (stk' := []) (h' := x25) 6 (fun _ _ => rfl) (fun c31 => ?_) (fun c31 => ?_)
      · rw [if_pos c31] at HF
        have hz := Option.some.inj HF
        subst hz
        replace HF := HK29
        have hz := Option.some.inj HF
        subst hz
        exact hP20 ((s1.1 + (1 : Int32)), (s1.2.1 + (1 : Int32)), (s1.2.2.1 + x21.1), x25) HK19
      · rw [if_neg c31] at HF
        have hz := Option.some.inj HF
        subst hz
        exact hP30 () HK29
    · rw [if_neg c36] at HF
      refine q_blk (pc' := 83) (loc' := [some (.inr (.inr (0, k, 0))), some (.inl s1.1), some (.inl s1.2.1), some (.inl s1.2.2.1), some (.inl s1.2.2.2.1)]) (stk' := []) (h' := s1.2.2.2.2) 1 (fun _ _ => rfl) ?_
      have hz := Option.some.inj HF
      subst hz
      exact hP20 (s1.1, s1.2.1, s1.2.2.1, s1.2.2.2.2) HK19
  replace HF := HA10
  refine q_br (P := (60 : Int32) ≤ s1.2.2.2.1) (pcT := 89) (pcF := 16) (loc' := [some (.inr (.inr (0, k, 0))), some (.inl s1.1), some (.inl s1.2.1), some (.inl s1.2.2.1), some (.inl s1.2.2.2.1)]) (stk' := []) (h' := s1.2.2.2.2) 3 (fun _ _ => rfl) (fun c13 => ?_) (fun c13 => ?_)
  · rw [if_pos c13] at HF
    have hz := Option.some.inj HF
    subst hz
    replace HF := HK11
    have hz := Option.some.inj HF
    subst hz
    rw [← H23 _ rfl] at HK4
    exact q_wk (loc := [some (.inr (.inr (0, k, 0))), some (.inl s1.1), some (.inl s1.2.1), some (.inl s1.2.2.1), none]) ⟨Or.inl rfl, ⟨Or.inl rfl, ⟨Or.inl rfl, ⟨Or.inl rfl, ⟨Or.inr ⟨rfl, fun _ h => by cases h⟩, trivial⟩⟩⟩⟩⟩ (hP5 (s1.1, s1.2.1, s1.2.2.1, s1.2.2.2.2) HK4)
  · rw [if_neg c13] at HF
    have hz := Option.some.inj HF
    subst hz
    exact hP12 () HK11
def St_isClearNow (k : Nat) (a1 : Int32) (h : q_H) : Option Int32 :=
  (q_lp (fun s1 : Int32 => (if (10 : Int32) ≤ s1 then (some (.inr ((1 : Int32)))) else ((Pg_at k ((a1 * (10 : Int32)) + s1) h).bind fun x9 => Option.bind (α := (Unit) ⊕ ((Int32) ⊕ Int32)) (if (h.1 3 0 k x9) = 0 then (some (.inl ())) else (if ¬ (h.1 3 0 k x9) = (1 : Int32) then (some (.inr (.inr ((0 : Int32))))) else ((St_isForAll k k x9 h).bind fun x15 => if ¬ x15 = 0 then (some (.inl ())) else (some (.inr (.inr ((0 : Int32)))))))) (fun z11 => match z11 with | .inl p20 => some (.inl (s1 + (1 : Int32))) | .inr z11 => some z11)) : Option ((Int32) ⊕ Int32))) q_fu ((0 : Int32) : Int32)).bind fun z8 => some z8
set_option maxRecDepth 100000 in
set_option maxHeartbeats 4000000 in
theorem eSt_isClearNow {d : Nat} (hd : 4 ≤ d) {k : Nat} {a1 : Int32} {h : q_H} {r : Int32} (HF : St_isClearNow k a1 h = some r) : q_T d 170 [.inr (.inr (0, k, 0)), .inl a1] h (some (.inl r), h) := by
  obtain ⟨d, rfl⟩ : ∃ d', d = d' + 1 := ⟨d - 1, by omega⟩
  refine q_ent q_K170 rfl rfl rfl ?_
  unfold St_isClearNow at HF
  refine q_blk (pc' := 2) (loc' := [some (.inr (.inr (0, k, 0))), some (.inl a1), some (.inl (0 : Int32)), none]) (stk' := []) (h' := h) 2 (fun _ _ => rfl) ?_
  obtain ⟨r6, hl7, HK4⟩ := q_bind HF
  refine q_lpE (E := fun s1 => q_E d q_K170 2 [some (.inr (.inr (0, k, 0))), some (.inl a1), some (.inl s1), none] [] h (some (.inl r), h)) r6 (fun s1 z8 HF H12 H23 => ?_) _ _ hl7
  refine q_br (P := (10 : Int32) ≤ s1) (pcT := 53) (pcF := 8) (loc' := [some (.inr (.inr (0, k, 0))), some (.inl a1), some (.inl s1), none]) (stk' := []) (h' := h) 3 (fun _ _ => rfl) (fun c22 => ?_) (fun c22 => ?_)
  · rw [if_pos c22] at HF
    have hz := Option.some.inj HF
    subst hz
    replace HF := HK4
    rw [← H23 _ rfl] at HF
    have hz := Option.some.inj HF
    subst hz
    exact q_rtn 2 (fun _ _ => rfl)
  · rw [if_neg c22] at HF
    obtain ⟨x9, hx10, HF⟩ := q_bind HF
    refine q_cll (m' := 89) (av := [.inr (.inr (1, k, 0)), .inl ((a1 * (10 : Int32)) + s1)]) (st' := []) (pc' := 21) (loc' := [some (.inr (.inr (0, k, 0))), some (.inl a1), some (.inl s1), none]) (h' := h) 8 (fun _ _ => rfl) (ePg_at (by omega) hx10) ?_
    obtain ⟨z11, HA12, HK13⟩ := q_bind HF
    have hP14 : ∀ p20 : Unit, (some (.inl (s1 + (1 : Int32))) : Option ((Int32) ⊕ Int32)) = some z8 → q_E d q_K170 47 [some (.inr (.inr (0, k, 0))), some (.inl a1), some (.inl s1), some (.inr (.inr (3, k, x9)))] [] h (some (.inl r), h) := by
      intro p20 HF
      refine q_blk (pc' := 2) (loc' := [some (.inr (.inr (0, k, 0))), some (.inl a1), some (.inl (s1 + (1 : Int32))), some (.inr (.inr (3, k, x9)))]) (stk' := []) (h' := h) 2 (fun _ _ => rfl) ?_
      have hz := Option.some.inj HF
      subst hz
      exact q_wk (loc := [some (.inr (.inr (0, k, 0))), some (.inl a1), some (.inl (s1 + (1 : Int32))), none]) ⟨Or.inl rfl, ⟨Or.inl rfl, ⟨Or.inl rfl, ⟨Or.inr ⟨rfl, fun _ h => by cases h⟩, trivial⟩⟩⟩⟩ (H12 (s1 + (1 : Int32)) rfl)
    replace HF := HA12
    refine q_br (P := (h.1 3 0 k x9) = 0) (pcT := 47) (pcF := 29) (loc' := [some (.inr (.inr (0, k, 0))), some (.inl a1), some (.inl s1), some (.inr (.inr (3, k, x9)))]) (stk' := []) (h' := h) 4 (fun _ _ => rfl) (fun c19 => ?_) (fun c19 => ?_)
    · rw [if_pos c19] at HF
      have hz := Option.some.inj HF
      subst hz
      exact hP14 () HK13
    · rw [if_neg c19] at HF
      refine q_br (P := ¬ (h.1 3 0 k x9) = (1 : Int32)) (pcT := 45) (pcF := 37) (loc' := [some (.inr (.inr (0, k, 0))), some (.inl a1), some (.inl s1), some (.inr (.inr (3, k, x9)))]) (stk' := []) (h' := h) 4 (fun _ _ => rfl) (fun c18 => ?_) (fun c18 => ?_)
      · rw [if_pos c18] at HF
        have hz := Option.some.inj HF
        subst hz
        replace HF := HK13
        have hz := Option.some.inj HF
        subst hz
        replace HF := HK4
        rw [← H23 _ rfl] at HF
        have hz := Option.some.inj HF
        subst hz
        exact q_rtn 2 (fun _ _ => rfl)
      · rw [if_neg c18] at HF
        obtain ⟨x15, hx16, HF⟩ := q_bind HF
        refine q_cll (m' := 171) (av := [.inr (.inr (0, k, 0)), .inr (.inr (3, k, x9))]) (st' := []) (pc' := 42) (loc' := [some (.inr (.inr (0, k, 0))), some (.inl a1), some (.inl s1), some (.inr (.inr (3, k, x9)))]) (h' := h) 3 (fun _ _ => rfl) (eSt_isForAll (by omega) hx16) ?_
        refine q_br (P := ¬ x15 = 0) (pcT := 47) (pcF := 45) (loc' := [some (.inr (.inr (0, k, 0))), some (.inl a1), some (.inl s1), some (.inr (.inr (3, k, x9)))]) (stk' := []) (h' := h) 1 (fun _ _ => rfl) (fun c17 => ?_) (fun c17 => ?_)
        · rw [if_pos c17] at HF
          have hz := Option.some.inj HF
          subst hz
          exact hP14 () HK13
        · rw [if_neg c17] at HF
          have hz := Option.some.inj HF
          subst hz
          replace HF := HK13
          have hz := Option.some.inj HF
          subst hz
          replace HF := HK4
          rw [← H23 _ rfl] at HF
          have hz := Option.some.inj HF
          subst hz
          exact q_rtn 2 (fun _ _ => rfl)
