def St_vacuumAll (k : Nat) (h : q_H) : Option (Int32 × q_H) :=
  (q_lp (fun s1 : Int32 × q_H => (if (6 : Int32) ≤ s1.1 then (some (.inr (s1.2))) else ((St_prunePage k s1.1 s1.2).bind fun x9 => some (.inl ((s1.1 + (1 : Int32)), x9.2))) : Option ((Int32 × q_H) ⊕ (q_H)))) q_fu (((0 : Int32), h) : Int32 × q_H)).bind fun p12 => (St_clearStubs k p12).bind fun x13 => (q_lp (fun s15 : Int32 × q_H => (if (6 : Int32) ≤ s15.1 then (some (.inr (s15.2))) else ((Pg_dropUnusedBehind k s15.1 s15.2).bind fun x23 => some (.inl ((s15.1 + (1 : Int32)), x23))) : Option ((Int32 × q_H) ⊕ (q_H)))) q_fu (((0 : Int32), x13.2) : Int32 × q_H)).bind fun p26 => (St_freezeOld k p26).bind fun x27 => (q_lp (fun s29 : Int32 × q_H => (if (6 : Int32) ≤ s29.1 then (some (.inr ((x13.1, s29.2)))) else ((St_isClearNow k s29.1 s29.2).bind fun x37 => (Pg_setClear k s29.1 x37 s29.2).bind fun x39 => some (.inl ((s29.1 + (1 : Int32)), x39))) : Option ((Int32 × q_H) ⊕ (Int32 × q_H)))) q_fu (((0 : Int32), x27) : Int32 × q_H)).bind fun z36 => some z36
set_option maxRecDepth 100000 in
set_option maxHeartbeats 4000000 in
theorem eSt_vacuumAll {d : Nat} (hd : 5 ≤ d) {k : Nat} {h : q_H} {r : (Int32 × q_H)} (HF : St_vacuumAll k h = some r) : q_T d 166 [.inr (.inr (0, k, 0))] h (some (.inl r.1), r.2) := by
  obtain ⟨d, rfl⟩ : ∃ d', d = d' + 1 := ⟨d - 1, by omega⟩
  refine q_ent q_K166 rfl rfl rfl ?_
  unfold St_vacuumAll at HF
  refine q_blk (pc' := 2) (loc' := [some (.inr (.inr (0, k, 0))), some (.inl (0 : Int32)), none]) (stk' := []) (h' := h) 2 (fun _ _ => rfl) ?_
  obtain ⟨r6, hl7, HK4⟩ := q_bind HF
  have hP5 : ∀ p12 : q_H, ((St_clearStubs k p12).bind fun x13 => (q_lp (fun s15 : Int32 × q_H => (if (6 : Int32) ≤ s15.1 then (some (.inr (s15.2))) else ((Pg_dropUnusedBehind k s15.1 s15.2).bind fun x23 => some (.inl ((s15.1 + (1 : Int32)), x23))) : Option ((Int32 × q_H) ⊕ (q_H)))) q_fu (((0 : Int32), x13.2) : Int32 × q_H)).bind fun p26 => (St_freezeOld k p26).bind fun x27 => (q_lp (fun s29 : Int32 × q_H => (if (6 : Int32) ≤ s29.1 then (some (.inr ((x13.1, s29.2)))) else ((St_isClearNow k s29.1 s29.2).bind fun x37 => (Pg_setClear k s29.1 x37 s29.2).bind fun x39 => some (.inl ((s29.1 + (1 : Int32)), x39))) : Option ((Int32 × q_H) ⊕ (Int32 × q_H)))) q_fu (((0 : Int32), x27) : Int32 × q_H)).bind fun z36 => some z36 : Option (Int32 × q_H)) = some r → q_E d q_K166 20 [some (.inr (.inr (0, k, 0))), none, none] [] p12 (some (.inl r.1), r.2) := by
    intro p12 HF
    obtain ⟨x13, hx14, HF⟩ := q_bind HF
    refine q_cll (m' := 167) (av := [.inr (.inr (0, k, 0))]) (st' := []) (pc' := 24) (loc' := [some (.inr (.inr (0, k, 0))), none, none]) (h' := p12) 2 (fun _ _ => rfl) (eSt_clearStubs (by omega) hx14) ?_
    refine q_blk (pc' := 27) (loc' := [some (.inr (.inr (0, k, 0))), some (.inl x13.1), some (.inl (0 : Int32))]) (stk' := []) (h' := x13.2) 3 (fun _ _ => rfl) ?_
    obtain ⟨r20, hl21, HK18⟩ := q_bind HF
    have hP19 : ∀ p26 : q_H, ((St_freezeOld k p26).bind fun x27 => (q_lp (fun s29 : Int32 × q_H => (if (6 : Int32) ≤ s29.1 then (some (.inr ((x13.1, s29.2)))) else ((St_isClearNow k s29.1 s29.2).bind fun x37 => (Pg_setClear k s29.1 x37 s29.2).bind fun x39 => some (.inl ((s29.1 + (1 : Int32)), x39))) : Option ((Int32 × q_H) ⊕ (Int32 × q_H)))) q_fu (((0 : Int32), x27) : Int32 × q_H)).bind fun z36 => some z36 : Option (Int32 × q_H)) = some r → q_E d q_K166 47 [some (.inr (.inr (0, k, 0))), some (.inl x13.1), none] [] p26 (some (.inl r.1), r.2) := by
      intro p26 HF
      obtain ⟨x27, hx28, HF⟩ := q_bind HF
      refine q_cll (m' := 169) (av := [.inr (.inr (0, k, 0))]) (st' := []) (pc' := 51) (loc' := [some (.inr (.inr (0, k, 0))), some (.inl x13.1), none]) (h' := p26) 2 (fun _ _ => rfl) (eSt_freezeOld (by omega) hx28) ?_
      refine q_blk (pc' := 53) (loc' := [some (.inr (.inr (0, k, 0))), some (.inl x13.1), some (.inl (0 : Int32))]) (stk' := []) (h' := x27) 2 (fun _ _ => rfl) ?_
      obtain ⟨r34, hl35, HK32⟩ := q_bind HF
      refine q_lpE (E := fun s29 => q_E d q_K166 53 [some (.inr (.inr (0, k, 0))), some (.inl x13.1), some (.inl s29.1)] [] s29.2 (some (.inl r.1), r.2)) r34 (fun s29 z36 HF H130 H231 => ?_) _ _ hl35
      refine q_br (P := (6 : Int32) ≤ s29.1) (pcT := 78) (pcF := 59) (loc' := [some (.inr (.inr (0, k, 0))), some (.inl x13.1), some (.inl s29.1)]) (stk' := []) (h' := s29.2) 3 (fun _ _ => rfl) (fun c41 => ?_) (fun c41 => ?_)
      · rw [if_pos c41] at HF
        have hz := Option.some.inj HF
        subst hz
        replace HF := HK32
        rw [← H231 _ rfl] at HF
        have hz := Option.some.inj HF
        subst hz
        exact q_rtn 2 (fun _ _ => rfl)
      · rw [if_neg c41] at HF
        obtain ⟨x37, hx38, HF⟩ := q_bind HF
        refine q_cll (m' := 170) (av := [.inr (.inr (0, k, 0)), .inl s29.1]) (st' := [.inl s29.1, .inr (.inr (1, k, 0))]) (pc' := 69) (loc' := [some (.inr (.inr (0, k, 0))), some (.inl x13.1), some (.inl s29.1)]) (h' := s29.2) 6 (fun _ _ => rfl) (eSt_isClearNow (by omega) hx38) ?_
        obtain ⟨x39, hx40, HF⟩ := q_bind HF
        refine q_cll (m' := 93) (av := [.inr (.inr (1, k, 0)), .inl s29.1, .inl x37]) (st' := []) (pc' := 72) (loc' := [some (.inr (.inr (0, k, 0))), some (.inl x13.1), some (.inl s29.1)]) (h' := s29.2) 1 (fun _ _ => rfl) (ePg_setClear (by omega) hx40) ?_
        refine q_blk (pc' := 53) (loc' := [some (.inr (.inr (0, k, 0))), some (.inl x13.1), some (.inl (s29.1 + (1 : Int32)))]) (stk' := []) (h' := x39) 2 (fun _ _ => rfl) ?_
        have hz := Option.some.inj HF
        subst hz
        exact H130 ((s29.1 + (1 : Int32)), x39) rfl
    refine q_lpE (E := fun s15 => q_E d q_K166 27 [some (.inr (.inr (0, k, 0))), some (.inl x13.1), some (.inl s15.1)] [] s15.2 (some (.inl r.1), r.2)) r20 (fun s15 z22 HF H116 H217 => ?_) _ _ hl21
    refine q_br (P := (6 : Int32) ≤ s15.1) (pcT := 47) (pcF := 33) (loc' := [some (.inr (.inr (0, k, 0))), some (.inl x13.1), some (.inl s15.1)]) (stk' := []) (h' := s15.2) 3 (fun _ _ => rfl) (fun c25 => ?_) (fun c25 => ?_)
    · rw [if_pos c25] at HF
      have hz := Option.some.inj HF
      subst hz
      rw [← H217 _ rfl] at HK18
      exact q_wk (loc := [some (.inr (.inr (0, k, 0))), some (.inl x13.1), none]) ⟨Or.inl rfl, ⟨Or.inl rfl, ⟨Or.inr ⟨rfl, fun _ h => by cases h⟩, trivial⟩⟩⟩ (hP19 (s15.2) HK18)
    · rw [if_neg c25] at HF
      obtain ⟨x23, hx24, HF⟩ := q_bind HF
      refine q_cll (m' := 102) (av := [.inr (.inr (1, k, 0)), .inl s15.1]) (st' := []) (pc' := 41) (loc' := [some (.inr (.inr (0, k, 0))), some (.inl x13.1), some (.inl s15.1)]) (h' := s15.2) 4 (fun _ _ => rfl) (ePg_dropUnusedBehind (by omega) hx24) ?_
      refine q_blk (pc' := 27) (loc' := [some (.inr (.inr (0, k, 0))), some (.inl x13.1), some (.inl (s15.1 + (1 : Int32)))]) (stk' := []) (h' := x23) 2 (fun _ _ => rfl) ?_
      have hz := Option.some.inj HF
      subst hz
      exact H116 ((s15.1 + (1 : Int32)), x23) rfl
  refine q_lpE (E := fun s1 => q_E d q_K166 2 [some (.inr (.inr (0, k, 0))), some (.inl s1.1), none] [] s1.2 (some (.inl r.1), r.2)) r6 (fun s1 z8 HF H12 H23 => ?_) _ _ hl7
  refine q_br (P := (6 : Int32) ≤ s1.1) (pcT := 20) (pcF := 8) (loc' := [some (.inr (.inr (0, k, 0))), some (.inl s1.1), none]) (stk' := []) (h' := s1.2) 3 (fun _ _ => rfl) (fun c11 => ?_) (fun c11 => ?_)
  · rw [if_pos c11] at HF
    have hz := Option.some.inj HF
    subst hz
    rw [← H23 _ rfl] at HK4
    exact q_wk (loc := [some (.inr (.inr (0, k, 0))), none, none]) ⟨Or.inl rfl, ⟨Or.inr ⟨rfl, fun _ h => by cases h⟩, ⟨Or.inl rfl, trivial⟩⟩⟩ (hP5 (s1.2) HK4)
  · rw [if_neg c11] at HF
    obtain ⟨x9, hx10, HF⟩ := q_bind HF
    refine q_cll (m' := 164) (av := [.inr (.inr (0, k, 0)), .inl s1.1]) (st' := []) (pc' := 13) (loc' := [some (.inr (.inr (0, k, 0))), some (.inl s1.1), none]) (h' := s1.2) 3 (fun _ _ => rfl) (eSt_prunePage (by omega) hx10) ?_
    refine q_blk (pc' := 2) (loc' := [some (.inr (.inr (0, k, 0))), some (.inl (s1.1 + (1 : Int32))), none]) (stk' := []) (h' := x9.2) 3 (fun _ _ => rfl) ?_
    have hz := Option.some.inj HF
    subst hz
    exact H12 ((s1.1 + (1 : Int32)), x9.2) rfl
def St_layAnew (k : Nat) (k1 : Nat) (h : q_H) : Option (Int32 × q_H) :=
  (Pg_strip k h).bind fun x1 => (St_lastingBehind k1 (-1 : Int32) (-1 : Int32) (q_si x1 11 3 k 0 (0 : Int32))).bind fun x3 => (q_lp (fun s5 : Int32 × Int32 × q_H => (if (60 : Int32) ≤ s5.2.1 then (some (.inr (((1 : Int32), s5.2.2)))) else (if s5.1 = (-1 : Int32) then (some (.inr (((1 : Int32), s5.2.2)))) else ((Pg_at k1 s5.1 s5.2.2).bind fun x13 => (Pg_firstPlace k (s5.2.2.1 3 5 k1 x13) s5.2.2).bind fun x15 => if ¬ x15 = (-1 : Int32) then ((Pg_take k x15 s5.2.2).bind fun x17 => (St_layDown k k1 x13 x15 x17.2).bind fun x19 => (St_lastingBehind k1 (x19.1 3 3 k1 x13) (x19.1 3 2 k1 x13) x19).bind fun x21 => some (.inl (x21, (s5.2.1 + (1 : Int32)), x19))) else (some (.inr (((0 : Int32), s5.2.2)))))) : Option ((Int32 × Int32 × q_H) ⊕ (Int32 × q_H)))) q_fu ((x3, (0 : Int32), (q_si x1 11 3 k 0 (0 : Int32))) : Int32 × Int32 × q_H)).bind fun z12 => some z12
set_option maxRecDepth 100000 in
set_option maxHeartbeats 4000000 in
theorem eSt_layAnew {d : Nat} (hd : 5 ≤ d) {k : Nat} {k1 : Nat} {h : q_H} {r : (Int32 × q_H)} (HF : St_layAnew k k1 h = some r) : q_T d 176 [.inr (.inr (0, k, 0)), .inr (.inr (0, k1, 0))] h (some (.inl r.1), r.2) := by
  obtain ⟨d, rfl⟩ : ∃ d', d = d' + 1 := ⟨d - 1, by omega⟩
  refine q_ent q_K176 rfl rfl rfl ?_
  unfold St_layAnew at HF
  obtain ⟨x1, hx2, HF⟩ := q_bind HF
  refine q_cll (m' := 88) (av := [.inr (.inr (1, k, 0))]) (st' := []) (pc' := 7) (loc' := [some (.inr (.inr (0, k, 0))), some (.inr (.inr (0, k1, 0))), none, none, none, none]) (h' := h) 3 (fun _ _ => rfl) (ePg_strip (by omega) hx2) ?_
  obtain ⟨x3, hx4, HF⟩ := q_bind HF
  refine q_cll (m' := 178) (av := [.inr (.inr (0, k1, 0)), .inl (-1 : Int32), .inl (-1 : Int32)]) (st' := []) (pc' := 21) (loc' := [some (.inr (.inr (0, k, 0))), some (.inr (.inr (0, k1, 0))), none, none, none, none]) (h' := (q_si x1 11 3 k 0 (0 : Int32))) 8 (fun _ _ => rfl) (eSt_lastingBehind (by omega) hx4) ?_
  refine q_blk (pc' := 24) (loc' := [some (.inr (.inr (0, k, 0))), some (.inr (.inr (0, k1, 0))), some (.inl x3), some (.inl (0 : Int32)), none, none]) (stk' := []) (h' := (q_si x1 11 3 k 0 (0 : Int32))) 3 (fun _ _ => rfl) ?_
  obtain ⟨r10, hl11, HK8⟩ := q_bind HF
  refine q_lpE (E := fun s5 => q_E d q_K176 24 [some (.inr (.inr (0, k, 0))), some (.inr (.inr (0, k1, 0))), some (.inl s5.1), some (.inl s5.2.1), none, none] [] s5.2.2 (some (.inl r.1), r.2)) r10 (fun s5 z12 HF H16 H27 => ?_) _ _ hl11
  refine q_br (P := (60 : Int32) ≤ s5.2.1) (pcT := 106) (pcF := 30) (loc' := [some (.inr (.inr (0, k, 0))), some (.inr (.inr (0, k1, 0))), some (.inl s5.1), some (.inl s5.2.1), none, none]) (stk' := []) (h' := s5.2.2) 3 (fun _ _ => rfl) (fun c25 => ?_) (fun c25 => ?_)
  · rw [if_pos c25] at HF
    have hz := Option.some.inj HF
    subst hz
    replace HF := HK8
    rw [← H27 _ rfl] at HF
    have hz := Option.some.inj HF
    subst hz
    exact q_rtn 2 (fun _ _ => rfl)
  · rw [if_neg c25] at HF
    refine q_br (P := s5.1 = (-1 : Int32)) (pcT := 106) (pcF := 35) (loc' := [some (.inr (.inr (0, k, 0))), some (.inr (.inr (0, k1, 0))), some (.inl s5.1), some (.inl s5.2.1), none, none]) (stk' := []) (h' := s5.2.2) 3 (fun _ _ => rfl) (fun c24 => ?_) (fun c24 => ?_)
    · rw [if_pos c24] at HF
      have hz := Option.some.inj HF
      subst hz
      replace HF := HK8
      rw [← H27 _ rfl] at HF
      have hz := Option.some.inj HF
      subst hz
      exact q_rtn 2 (fun _ _ => rfl)
    · rw [if_neg c24] at HF
      obtain ⟨x13, hx14, HF⟩ := q_bind HF
      refine q_cll (m' := 89) (av := [.inr (.inr (1, k1, 0)), .inl s5.1]) (st' := []) (pc' := 43) (loc' := [some (.inr (.inr (0, k, 0))), some (.inr (.inr (0, k1, 0))), some (.inl s5.1), some (.inl s5.2.1), none, none]) (h' := s5.2.2) 4 (fun _ _ => rfl) (ePg_at (by omega) hx14) ?_
      obtain ⟨x15, hx16, HF⟩ := q_bind HF
      refine q_cll (m' := 100) (av := [.inr (.inr (1, k, 0)), .inl (s5.2.2.1 3 5 k1 x13)]) (st' := []) (pc' := 57) (loc' := [some (.inr (.inr (0, k, 0))), some (.inr (.inr (0, k1, 0))), some (.inl s5.1), some (.inl s5.2.1), some (.inr (.inr (3, k1, x13))), none]) (h' := s5.2.2) 6 (fun _ _ => rfl) (ePg_firstPlace (by omega) hx16) ?_
      refine q_br (P := ¬ x15 = (-1 : Int32)) (pcT := 67) (pcF := 65) (loc' := [some (.inr (.inr (0, k, 0))), some (.inr (.inr (0, k1, 0))), some (.inl s5.1), some (.inl s5.2.1), some (.inr (.inr (3, k1, x13))), some (.inl x15)]) (stk' := []) (h' := s5.2.2) 4 (fun _ _ => rfl) (fun c23 => ?_) (fun c23 => ?_)
      · rw [if_pos c23] at HF
        obtain ⟨x17, hx18, HF⟩ := q_bind HF
        refine q_cll (m' := 101) (av := [.inr (.inr (1, k, 0)), .inl x15]) (st' := []) (pc' := 76) (loc' := [some (.inr (.inr (0, k, 0))), some (.inr (.inr (0, k1, 0))), some (.inl s5.1), some (.inl s5.2.1), some (.inr (.inr (3, k1, x13))), some (.inl x15)]) (h' := s5.2.2) 4 (fun _ _ => rfl) (ePg_take (by omega) hx18) ?_
        obtain ⟨x19, hx20, HF⟩ := q_bind HF
        refine q_cll (m' := 177) (av := [.inr (.inr (0, k, 0)), .inr (.inr (3, k1, x13)), .inl x15]) (st' := []) (pc' := 85) (loc' := [some (.inr (.inr (0, k, 0))), some (.inr (.inr (0, k1, 0))), some (.inl s5.1), some (.inl s5.2.1), some (.inr (.inr (3, k1, x13))), some (.inl x15)]) (h' := x17.2) 5 (fun _ _ => rfl) (eSt_layDown (by omega) hx20) ?_
        obtain ⟨x21, hx22, HF⟩ := q_bind HF
        refine q_cll (m' := 178) (av := [.inr (.inr (0, k1, 0)), .inl (x19.1 3 3 k1 x13), .inl (x19.1 3 2 k1 x13)]) (st' := []) (pc' := 99) (loc' := [some (.inr (.inr (0, k, 0))), some (.inr (.inr (0, k1, 0))), some (.inl s5.1), some (.inl s5.2.1), some (.inr (.inr (3, k1, x13))), some (.inl x15)]) (h' := x19) 6 (fun _ _ => rfl) (eSt_lastingBehind (by omega) hx22) ?_
        refine q_blk (pc' := 24) (loc' := [some (.inr (.inr (0, k, 0))), some (.inr (.inr (0, k1, 0))), some (.inl x21), some (.inl (s5.2.1 + (1 : Int32))), some (.inr (.inr (3, k1, x13))), some (.inl x15)]) (stk' := []) (h' := x19) 3 (fun _ _ => rfl) ?_
        have hz := Option.some.inj HF
        subst hz
        exact q_wk (loc := [some (.inr (.inr (0, k, 0))), some (.inr (.inr (0, k1, 0))), some (.inl x21), some (.inl (s5.2.1 + (1 : Int32))), none, none]) ⟨Or.inl rfl, ⟨Or.inl rfl, ⟨Or.inl rfl, ⟨Or.inl rfl, ⟨Or.inr ⟨rfl, fun _ h => by cases h⟩, ⟨Or.inr ⟨rfl, fun _ h => by cases h⟩, trivial⟩⟩⟩⟩⟩⟩ (H16 (x21, (s5.2.1 + (1 : Int32)), x19) rfl)
      · rw [if_neg c23] at HF
        have hz := Option.some.inj HF
        subst hz
        replace HF := HK8
        rw [← H27 _ rfl] at HF
        have hz := Option.some.inj HF
        subst hz
        exact q_rtn 2 (fun _ _ => rfl)
def Mo_firstPlace (a1 : Int32) (h : q_H) : Option Int32 :=
  (q_lp (fun s1 : Int32 => (if (6 : Int32) ≤ s1 then (some (.inr ((-1 : Int32)))) else ((Mo_placeIn s1 a1 h).bind fun x9 => if x9 < 0 then (some (.inl (s1 + (1 : Int32)))) else (some (.inr (x9)))) : Option ((Int32) ⊕ Int32))) q_fu ((0 : Int32) : Int32)).bind fun z8 => some z8
set_option maxRecDepth 100000 in
set_option maxHeartbeats 4000000 in
theorem eMo_firstPlace {d : Nat} (hd : 5 ≤ d) {a1 : Int32} {h : q_H} {r : Int32} (HF : Mo_firstPlace a1 h = some r) : q_T d 194 [.inr (.inr (30, 7, 0)), .inl a1] h (some (.inl r), h) := by
  obtain ⟨d, rfl⟩ : ∃ d', d = d' + 1 := ⟨d - 1, by omega⟩
  refine q_ent q_K194 rfl rfl rfl ?_
  unfold Mo_firstPlace at HF
  refine q_blk (pc' := 2) (loc' := [some (.inr (.inr (30, 7, 0))), some (.inl a1), some (.inl (0 : Int32)), none]) (stk' := []) (h' := h) 2 (fun _ _ => rfl) ?_
  obtain ⟨r6, hl7, HK4⟩ := q_bind HF
  refine q_lpE (E := fun s1 => q_E d q_K194 2 [some (.inr (.inr (30, 7, 0))), some (.inl a1), some (.inl s1), none] [] h (some (.inl r), h)) r6 (fun s1 z8 HF H12 H23 => ?_) _ _ hl7
  refine q_br (P := (6 : Int32) ≤ s1) (pcT := 27) (pcF := 8) (loc' := [some (.inr (.inr (30, 7, 0))), some (.inl a1), some (.inl s1), none]) (stk' := []) (h' := h) 3 (fun _ _ => rfl) (fun c12 => ?_) (fun c12 => ?_)
  · rw [if_pos c12] at HF
    have hz := Option.some.inj HF
    subst hz
    replace HF := HK4
    rw [← H23 _ rfl] at HF
    have hz := Option.some.inj HF
    subst hz
    exact q_rtn 2 (fun _ _ => rfl)
  · rw [if_neg c12] at HF
    obtain ⟨x9, hx10, HF⟩ := q_bind HF
    refine q_cll (m' := 193) (av := [.inr (.inr (30, 7, 0)), .inl s1, .inl a1]) (st' := []) (pc' := 14) (loc' := [some (.inr (.inr (30, 7, 0))), some (.inl a1), some (.inl s1), none]) (h' := h) 4 (fun _ _ => rfl) (eMo_placeIn (by omega) hx10) ?_
    refine q_br (P := x9 < 0) (pcT := 21) (pcF := 19) (loc' := [some (.inr (.inr (30, 7, 0))), some (.inl a1), some (.inl s1), some (.inl x9)]) (stk' := []) (h' := h) 3 (fun _ _ => rfl) (fun c11 => ?_) (fun c11 => ?_)
    · rw [if_pos c11] at HF
      refine q_blk (pc' := 2) (loc' := [some (.inr (.inr (30, 7, 0))), some (.inl a1), some (.inl (s1 + (1 : Int32))), some (.inl x9)]) (stk' := []) (h' := h) 2 (fun _ _ => rfl) ?_
      have hz := Option.some.inj HF
      subst hz
      exact q_wk (loc := [some (.inr (.inr (30, 7, 0))), some (.inl a1), some (.inl (s1 + (1 : Int32))), none]) ⟨Or.inl rfl, ⟨Or.inl rfl, ⟨Or.inl rfl, ⟨Or.inr ⟨rfl, fun _ h => by cases h⟩, trivial⟩⟩⟩⟩ (H12 (s1 + (1 : Int32)) rfl)
    · rw [if_neg c11] at HF
      have hz := Option.some.inj HF
      subst hz
      replace HF := HK4
      rw [← H23 _ rfl] at HF
      have hz := Option.some.inj HF
      subst hz
      exact q_rtn 2 (fun _ _ => rfl)
def Mo_isDying (a1 : Int32) (h : q_H) : Option Int32 :=
  (Mo_enderOf a1 h).bind fun x1 => if x1 ≤ 0 then (some ((0 : Int32))) else ((Mo_enderOf a1 h).bind fun x3 => (Mo_stateOf x3 h).bind fun x5 => if ¬ x5 = (1 : Int32) then (some ((0 : Int32))) else ((Mo_horizon h).bind fun x7 => (Mo_isDead a1 x7 h).bind fun x9 => if ¬ x9 = 0 then (some ((0 : Int32))) else (some ((1 : Int32)))))
set_option maxRecDepth 100000 in
set_option maxHeartbeats 4000000 in
theorem eMo_isDying {d : Nat} (hd : 5 ≤ d) {a1 : Int32} {h : q_H} {r : Int32} (HF : Mo_isDying a1 h = some r) : q_T d 208 [.inr (.inr (30, 7, 0)), .inl a1] h (some (.inl r), h) := by
  obtain ⟨d, rfl⟩ : ∃ d', d = d' + 1 := ⟨d - 1, by omega⟩
  refine q_ent q_K208 rfl rfl rfl ?_
  unfold Mo_isDying at HF
  obtain ⟨x1, hx2, HF⟩ := q_bind HF
  refine q_cll (m' := 206) (av := [.inr (.inr (30, 7, 0)), .inl a1]) (st' := []) (pc' := 5) (loc' := [some (.inr (.inr (30, 7, 0))), some (.inl a1)]) (h' := h) 3 (fun _ _ => rfl) (eMo_enderOf (by omega) hx2) ?_
  refine q_br (P := x1 ≤ 0) (pcT := 37) (pcF := 8) (loc' := [some (.inr (.inr (30, 7, 0))), some (.inl a1)]) (stk' := []) (h' := h) 1 (fun _ _ => rfl) (fun c13 => ?_) (fun c13 => ?_)
  · rw [if_pos c13] at HF
    have hz := Option.some.inj HF
    subst hz
    exact q_rtn 2 (fun _ _ => rfl)
  · rw [if_neg c13] at HF
    obtain ⟨x3, hx4, HF⟩ := q_bind HF
    refine q_cll (m' := 206) (av := [.inr (.inr (30, 7, 0)), .inl a1]) (st' := [.inr (.inr (30, 7, 0))]) (pc' := 14) (loc' := [some (.inr (.inr (30, 7, 0))), some (.inl a1)]) (h' := h) 4 (fun _ _ => rfl) (eMo_enderOf (by omega) hx4) ?_
    obtain ⟨x5, hx6, HF⟩ := q_bind HF
    refine q_cll (m' := 196) (av := [.inr (.inr (30, 7, 0)), .inl x3]) (st' := []) (pc' := 17) (loc' := [some (.inr (.inr (30, 7, 0))), some (.inl a1)]) (h' := h) 1 (fun _ _ => rfl) (eMo_stateOf (by omega) hx6) ?_
    refine q_br (P := ¬ x5 = (1 : Int32)) (pcT := 37) (pcF := 21) (loc' := [some (.inr (.inr (30, 7, 0))), some (.inl a1)]) (stk' := []) (h' := h) 2 (fun _ _ => rfl) (fun c12 => ?_) (fun c12 => ?_)
    · rw [if_pos c12] at HF
      have hz := Option.some.inj HF
      subst hz
      exact q_rtn 2 (fun _ _ => rfl)
    · rw [if_neg c12] at HF
      obtain ⟨x7, hx8, HF⟩ := q_bind HF
      refine q_cll (m' := 205) (av := [.inr (.inr (30, 7, 0))]) (st' := [.inl a1, .inr (.inr (30, 7, 0))]) (pc' := 27) (loc' := [some (.inr (.inr (30, 7, 0))), some (.inl a1)]) (h' := h) 4 (fun _ _ => rfl) (eMo_horizon (by omega) hx8) ?_
      obtain ⟨x9, hx10, HF⟩ := q_bind HF
      refine q_cll (m' := 207) (av := [.inr (.inr (30, 7, 0)), .inl a1, .inl x7]) (st' := []) (pc' := 30) (loc' := [some (.inr (.inr (30, 7, 0))), some (.inl a1)]) (h' := h) 1 (fun _ _ => rfl) (eMo_isDead (by omega) hx10) ?_
      refine q_br (P := ¬ x9 = 0) (pcT := 37) (pcF := 33) (loc' := [some (.inr (.inr (30, 7, 0))), some (.inl a1)]) (stk' := []) (h' := h) 1 (fun _ _ => rfl) (fun c11 => ?_) (fun c11 => ?_)
      · rw [if_pos c11] at HF
        have hz := Option.some.inj HF
        subst hz
        exact q_rtn 2 (fun _ _ => rfl)
      · rw [if_neg c11] at HF
        have hz := Option.some.inj HF
        subst hz
        exact q_rtn 3 (fun _ _ => rfl)
def Mo_chainMany (a1 : Int32) (h : q_H) : Option Int32 :=
  (Mo_chainOf a1 h).bind fun x1 => (q_lp (fun s3 : Int32 × Int32 => (if s3.2 < 0 then (some (.inr (s3.1))) else ((Mo_chainNext s3.2 h).bind fun x11 => some (.inl ((s3.1 + (1 : Int32)), x11))) : Option ((Int32 × Int32) ⊕ Int32))) q_fu (((0 : Int32), x1) : Int32 × Int32)).bind fun z10 => some z10
set_option maxRecDepth 100000 in
set_option maxHeartbeats 4000000 in
theorem eMo_chainMany {d : Nat} (hd : 5 ≤ d) {a1 : Int32} {h : q_H} {r : Int32} (HF : Mo_chainMany a1 h = some r) : q_T d 211 [.inr (.inr (30, 7, 0)), .inl a1] h (some (.inl r), h) := by
  obtain ⟨d, rfl⟩ : ∃ d', d = d' + 1 := ⟨d - 1, by omega⟩
  refine q_ent q_K211 rfl rfl rfl ?_
  unfold Mo_chainMany at HF
  obtain ⟨x1, hx2, HF⟩ := q_bind HF
  refine q_cll (m' := 209) (av := [.inr (.inr (30, 7, 0)), .inl a1]) (st' := []) (pc' := 7) (loc' := [some (.inr (.inr (30, 7, 0))), some (.inl a1), some (.inl (0 : Int32)), none]) (h' := h) 5 (fun _ _ => rfl) (eMo_chainOf (by omega) hx2) ?_
  refine q_blk (pc' := 8) (loc' := [some (.inr (.inr (30, 7, 0))), some (.inl a1), some (.inl (0 : Int32)), some (.inl x1)]) (stk' := []) (h' := h) 1 (fun _ _ => rfl) ?_
  obtain ⟨r8, hl9, HK6⟩ := q_bind HF
  refine q_lpE (E := fun s3 => q_E d q_K211 8 [some (.inr (.inr (30, 7, 0))), some (.inl a1), some (.inl s3.1), some (.inl s3.2)] [] h (some (.inl r), h)) r8 (fun s3 z10 HF H14 H25 => ?_) _ _ hl9
  refine q_br (P := s3.2 < 0) (pcT := 24) (pcF := 12) (loc' := [some (.inr (.inr (30, 7, 0))), some (.inl a1), some (.inl s3.1), some (.inl s3.2)]) (stk' := []) (h' := h) 2 (fun _ _ => rfl) (fun c13 => ?_) (fun c13 => ?_)
  · rw [if_pos c13] at HF
    have hz := Option.some.inj HF
    subst hz
    replace HF := HK6
    rw [← H25 _ rfl] at HF
    have hz := Option.some.inj HF
    subst hz
    exact q_rtn 2 (fun _ _ => rfl)
  · rw [if_neg c13] at HF
    obtain ⟨x11, hx12, HF⟩ := q_bind HF
    refine q_cll (m' := 210) (av := [.inr (.inr (30, 7, 0)), .inl s3.2]) (st' := []) (pc' := 20) (loc' := [some (.inr (.inr (30, 7, 0))), some (.inl a1), some (.inl (s3.1 + (1 : Int32))), some (.inl s3.2)]) (h' := h) 4 (fun _ _ => rfl) (eMo_chainNext (by omega) hx12) ?_
    refine q_blk (pc' := 8) (loc' := [some (.inr (.inr (30, 7, 0))), some (.inl a1), some (.inl (s3.1 + (1 : Int32))), some (.inl x11)]) (stk' := []) (h' := h) 2 (fun _ _ => rfl) ?_
    have hz := Option.some.inj HF
    subst hz
    exact H14 ((s3.1 + (1 : Int32)), x11) rfl
def Mo_cuts (a1 : Int32) (a2 : Int32) (h : q_H) : Option (Int32 × q_H) :=
  (Mo_chainOf a1 h).bind fun x1 => (q_lp (fun s3 : Int32 × Int32 × q_H => (if s3.2.1 < 0 then (some (.inr ((s3.1, s3.2.1, s3.2.2)))) else ((Mo_isDead s3.2.1 a2 s3.2.2).bind fun x11 => if x11 = 0 then (some (.inr ((s3.1, s3.2.1, s3.2.2)))) else ((Mo_chainNext s3.2.1 s3.2.2).bind fun x13 => (Mo_goes s3.2.1 s3.2.2).bind fun x15 => some (.inl ((s3.1 + (1 : Int32)), x13, x15)))) : Option ((Int32 × Int32 × q_H) ⊕ (Int32 × Int32 × q_H)))) q_fu (((0 : Int32), x1, h) : Int32 × Int32 × q_H)).bind fun p19 => if ¬ p19.1 = 0 then (Option.bind (α := Int32) (if 0 ≤ p19.2.1 then (some ((2 : Int32))) else (some ((3 : Int32)))) (fun p25 => (Mo_sets a1 (0 : Int32) p25 p19.2.2).bind fun x26 => Option.bind (α := Int32) (if 0 ≤ p19.2.1 then (some ((p19.2.1 - p19.2.1 / (10 : Int32) * (10 : Int32)))) else (some ((-1 : Int32)))) (fun p33 => (Mo_sets a1 (1 : Int32) p33 x26).bind fun x34 => if 0 ≤ p19.2.1 then ((Mo_tellsOf (2 : Int32) a1 x34).bind fun x36 => some ((p19.1, x36))) else ((Mo_tellsOf (1 : Int32) a1 x34).bind fun x38 => some ((p19.1, x38)))))) else (some (((0 : Int32), p19.2.2)))
set_option maxRecDepth 100000 in
set_option maxHeartbeats 4000000 in
theorem eMo_cuts {d : Nat} (hd : 5 ≤ d) {a1 : Int32} {a2 : Int32} {h : q_H} {r : (Int32 × q_H)} (HF : Mo_cuts a1 a2 h = some r) : q_T d 214 [.inr (.inr (30, 7, 0)), .inl a1, .inl a2] h (some (.inl r.1), r.2) := by
  obtain ⟨d, rfl⟩ : ∃ d', d = d' + 1 := ⟨d - 1, by omega⟩
  refine q_ent q_K214 rfl rfl rfl ?_
  unfold Mo_cuts at HF
  obtain ⟨x1, hx2, HF⟩ := q_bind HF
  refine q_cll (m' := 209) (av := [.inr (.inr (30, 7, 0)), .inl a1]) (st' := []) (pc' := 7) (loc' := [some (.inr (.inr (30, 7, 0))), some (.inl a1), some (.inl a2), some (.inl (0 : Int32)), none, none]) (h' := h) 5 (fun _ _ => rfl) (eMo_chainOf (by omega) hx2) ?_
  refine q_blk (pc' := 9) (loc' := [some (.inr (.inr (30, 7, 0))), some (.inl a1), some (.inl a2), some (.inl (0 : Int32)), some (.inl x1), none]) (stk' := []) (h' := h) 1 (fun _ _ => rfl) ?_
  obtain ⟨r8, hl9, HK6⟩ := q_bind HF
  have hP7 : ∀ p19 : Int32 × Int32 × q_H, (if ¬ p19.1 = 0 then (Option.bind (α := Int32) (if 0 ≤ p19.2.1 then (some ((2 : Int32))) else (some ((3 : Int32)))) (fun p25 => (Mo_sets a1 (0 : Int32) p25 p19.2.2).bind fun x26 => Option.bind (α := Int32) (if 0 ≤ p19.2.1 then (some ((p19.2.1 - p19.2.1 / (10 : Int32) * (10 : Int32)))) else (some ((-1 : Int32)))) (fun p33 => (Mo_sets a1 (1 : Int32) p33 x26).bind fun x34 => if 0 ≤ p19.2.1 then ((Mo_tellsOf (2 : Int32) a1 x34).bind fun x36 => some ((p19.1, x36))) else ((Mo_tellsOf (1 : Int32) a1 x34).bind fun x38 => some ((p19.1, x38)))))) else (some (((0 : Int32), p19.2.2))) : Option (Int32 × q_H)) = some r → q_E d q_K214 48 [some (.inr (.inr (30, 7, 0))), some (.inl a1), some (.inl a2), some (.inl p19.1), some (.inl p19.2.1), none] [] p19.2.2 (some (.inl r.1), r.2) := by
    intro p19 HF
    refine q_br (P := ¬ p19.1 = 0) (pcT := 54) (pcF := 52) (loc' := [some (.inr (.inr (30, 7, 0))), some (.inl a1), some (.inl a2), some (.inl p19.1), some (.inl p19.2.1), none]) (stk' := []) (h' := p19.2.2) 2 (fun _ _ => rfl) (fun c43 => ?_) (fun c43 => ?_)
    · rw [if_pos c43] at HF
      obtain ⟨z20, HA21, HK22⟩ := q_bind HF
      have hP23 : ∀ p25 : Int32, ((Mo_sets a1 (0 : Int32) p25 p19.2.2).bind fun x26 => Option.bind (α := Int32) (if 0 ≤ p19.2.1 then (some ((p19.2.1 - p19.2.1 / (10 : Int32) * (10 : Int32)))) else (some ((-1 : Int32)))) (fun p33 => (Mo_sets a1 (1 : Int32) p33 x26).bind fun x34 => if 0 ≤ p19.2.1 then ((Mo_tellsOf (2 : Int32) a1 x34).bind fun x36 => some ((p19.1, x36))) else ((Mo_tellsOf (1 : Int32) a1 x34).bind fun x38 => some ((p19.1, x38)))) : Option (Int32 × q_H)) = some r → q_E d q_K214 67 [some (.inr (.inr (30, 7, 0))), some (.inl a1), some (.inl a2), some (.inl p19.1), some (.inl p19.2.1), none] [.inl p25, .inl (0 : Int32), .inl a1, .inr (.inr (30, 7, 0))] p19.2.2 (some (.inl r.1), r.2) := by
        intro p25 HF
        obtain ⟨x26, hx27, HF⟩ := q_bind HF
        refine q_cll (m' := 188) (av := [.inr (.inr (30, 7, 0)), .inl a1, .inl (0 : Int32), .inl p25]) (st' := []) (pc' := 70) (loc' := [some (.inr (.inr (30, 7, 0))), some (.inl a1), some (.inl a2), some (.inl p19.1), some (.inl p19.2.1), none]) (h' := p19.2.2) 1 (fun _ _ => rfl) (eMo_sets (by omega) hx27) ?_
        obtain ⟨z28, HA29, HK30⟩ := q_bind HF
        have hP31 : ∀ p33 : Int32, ((Mo_sets a1 (1 : Int32) p33 x26).bind fun x34 => if 0 ≤ p19.2.1 then ((Mo_tellsOf (2 : Int32) a1 x34).bind fun x36 => some ((p19.1, x36))) else ((Mo_tellsOf (1 : Int32) a1 x34).bind fun x38 => some ((p19.1, x38))) : Option (Int32 × q_H)) = some r → q_E d q_K214 87 [some (.inr (.inr (30, 7, 0))), some (.inl a1), some (.inl a2), some (.inl p19.1), some (.inl p19.2.1), none] [.inl p33, .inl (1 : Int32), .inl a1, .inr (.inr (30, 7, 0))] x26 (some (.inl r.1), r.2) := by
          intro p33 HF
          obtain ⟨x34, hx35, HF⟩ := q_bind HF
          refine q_cll (m' := 188) (av := [.inr (.inr (30, 7, 0)), .inl a1, .inl (1 : Int32), .inl p33]) (st' := []) (pc' := 90) (loc' := [some (.inr (.inr (30, 7, 0))), some (.inl a1), some (.inl a2), some (.inl p19.1), some (.inl p19.2.1), none]) (h' := x26) 1 (fun _ _ => rfl) (eMo_sets (by omega) hx35) ?_
          refine q_br (P := 0 ≤ p19.2.1) (pcT := 100) (pcF := 96) (loc' := [some (.inr (.inr (30, 7, 0))), some (.inl a1), some (.inl a2), some (.inl p19.1), some (.inl p19.2.1), none]) (stk' := [.inr (.inr (30, 7, 0))]) (h' := x34) 3 (fun _ _ => rfl) (fun c40 => ?_) (fun c40 => ?_)
          · rw [if_pos c40] at HF
            obtain ⟨x36, hx37, HF⟩ := q_bind HF
            refine q_cll (m' := 212) (av := [.inr (.inr (30, 7, 0)), .inl (2 : Int32), .inl a1]) (st' := []) (pc' := 105) (loc' := [some (.inr (.inr (30, 7, 0))), some (.inl a1), some (.inl a2), some (.inl p19.1), some (.inl p19.2.1), none]) (h' := x34) 3 (fun _ _ => rfl) (eMo_tellsOf (by omega) hx37) ?_
            have hz := Option.some.inj HF
            subst hz
            exact q_rtn 2 (fun _ _ => rfl)
          · rw [if_neg c40] at HF
            obtain ⟨x38, hx39, HF⟩ := q_bind HF
            refine q_cll (m' := 212) (av := [.inr (.inr (30, 7, 0)), .inl (1 : Int32), .inl a1]) (st' := []) (pc' := 105) (loc' := [some (.inr (.inr (30, 7, 0))), some (.inl a1), some (.inl a2), some (.inl p19.1), some (.inl p19.2.1), none]) (h' := x34) 4 (fun _ _ => rfl) (eMo_tellsOf (by omega) hx39) ?_
            have hz := Option.some.inj HF
            subst hz
            exact q_rtn 2 (fun _ _ => rfl)
        replace HF := HA29
        refine q_br (P := 0 ≤ p19.2.1) (pcT := 82) (pcF := 78) (loc' := [some (.inr (.inr (30, 7, 0))), some (.inl a1), some (.inl a2), some (.inl p19.1), some (.inl p19.2.1), none]) (stk' := [.inl (1 : Int32), .inl a1, .inr (.inr (30, 7, 0))]) (h' := x26) 5 (fun _ _ => rfl) (fun c32 => ?_) (fun c32 => ?_)
        · rw [if_pos c32] at HF
          refine q_blk (pc' := 87) (loc' := [some (.inr (.inr (30, 7, 0))), some (.inl a1), some (.inl a2), some (.inl p19.1), some (.inl p19.2.1), none]) (stk' := [.inl (p19.2.1 - p19.2.1 / (10 : Int32) * (10 : Int32)), .inl (1 : Int32), .inl a1, .inr (.inr (30, 7, 0))]) (h' := x26) 3 (fun _ _ => rfl) ?_
          have hz := Option.some.inj HF
          subst hz
          exact hP31 (p19.2.1 - p19.2.1 / (10 : Int32) * (10 : Int32)) HK30
        · rw [if_neg c32] at HF
          refine q_blk (pc' := 87) (loc' := [some (.inr (.inr (30, 7, 0))), some (.inl a1), some (.inl a2), some (.inl p19.1), some (.inl p19.2.1), none]) (stk' := [.inl (-1 : Int32), .inl (1 : Int32), .inl a1, .inr (.inr (30, 7, 0))]) (h' := x26) 2 (fun _ _ => rfl) ?_
          have hz := Option.some.inj HF
          subst hz
          exact hP31 (-1 : Int32) HK30
      replace HF := HA21
      refine q_br (P := 0 ≤ p19.2.1) (pcT := 66) (pcF := 62) (loc' := [some (.inr (.inr (30, 7, 0))), some (.inl a1), some (.inl a2), some (.inl p19.1), some (.inl p19.2.1), none]) (stk' := [.inl (0 : Int32), .inl a1, .inr (.inr (30, 7, 0))]) (h' := p19.2.2) 5 (fun _ _ => rfl) (fun c24 => ?_) (fun c24 => ?_)
      · rw [if_pos c24] at HF
        refine q_blk (pc' := 67) (loc' := [some (.inr (.inr (30, 7, 0))), some (.inl a1), some (.inl a2), some (.inl p19.1), some (.inl p19.2.1), none]) (stk' := [.inl (2 : Int32), .inl (0 : Int32), .inl a1, .inr (.inr (30, 7, 0))]) (h' := p19.2.2) 1 (fun _ _ => rfl) ?_
        have hz := Option.some.inj HF
        subst hz
        exact hP23 (2 : Int32) HK22
      · rw [if_neg c24] at HF
        refine q_blk (pc' := 67) (loc' := [some (.inr (.inr (30, 7, 0))), some (.inl a1), some (.inl a2), some (.inl p19.1), some (.inl p19.2.1), none]) (stk' := [.inl (3 : Int32), .inl (0 : Int32), .inl a1, .inr (.inr (30, 7, 0))]) (h' := p19.2.2) 2 (fun _ _ => rfl) ?_
        have hz := Option.some.inj HF
        subst hz
        exact hP23 (3 : Int32) HK22
    · rw [if_neg c43] at HF
      have hz := Option.some.inj HF
      subst hz
      exact q_rtn 2 (fun _ _ => rfl)
  refine q_lpE (E := fun s3 => q_E d q_K214 9 [some (.inr (.inr (30, 7, 0))), some (.inl a1), some (.inl a2), some (.inl s3.1), some (.inl s3.2.1), none] [] s3.2.2 (some (.inl r.1), r.2)) r8 (fun s3 z10 HF H14 H25 => ?_) _ _ hl9
  refine q_br (P := s3.2.1 < 0) (pcT := 48) (pcF := 14) (loc' := [some (.inr (.inr (30, 7, 0))), some (.inl a1), some (.inl a2), some (.inl s3.1), some (.inl s3.2.1), none]) (stk' := []) (h' := s3.2.2) 2 (fun _ _ => rfl) (fun c18 => ?_) (fun c18 => ?_)
  · rw [if_pos c18] at HF
    have hz := Option.some.inj HF
    subst hz
    rw [← H25 _ rfl] at HK6
    exact hP7 (s3.1, s3.2.1, s3.2.2) HK6
  · rw [if_neg c18] at HF
    obtain ⟨x11, hx12, HF⟩ := q_bind HF
    refine q_cll (m' := 207) (av := [.inr (.inr (30, 7, 0)), .inl s3.2.1, .inl a2]) (st' := []) (pc' := 21) (loc' := [some (.inr (.inr (30, 7, 0))), some (.inl a1), some (.inl a2), some (.inl s3.1), some (.inl s3.2.1), none]) (h' := s3.2.2) 4 (fun _ _ => rfl) (eMo_isDead (by omega) hx12) ?_
    refine q_br (P := x11 = 0) (pcT := 48) (pcF := 24) (loc' := [some (.inr (.inr (30, 7, 0))), some (.inl a1), some (.inl a2), some (.inl s3.1), some (.inl s3.2.1), none]) (stk' := []) (h' := s3.2.2) 1 (fun _ _ => rfl) (fun c17 => ?_) (fun c17 => ?_)
    · rw [if_pos c17] at HF
      have hz := Option.some.inj HF
      subst hz
      rw [← H25 _ rfl] at HK6
      exact hP7 (s3.1, s3.2.1, s3.2.2) HK6
    · rw [if_neg c17] at HF
      obtain ⟨x13, hx14, HF⟩ := q_bind HF
      refine q_cll (m' := 210) (av := [.inr (.inr (30, 7, 0)), .inl s3.2.1]) (st' := []) (pc' := 30) (loc' := [some (.inr (.inr (30, 7, 0))), some (.inl a1), some (.inl a2), some (.inl s3.1), some (.inl s3.2.1), none]) (h' := s3.2.2) 3 (fun _ _ => rfl) (eMo_chainNext (by omega) hx14) ?_
      obtain ⟨x15, hx16, HF⟩ := q_bind HF
      refine q_cll (m' := 213) (av := [.inr (.inr (30, 7, 0)), .inl s3.2.1]) (st' := []) (pc' := 38) (loc' := [some (.inr (.inr (30, 7, 0))), some (.inl a1), some (.inl a2), some (.inl s3.1), some (.inl s3.2.1), some (.inl x13)]) (h' := s3.2.2) 4 (fun _ _ => rfl) (eMo_goes (by omega) hx16) ?_
      refine q_blk (pc' := 9) (loc' := [some (.inr (.inr (30, 7, 0))), some (.inl a1), some (.inl a2), some (.inl (s3.1 + (1 : Int32))), some (.inl x13), some (.inl x13)]) (stk' := []) (h' := x15) 4 (fun _ _ => rfl) ?_
      have hz := Option.some.inj HF
      subst hz
      exact q_wk (loc := [some (.inr (.inr (30, 7, 0))), some (.inl a1), some (.inl a2), some (.inl (s3.1 + (1 : Int32))), some (.inl x13), none]) ⟨Or.inl rfl, ⟨Or.inl rfl, ⟨Or.inl rfl, ⟨Or.inl rfl, ⟨Or.inl rfl, ⟨Or.inr ⟨rfl, fun _ h => by cases h⟩, trivial⟩⟩⟩⟩⟩⟩ (H14 ((s3.1 + (1 : Int32)), x13, x15) rfl)
def Mo_touched (a1 : Int32) (a2 : Int32) (h : q_H) : Option (Int32 × q_H) :=
  (Mo_isTxn a1 h).bind fun x1 => if x1 = 0 then ((Mo_refuse (2 : Int32) h).bind fun x3 => some ((x3.1, x3.2))) else ((Mo_isRow a2 h).bind fun x5 => if ¬ x5 = 0 then ((Mo_isOpen a1 h).bind fun x7 => if ¬ x7 = 0 then ((Mo_isWaiting a1 h).bind fun x9 => if x9 = 0 then ((Mo_seenOf a1 a2 h).bind fun x11 => if 0 ≤ x11 then ((Mo_noTouch a1 x11 h).bind fun x13 => if x13 ≤ 0 then (some ((x11, h))) else ((Mo_refuse x13 h).bind fun x15 => some ((x15.1, x15.2)))) else ((Mo_refuse (6 : Int32) h).bind fun x18 => some ((x18.1, x18.2)))) else ((Mo_refuse (11 : Int32) h).bind fun x21 => some ((x21.1, x21.2)))) else ((Mo_refuse (4 : Int32) h).bind fun x24 => some ((x24.1, x24.2)))) else ((Mo_refuse (2 : Int32) h).bind fun x27 => some ((x27.1, x27.2))))
set_option maxRecDepth 100000 in
set_option maxHeartbeats 4000000 in
theorem eMo_touched {d : Nat} (hd : 5 ≤ d) {a1 : Int32} {a2 : Int32} {h : q_H} {r : (Int32 × q_H)} (HF : Mo_touched a1 a2 h = some r) : q_T d 232 [.inr (.inr (30, 7, 0)), .inl a1, .inl a2] h (some (.inl r.1), r.2) := by
  obtain ⟨d, rfl⟩ : ∃ d', d = d' + 1 := ⟨d - 1, by omega⟩
  refine q_ent q_K232 rfl rfl rfl ?_
  unfold Mo_touched at HF
  obtain ⟨x1, hx2, HF⟩ := q_bind HF
  refine q_cll (m' := 198) (av := [.inr (.inr (30, 7, 0)), .inl a1]) (st' := []) (pc' := 5) (loc' := [some (.inr (.inr (30, 7, 0))), some (.inl a1), some (.inl a2), none, none]) (h' := h) 3 (fun _ _ => rfl) (eMo_isTxn (by omega) hx2) ?_
  refine q_br (P := x1 = 0) (pcT := 16) (pcF := 8) (loc' := [some (.inr (.inr (30, 7, 0))), some (.inl a1), some (.inl a2), none, none]) (stk' := []) (h' := h) 1 (fun _ _ => rfl) (fun c30 => ?_) (fun c30 => ?_)
  · rw [if_pos c30] at HF
    obtain ⟨x3, hx4, HF⟩ := q_bind HF
    refine q_cll (m' := 182) (av := [.inr (.inr (30, 7, 0)), .inl (2 : Int32)]) (st' := []) (pc' := 21) (loc' := [some (.inr (.inr (30, 7, 0))), some (.inl a1), some (.inl a2), none, none]) (h' := h) 3 (fun _ _ => rfl) (eMo_refuse (by omega) hx4) ?_
    have hz := Option.some.inj HF
    subst hz
    exact q_rtn 1 (fun _ _ => rfl)
  · rw [if_neg c30] at HF
    obtain ⟨x5, hx6, HF⟩ := q_bind HF
    refine q_cll (m' := 231) (av := [.inr (.inr (30, 7, 0)), .inl a2]) (st' := []) (pc' := 13) (loc' := [some (.inr (.inr (30, 7, 0))), some (.inl a1), some (.inl a2), none, none]) (h' := h) 3 (fun _ _ => rfl) (eMo_isRow (by omega) hx6) ?_
    refine q_br (P := ¬ x5 = 0) (pcT := 22) (pcF := 16) (loc' := [some (.inr (.inr (30, 7, 0))), some (.inl a1), some (.inl a2), none, none]) (stk' := []) (h' := h) 1 (fun _ _ => rfl) (fun c29 => ?_) (fun c29 => ?_)
    · rw [if_pos c29] at HF
      obtain ⟨x7, hx8, HF⟩ := q_bind HF
      refine q_cll (m' := 197) (av := [.inr (.inr (30, 7, 0)), .inl a1]) (st' := []) (pc' := 27) (loc' := [some (.inr (.inr (30, 7, 0))), some (.inl a1), some (.inl a2), none, none]) (h' := h) 3 (fun _ _ => rfl) (eMo_isOpen (by omega) hx8) ?_
      refine q_br (P := ¬ x7 = 0) (pcT := 36) (pcF := 30) (loc' := [some (.inr (.inr (30, 7, 0))), some (.inl a1), some (.inl a2), none, none]) (stk' := []) (h' := h) 1 (fun _ _ => rfl) (fun c26 => ?_) (fun c26 => ?_)
      · rw [if_pos c26] at HF
        obtain ⟨x9, hx10, HF⟩ := q_bind HF
        refine q_cll (m' := 201) (av := [.inr (.inr (30, 7, 0)), .inl a1]) (st' := []) (pc' := 41) (loc' := [some (.inr (.inr (30, 7, 0))), some (.inl a1), some (.inl a2), none, none]) (h' := h) 3 (fun _ _ => rfl) (eMo_isWaiting (by omega) hx10) ?_
        refine q_br (P := x9 = 0) (pcT := 51) (pcF := 44) (loc' := [some (.inr (.inr (30, 7, 0))), some (.inl a1), some (.inl a2), none, none]) (stk' := []) (h' := h) 1 (fun _ _ => rfl) (fun c23 => ?_) (fun c23 => ?_)
        · rw [if_pos c23] at HF
          obtain ⟨x11, hx12, HF⟩ := q_bind HF
          refine q_cll (m' := 225) (av := [.inr (.inr (30, 7, 0)), .inl a1, .inl a2]) (st' := []) (pc' := 57) (loc' := [some (.inr (.inr (30, 7, 0))), some (.inl a1), some (.inl a2), none, none]) (h' := h) 4 (fun _ _ => rfl) (eMo_seenOf (by omega) hx12) ?_
          refine q_br (P := 0 ≤ x11) (pcT := 69) (pcF := 62) (loc' := [some (.inr (.inr (30, 7, 0))), some (.inl a1), some (.inl a2), some (.inl x11), none]) (stk' := []) (h' := h) 3 (fun _ _ => rfl) (fun c20 => ?_) (fun c20 => ?_)
          · rw [if_pos c20] at HF
            obtain ⟨x13, hx14, HF⟩ := q_bind HF
            refine q_cll (m' := 228) (av := [.inr (.inr (30, 7, 0)), .inl a1, .inl x11]) (st' := []) (pc' := 75) (loc' := [some (.inr (.inr (30, 7, 0))), some (.inl a1), some (.inl a2), some (.inl x11), none]) (h' := h) 4 (fun _ _ => rfl) (eMo_noTouch (by omega) hx14) ?_
            refine q_br (P := x13 ≤ 0) (pcT := 91) (pcF := 82) (loc' := [some (.inr (.inr (30, 7, 0))), some (.inl a1), some (.inl a2), some (.inl x11), some (.inl x13)]) (stk' := []) (h' := h) 3 (fun _ _ => rfl) (fun c17 => ?_) (fun c17 => ?_)
            · rw [if_pos c17] at HF
              have hz := Option.some.inj HF
              subst hz
              exact q_rtn 2 (fun _ _ => rfl)
            · rw [if_neg c17] at HF
              obtain ⟨x15, hx16, HF⟩ := q_bind HF
              refine q_cll (m' := 182) (av := [.inr (.inr (30, 7, 0)), .inl x13]) (st' := []) (pc' := 88) (loc' := [some (.inr (.inr (30, 7, 0))), some (.inl a1), some (.inl a2), some (.inl x11), some (.inl x13)]) (h' := h) 3 (fun _ _ => rfl) (eMo_refuse (by omega) hx16) ?_
              have hz := Option.some.inj HF
              subst hz
              exact q_rtn 2 (fun _ _ => rfl)
          · rw [if_neg c20] at HF
            obtain ⟨x18, hx19, HF⟩ := q_bind HF
            refine q_cll (m' := 182) (av := [.inr (.inr (30, 7, 0)), .inl (6 : Int32)]) (st' := []) (pc' := 68) (loc' := [some (.inr (.inr (30, 7, 0))), some (.inl a1), some (.inl a2), some (.inl x11), none]) (h' := h) 3 (fun _ _ => rfl) (eMo_refuse (by omega) hx19) ?_
            have hz := Option.some.inj HF
            subst hz
            exact q_rtn 1 (fun _ _ => rfl)
        · rw [if_neg c23] at HF
          obtain ⟨x21, hx22, HF⟩ := q_bind HF
          refine q_cll (m' := 182) (av := [.inr (.inr (30, 7, 0)), .inl (11 : Int32)]) (st' := []) (pc' := 50) (loc' := [some (.inr (.inr (30, 7, 0))), some (.inl a1), some (.inl a2), none, none]) (h' := h) 3 (fun _ _ => rfl) (eMo_refuse (by omega) hx22) ?_
          have hz := Option.some.inj HF
          subst hz
          exact q_rtn 1 (fun _ _ => rfl)
      · rw [if_neg c26] at HF
        obtain ⟨x24, hx25, HF⟩ := q_bind HF
        refine q_cll (m' := 182) (av := [.inr (.inr (30, 7, 0)), .inl (4 : Int32)]) (st' := []) (pc' := 35) (loc' := [some (.inr (.inr (30, 7, 0))), some (.inl a1), some (.inl a2), none, none]) (h' := h) 3 (fun _ _ => rfl) (eMo_refuse (by omega) hx25) ?_
        have hz := Option.some.inj HF
        subst hz
        exact q_rtn 1 (fun _ _ => rfl)
    · rw [if_neg c29] at HF
      obtain ⟨x27, hx28, HF⟩ := q_bind HF
      refine q_cll (m' := 182) (av := [.inr (.inr (30, 7, 0)), .inl (2 : Int32)]) (st' := []) (pc' := 21) (loc' := [some (.inr (.inr (30, 7, 0))), some (.inl a1), some (.inl a2), none, none]) (h' := h) 3 (fun _ _ => rfl) (eMo_refuse (by omega) hx28) ?_
      have hz := Option.some.inj HF
      subst hz
      exact q_rtn 1 (fun _ _ => rfl)
def Mo_closeNow (a1 : Int32) (a2 : Int32) (h : q_H) : Option (Int32 × q_H) :=
  (Mo_isTxn a1 h).bind fun x1 => if ¬ x1 = 0 then ((Mo_isOpen a1 h).bind fun x3 => if ¬ x3 = 0 then (Option.bind (α := (q_H) ⊕ (Int32 × q_H)) (if ¬ a2 = (1 : Int32) then (some (.inl h)) else ((Mo_isWaiting a1 h).bind fun x9 => if x9 = 0 then (some (.inl h)) else ((Mo_refuse (11 : Int32) h).bind fun x11 => some (.inr ((x11.1, x11.2)))))) (fun z5 => match z5 with | .inl p15 => bif q_in ((1583 : Int32) + a1) 1644 then ((q_lp (fun s16 : Int32 × q_H => (if (s16.2.1 31 0 7 4) ≤ s16.1 then (some (.inr (s16.2))) else (bif q_in ((1583 : Int32) + s16.1) 1644 then (Option.bind (α := q_H) (if ¬ (s16.2.1 31 0 7 ((1583 : Int32) + s16.1).toNatClampNeg) = a1 then (some (s16.2)) else (bif q_in ((1583 : Int32) + s16.1) 1644 then (some ((q_si s16.2 31 0 7 ((1583 : Int32) + s16.1).toNatClampNeg (0 : Int32)))) else none)) (fun p30 => some (.inl ((s16.1 + (1 : Int32)), p30)))) else none) : Option ((Int32 × q_H) ⊕ (q_H)))) q_fu (((1 : Int32), (q_si p15 31 0 7 ((1583 : Int32) + a1).toNatClampNeg (0 : Int32))) : Int32 × q_H)).bind fun p34 => bif q_in ((1052 : Int32) + ((3 : Int32) * a1)) 1644 then (if ¬ a2 = (1 : Int32) then ((Mo_tellsOf (7 : Int32) a1 (q_si p34 31 0 7 ((1052 : Int32) + ((3 : Int32) * a1)).toNatClampNeg a2)).bind fun x35 => (Mo_horizon x35).bind fun x37 => some ((x37, x35))) else ((Mo_tellsOf (6 : Int32) a1 (q_si p34 31 0 7 ((1052 : Int32) + ((3 : Int32) * a1)).toNatClampNeg a2)).bind fun x39 => (Mo_horizon x39).bind fun x41 => some ((x41, x39)))) else none) else none | .inr z5 => some z5)) else ((Mo_refuse (4 : Int32) h).bind fun x47 => some ((x47.1, x47.2)))) else ((Mo_refuse (2 : Int32) h).bind fun x50 => some ((x50.1, x50.2)))
set_option maxRecDepth 100000 in
set_option maxHeartbeats 4000000 in
theorem eMo_closeNow {d : Nat} (hd : 5 ≤ d) {a1 : Int32} {a2 : Int32} {h : q_H} {r : (Int32 × q_H)} (HF : Mo_closeNow a1 a2 h = some r) : q_T d 237 [.inr (.inr (30, 7, 0)), .inl a1, .inl a2] h (some (.inl r.1), r.2) := by
  obtain ⟨d, rfl⟩ : ∃ d', d = d' + 1 := ⟨d - 1, by omega⟩
  refine q_ent q_K237 rfl rfl rfl ?_
  unfold Mo_closeNow at HF
  obtain ⟨x1, hx2, HF⟩ := q_bind HF
  refine q_cll (m' := 198) (av := [.inr (.inr (30, 7, 0)), .inl a1]) (st' := []) (pc' := 5) (loc' := [some (.inr (.inr (30, 7, 0))), some (.inl a1), some (.inl a2), none]) (h' := h) 3 (fun _ _ => rfl) (eMo_isTxn (by omega) hx2) ?_
  refine q_br (P := ¬ x1 = 0) (pcT := 14) (pcF := 8) (loc' := [some (.inr (.inr (30, 7, 0))), some (.inl a1), some (.inl a2), none]) (stk' := []) (h' := h) 1 (fun _ _ => rfl) (fun c52 => ?_) (fun c52 => ?_)
  · rw [if_pos c52] at HF
    obtain ⟨x3, hx4, HF⟩ := q_bind HF
    refine q_cll (m' := 197) (av := [.inr (.inr (30, 7, 0)), .inl a1]) (st' := []) (pc' := 19) (loc' := [some (.inr (.inr (30, 7, 0))), some (.inl a1), some (.inl a2), none]) (h' := h) 3 (fun _ _ => rfl) (eMo_isOpen (by omega) hx4) ?_
    refine q_br (P := ¬ x3 = 0) (pcT := 28) (pcF := 22) (loc' := [some (.inr (.inr (30, 7, 0))), some (.inl a1), some (.inl a2), none]) (stk' := []) (h' := h) 1 (fun _ _ => rfl) (fun c49 => ?_) (fun c49 => ?_)
    · rw [if_pos c49] at HF
      obtain ⟨z5, HA6, HK7⟩ := q_bind HF
      have hP8 : ∀ p15 : q_H, (bif q_in ((1583 : Int32) + a1) 1644 then ((q_lp (fun s16 : Int32 × q_H => (if (s16.2.1 31 0 7 4) ≤ s16.1 then (some (.inr (s16.2))) else (bif q_in ((1583 : Int32) + s16.1) 1644 then (Option.bind (α := q_H) (if ¬ (s16.2.1 31 0 7 ((1583 : Int32) + s16.1).toNatClampNeg) = a1 then (some (s16.2)) else (bif q_in ((1583 : Int32) + s16.1) 1644 then (some ((q_si s16.2 31 0 7 ((1583 : Int32) + s16.1).toNatClampNeg (0 : Int32)))) else none)) (fun p30 => some (.inl ((s16.1 + (1 : Int32)), p30)))) else none) : Option ((Int32 × q_H) ⊕ (q_H)))) q_fu (((1 : Int32), (q_si p15 31 0 7 ((1583 : Int32) + a1).toNatClampNeg (0 : Int32))) : Int32 × q_H)).bind fun p34 => bif q_in ((1052 : Int32) + ((3 : Int32) * a1)) 1644 then (if ¬ a2 = (1 : Int32) then ((Mo_tellsOf (7 : Int32) a1 (q_si p34 31 0 7 ((1052 : Int32) + ((3 : Int32) * a1)).toNatClampNeg a2)).bind fun x35 => (Mo_horizon x35).bind fun x37 => some ((x37, x35))) else ((Mo_tellsOf (6 : Int32) a1 (q_si p34 31 0 7 ((1052 : Int32) + ((3 : Int32) * a1)).toNatClampNeg a2)).bind fun x39 => (Mo_horizon x39).bind fun x41 => some ((x41, x39)))) else none) else none : Option (Int32 × q_H)) = some r → q_E d q_K237 48 [some (.inr (.inr (30, 7, 0))), some (.inl a1), some (.inl a2), none] [] p15 (some (.inl r.1), r.2) := by
        intro p15 HF
        obtain ⟨g45, HF⟩ := q_gF HF
        refine q_gd (pc' := 59) (loc' := [some (.inr (.inr (30, 7, 0))), some (.inl a1), some (.inl a2), none]) (stk' := []) (h' := (q_si p15 31 0 7 ((1583 : Int32) + a1).toNatClampNeg (0 : Int32))) 7 (fun _ _ => rfl) g45 ?_
        refine q_blk (pc' := 61) (loc' := [some (.inr (.inr (30, 7, 0))), some (.inl a1), some (.inl a2), some (.inl (1 : Int32))]) (stk' := []) (h' := (q_si p15 31 0 7 ((1583 : Int32) + a1).toNatClampNeg (0 : Int32))) 2 (fun _ _ => rfl) ?_
        obtain ⟨r21, hl22, HK19⟩ := q_bind HF
        have hP20 : ∀ p34 : q_H, (bif q_in ((1052 : Int32) + ((3 : Int32) * a1)) 1644 then (if ¬ a2 = (1 : Int32) then ((Mo_tellsOf (7 : Int32) a1 (q_si p34 31 0 7 ((1052 : Int32) + ((3 : Int32) * a1)).toNatClampNeg a2)).bind fun x35 => (Mo_horizon x35).bind fun x37 => some ((x37, x35))) else ((Mo_tellsOf (6 : Int32) a1 (q_si p34 31 0 7 ((1052 : Int32) + ((3 : Int32) * a1)).toNatClampNeg a2)).bind fun x39 => (Mo_horizon x39).bind fun x41 => some ((x41, x39)))) else none : Option (Int32 × q_H)) = some r → q_E d q_K237 102 [some (.inr (.inr (30, 7, 0))), some (.inl a1), some (.inl a2), none] [] p34 (some (.inl r.1), r.2) := by
          intro p34 HF
          obtain ⟨g44, HF⟩ := q_gF HF
          refine q_gd (pc' := 115) (loc' := [some (.inr (.inr (30, 7, 0))), some (.inl a1), some (.inl a2), none]) (stk' := []) (h' := (q_si p34 31 0 7 ((1052 : Int32) + ((3 : Int32) * a1)).toNatClampNeg a2)) 9 (fun _ _ => rfl) g44 ?_
          refine q_br (P := ¬ a2 = (1 : Int32)) (pcT := 126) (pcF := 121) (loc' := [some (.inr (.inr (30, 7, 0))), some (.inl a1), some (.inl a2), none]) (stk' := [.inr (.inr (30, 7, 0))]) (h' := (q_si p34 31 0 7 ((1052 : Int32) + ((3 : Int32) * a1)).toNatClampNeg a2)) 4 (fun _ _ => rfl) (fun c43 => ?_) (fun c43 => ?_)
          · rw [if_pos c43] at HF
            obtain ⟨x35, hx36, HF⟩ := q_bind HF
            refine q_cll (m' := 212) (av := [.inr (.inr (30, 7, 0)), .inl (7 : Int32), .inl a1]) (st' := []) (pc' := 132) (loc' := [some (.inr (.inr (30, 7, 0))), some (.inl a1), some (.inl a2), none]) (h' := (q_si p34 31 0 7 ((1052 : Int32) + ((3 : Int32) * a1)).toNatClampNeg a2)) 3 (fun _ _ => rfl) (eMo_tellsOf (by omega) hx36) ?_
            obtain ⟨x37, hx38, HF⟩ := q_bind HF
            refine q_cll (m' := 205) (av := [.inr (.inr (30, 7, 0))]) (st' := []) (pc' := 136) (loc' := [some (.inr (.inr (30, 7, 0))), some (.inl a1), some (.inl a2), none]) (h' := x35) 2 (fun _ _ => rfl) (eMo_horizon (by omega) hx38) ?_
            have hz := Option.some.inj HF
            subst hz
            exact q_rtn 1 (fun _ _ => rfl)
          · rw [if_neg c43] at HF
            obtain ⟨x39, hx40, HF⟩ := q_bind HF
            refine q_cll (m' := 212) (av := [.inr (.inr (30, 7, 0)), .inl (6 : Int32), .inl a1]) (st' := []) (pc' := 132) (loc' := [some (.inr (.inr (30, 7, 0))), some (.inl a1), some (.inl a2), none]) (h' := (q_si p34 31 0 7 ((1052 : Int32) + ((3 : Int32) * a1)).toNatClampNeg a2)) 4 (fun _ _ => rfl) (eMo_tellsOf (by omega) hx40) ?_
            obtain ⟨x41, hx42, HF⟩ := q_bind HF
            refine q_cll (m' := 205) (av := [.inr (.inr (30, 7, 0))]) (st' := []) (pc' := 136) (loc' := [some (.inr (.inr (30, 7, 0))), some (.inl a1), some (.inl a2), none]) (h' := x39) 2 (fun _ _ => rfl) (eMo_horizon (by omega) hx42) ?_
            have hz := Option.some.inj HF
            subst hz
            exact q_rtn 1 (fun _ _ => rfl)
        refine q_lpE (E := fun s16 => q_E d q_K237 61 [some (.inr (.inr (30, 7, 0))), some (.inl a1), some (.inl a2), some (.inl s16.1)] [] s16.2 (some (.inl r.1), r.2)) r21 (fun s16 z23 HF H117 H218 => ?_) _ _ hl22
        refine q_br (P := (s16.2.1 31 0 7 4) ≤ s16.1) (pcT := 102) (pcF := 71) (loc' := [some (.inr (.inr (30, 7, 0))), some (.inl a1), some (.inl a2), some (.inl s16.1)]) (stk' := []) (h' := s16.2) 6 (fun _ _ => rfl) (fun c33 => ?_) (fun c33 => ?_)
        · rw [if_pos c33] at HF
          have hz := Option.some.inj HF
          subst hz
          rw [← H218 _ rfl] at HK19
          exact q_wk (loc := [some (.inr (.inr (30, 7, 0))), some (.inl a1), some (.inl a2), none]) ⟨Or.inl rfl, ⟨Or.inl rfl, ⟨Or.inl rfl, ⟨Or.inr ⟨rfl, fun _ h => by cases h⟩, trivial⟩⟩⟩⟩ (hP20 (s16.2) HK19)
        · rw [if_neg c33] at HF
          obtain ⟨g32, HF⟩ := q_gF HF
          refine q_gd (pc' := 81) (loc' := [some (.inr (.inr (30, 7, 0))), some (.inl a1), some (.inl a2), some (.inl s16.1)]) (stk' := [.inl (s16.2.1 31 0 7 ((1583 : Int32) + s16.1).toNatClampNeg)]) (h' := s16.2) 6 (fun _ _ => rfl) g32 ?_
          obtain ⟨z24, HA25, HK26⟩ := q_bind HF
          have hP27 : ∀ p30 : q_H, (some (.inl ((s16.1 + (1 : Int32)), p30)) : Option ((Int32 × q_H) ⊕ (q_H))) = some z23 → q_E d q_K237 96 [some (.inr (.inr (30, 7, 0))), some (.inl a1), some (.inl a2), some (.inl s16.1)] [] p30 (some (.inl r.1), r.2) := by
            intro p30 HF
            refine q_blk (pc' := 61) (loc' := [some (.inr (.inr (30, 7, 0))), some (.inl a1), some (.inl a2), some (.inl (s16.1 + (1 : Int32)))]) (stk' := []) (h' := p30) 2 (fun _ _ => rfl) ?_
            have hz := Option.some.inj HF
            subst hz
            exact H117 ((s16.1 + (1 : Int32)), p30) rfl
          replace HF := HA25
          refine q_br (P := ¬ (s16.2.1 31 0 7 ((1583 : Int32) + s16.1).toNatClampNeg) = a1) (pcT := 96) (pcF := 85) (loc' := [some (.inr (.inr (30, 7, 0))), some (.inl a1), some (.inl a2), some (.inl s16.1)]) (stk' := []) (h' := s16.2) 2 (fun _ _ => rfl) (fun c29 => ?_) (fun c29 => ?_)
          · rw [if_pos c29] at HF
            have hz := Option.some.inj HF
            subst hz
            exact hP27 (s16.2) HK26
          · rw [if_neg c29] at HF
            obtain ⟨g28, HF⟩ := q_gF HF
            refine q_gd (pc' := 96) (loc' := [some (.inr (.inr (30, 7, 0))), some (.inl a1), some (.inl a2), some (.inl s16.1)]) (stk' := []) (h' := (q_si s16.2 31 0 7 ((1583 : Int32) + s16.1).toNatClampNeg (0 : Int32))) 7 (fun _ _ => rfl) g28 ?_
            have hz := Option.some.inj HF
            subst hz
            exact hP27 (q_si s16.2 31 0 7 ((1583 : Int32) + s16.1).toNatClampNeg (0 : Int32)) HK26
      replace HF := HA6
      refine q_br (P := ¬ a2 = (1 : Int32)) (pcT := 48) (pcF := 33) (loc' := [some (.inr (.inr (30, 7, 0))), some (.inl a1), some (.inl a2), none]) (stk' := []) (h' := h) 3 (fun _ _ => rfl) (fun c14 => ?_) (fun c14 => ?_)
      · rw [if_pos c14] at HF
        have hz := Option.some.inj HF
        subst hz
        exact hP8 (h) HK7
      · rw [if_neg c14] at HF
        obtain ⟨x9, hx10, HF⟩ := q_bind HF
        refine q_cll (m' := 201) (av := [.inr (.inr (30, 7, 0)), .inl a1]) (st' := []) (pc' := 38) (loc' := [some (.inr (.inr (30, 7, 0))), some (.inl a1), some (.inl a2), none]) (h' := h) 3 (fun _ _ => rfl) (eMo_isWaiting (by omega) hx10) ?_
        refine q_br (P := x9 = 0) (pcT := 48) (pcF := 41) (loc' := [some (.inr (.inr (30, 7, 0))), some (.inl a1), some (.inl a2), none]) (stk' := []) (h' := h) 1 (fun _ _ => rfl) (fun c13 => ?_) (fun c13 => ?_)
        · rw [if_pos c13] at HF
          have hz := Option.some.inj HF
          subst hz
          exact hP8 (h) HK7
        · rw [if_neg c13] at HF
          obtain ⟨x11, hx12, HF⟩ := q_bind HF
          refine q_cll (m' := 182) (av := [.inr (.inr (30, 7, 0)), .inl (11 : Int32)]) (st' := []) (pc' := 47) (loc' := [some (.inr (.inr (30, 7, 0))), some (.inl a1), some (.inl a2), none]) (h' := h) 3 (fun _ _ => rfl) (eMo_refuse (by omega) hx12) ?_
          have hz := Option.some.inj HF
          subst hz
          replace HF := HK7
          have hz := Option.some.inj HF
          subst hz
          exact q_rtn 1 (fun _ _ => rfl)
    · rw [if_neg c49] at HF
      obtain ⟨x47, hx48, HF⟩ := q_bind HF
      refine q_cll (m' := 182) (av := [.inr (.inr (30, 7, 0)), .inl (4 : Int32)]) (st' := []) (pc' := 27) (loc' := [some (.inr (.inr (30, 7, 0))), some (.inl a1), some (.inl a2), none]) (h' := h) 3 (fun _ _ => rfl) (eMo_refuse (by omega) hx48) ?_
      have hz := Option.some.inj HF
      subst hz
      exact q_rtn 1 (fun _ _ => rfl)
  · rw [if_neg c52] at HF
    obtain ⟨x50, hx51, HF⟩ := q_bind HF
    refine q_cll (m' := 182) (av := [.inr (.inr (30, 7, 0)), .inl (2 : Int32)]) (st' := []) (pc' := 13) (loc' := [some (.inr (.inr (30, 7, 0))), some (.inl a1), some (.inl a2), none]) (h' := h) 3 (fun _ _ => rfl) (eMo_refuse (by omega) hx51) ?_
    have hz := Option.some.inj HF
    subst hz
    exact q_rtn 1 (fun _ _ => rfl)
def Mo_looksAt (a1 : Int32) (a2 : Int32) (a3 : Int32) (a4 : Int32) (h : q_H) : Option q_H :=
  (Mo_leadsTo a3 h).bind fun x1 => bif q_in ((23 : Int32) + (x1 / (10 : Int32))) 1644 then (Option.bind (α := Int32) (if ¬ (h.1 31 0 7 ((23 : Int32) + (x1 / (10 : Int32))).toNatClampNeg) = (1 : Int32) then (some ((1 : Int32))) else (some ((0 : Int32)))) (fun p8 => (Mo_chainOf x1 (q_si h 31 0 7 16 ((h.1 31 0 7 16) + p8))).bind fun x9 => (q_lp (fun s11 : Int32 × Int32 × Int32 × Int32 × q_H => (if s11.2.2.2.1 < 0 then (some (.inr ((s11.1, s11.2.2.2.2)))) else (Option.bind (α := Int32) (if s11.1 = 0 then (some ((0 : Int32))) else ((Mo_isDead s11.2.2.2.1 a4 s11.2.2.2.2).bind fun x23 => if x23 = 0 then (some ((0 : Int32))) else (some ((1 : Int32))))) (fun p27 => Option.bind (α := Int32 × q_H) (if ¬ s11.2.1 = 0 then (some ((s11.2.1, s11.2.2.2.2))) else ((Mo_isSeen a1 s11.2.2.2.1 s11.2.2.2.2).bind fun x32 => if x32 = 0 then (some ((s11.2.1, s11.2.2.2.2))) else ((Mo_of s11.2.2.2.1 (3 : Int32) s11.2.2.2.2).bind fun x34 => if ¬ x34 = a2 then (some (((1 : Int32), s11.2.2.2.2))) else ((Mo_finds s11.2.2.2.1 s11.2.2.1 s11.2.2.2.2).bind fun x36 => some (((1 : Int32), x36)))))) (fun p41 => (Mo_chainNext s11.2.2.2.1 p41.2).bind fun x42 => some (.inl (p27, p41.1, (s11.2.2.1 + (1 : Int32)), x42, p41.2))))) : Option ((Int32 × Int32 × Int32 × Int32 × q_H) ⊕ (Int32 × q_H)))) q_fu (((1 : Int32), (0 : Int32), (0 : Int32), x9, (q_si h 31 0 7 16 ((h.1 31 0 7 16) + p8))) : Int32 × Int32 × Int32 × Int32 × q_H)).bind fun p47 => if ¬ p47.1 = 0 then (bif q_in (((812 : Int32) + ((4 : Int32) * a3)) + (3 : Int32)) 1644 then ((some (q_si (q_si p47.2 31 0 7 (((812 : Int32) + ((4 : Int32) * a3)) + (3 : Int32)).toNatClampNeg (1 : Int32)) 31 0 7 15 (((q_si p47.2 31 0 7 (((812 : Int32) + ((4 : Int32) * a3)) + (3 : Int32)).toNatClampNeg (1 : Int32)).1 31 0 7 15) + (1 : Int32)))).bind fun h48 => (Mo_tellsOf (3 : Int32) a2 h48).bind fun x50 => some (x50)) else none) else (some (p47.2)))) else none
set_option maxRecDepth 100000 in
set_option maxHeartbeats 4000000 in
theorem eMo_looksAt {d : Nat} (hd : 5 ≤ d) {a1 : Int32} {a2 : Int32} {a3 : Int32} {a4 : Int32} {h : q_H} {r : q_H} (HF : Mo_looksAt a1 a2 a3 a4 h = some r) : q_T d 241 [.inr (.inr (30, 7, 0)), .inl a1, .inl a2, .inl a3, .inl a4] h (none, r) := by
  obtain ⟨d, rfl⟩ : ∃ d', d = d' + 1 := ⟨d - 1, by omega⟩
  refine q_ent q_K241 rfl rfl rfl ?_
  unfold Mo_looksAt at HF
  obtain ⟨x1, hx2, HF⟩ := q_bind HF
  refine q_cll (m' := 217) (av := [.inr (.inr (30, 7, 0)), .inl a3]) (st' := []) (pc' := 5) (loc' := [some (.inr (.inr (30, 7, 0))), some (.inl a1), some (.inl a2), some (.inl a3), some (.inl a4), none, none, none, none, none]) (h' := h) 3 (fun _ _ => rfl) (eMo_leadsTo (by omega) hx2) ?_
  obtain ⟨g55, HF⟩ := q_gF HF
  refine q_gd (pc' := 28) (loc' := [some (.inr (.inr (30, 7, 0))), some (.inl a1), some (.inl a2), some (.inl a3), some (.inl a4), some (.inl x1), none, none, none, none]) (stk' := [.inl (h.1 31 0 7 ((23 : Int32) + (x1 / (10 : Int32))).toNatClampNeg), .inl (h.1 31 0 7 16), .inl (16 : Int32), .inr (.inr (31, 7, 0))]) (h' := h) 14 (fun _ _ => rfl) g55 ?_
  obtain ⟨z3, HA4, HK5⟩ := q_bind HF
  have hP6 : ∀ p8 : Int32, ((Mo_chainOf x1 (q_si h 31 0 7 16 ((h.1 31 0 7 16) + p8))).bind fun x9 => (q_lp (fun s11 : Int32 × Int32 × Int32 × Int32 × q_H => (if s11.2.2.2.1 < 0 then (some (.inr ((s11.1, s11.2.2.2.2)))) else (Option.bind (α := Int32) (if s11.1 = 0 then (some ((0 : Int32))) else ((Mo_isDead s11.2.2.2.1 a4 s11.2.2.2.2).bind fun x23 => if x23 = 0 then (some ((0 : Int32))) else (some ((1 : Int32))))) (fun p27 => Option.bind (α := Int32 × q_H) (if ¬ s11.2.1 = 0 then (some ((s11.2.1, s11.2.2.2.2))) else ((Mo_isSeen a1 s11.2.2.2.1 s11.2.2.2.2).bind fun x32 => if x32 = 0 then (some ((s11.2.1, s11.2.2.2.2))) else ((Mo_of s11.2.2.2.1 (3 : Int32) s11.2.2.2.2).bind fun x34 => if ¬ x34 = a2 then (some (((1 : Int32), s11.2.2.2.2))) else ((Mo_finds s11.2.2.2.1 s11.2.2.1 s11.2.2.2.2).bind fun x36 => some (((1 : Int32), x36)))))) (fun p41 => (Mo_chainNext s11.2.2.2.1 p41.2).bind fun x42 => some (.inl (p27, p41.1, (s11.2.2.1 + (1 : Int32)), x42, p41.2))))) : Option ((Int32 × Int32 × Int32 × Int32 × q_H) ⊕ (Int32 × q_H)))) q_fu (((1 : Int32), (0 : Int32), (0 : Int32), x9, (q_si h 31 0 7 16 ((h.1 31 0 7 16) + p8))) : Int32 × Int32 × Int32 × Int32 × q_H)).bind fun p47 => if ¬ p47.1 = 0 then (bif q_in (((812 : Int32) + ((4 : Int32) * a3)) + (3 : Int32)) 1644 then ((some (q_si (q_si p47.2 31 0 7 (((812 : Int32) + ((4 : Int32) * a3)) + (3 : Int32)).toNatClampNeg (1 : Int32)) 31 0 7 15 (((q_si p47.2 31 0 7 (((812 : Int32) + ((4 : Int32) * a3)) + (3 : Int32)).toNatClampNeg (1 : Int32)).1 31 0 7 15) + (1 : Int32)))).bind fun h48 => (Mo_tellsOf (3 : Int32) a2 h48).bind fun x50 => some (x50)) else none) else (some (p47.2)) : Option q_H) = some r → q_E d q_K241 37 [some (.inr (.inr (30, 7, 0))), some (.inl a1), some (.inl a2), some (.inl a3), some (.inl a4), some (.inl x1), none, none, none, none] [.inl p8, .inl (h.1 31 0 7 16), .inl (16 : Int32), .inr (.inr (31, 7, 0))] h (none, r) := by
    intro p8 HF
    obtain ⟨x9, hx10, HF⟩ := q_bind HF
    refine q_cll (m' := 209) (av := [.inr (.inr (30, 7, 0)), .inl x1]) (st' := []) (pc' := 54) (loc' := [some (.inr (.inr (30, 7, 0))), some (.inl a1), some (.inl a2), some (.inl a3), some (.inl a4), some (.inl x1), some (.inl (1 : Int32)), some (.inl (0 : Int32)), some (.inl (0 : Int32)), none]) (h' := (q_si h 31 0 7 16 ((h.1 31 0 7 16) + p8))) 11 (fun _ _ => rfl) (eMo_chainOf (by omega) hx10) ?_
    refine q_blk (pc' := 56) (loc' := [some (.inr (.inr (30, 7, 0))), some (.inl a1), some (.inl a2), some (.inl a3), some (.inl a4), some (.inl x1), some (.inl (1 : Int32)), some (.inl (0 : Int32)), some (.inl (0 : Int32)), some (.inl x9)]) (stk' := []) (h' := (q_si h 31 0 7 16 ((h.1 31 0 7 16) + p8))) 1 (fun _ _ => rfl) ?_
    obtain ⟨r16, hl17, HK14⟩ := q_bind HF
    have hP15 : ∀ p47 : Int32 × q_H, (if ¬ p47.1 = 0 then (bif q_in (((812 : Int32) + ((4 : Int32) * a3)) + (3 : Int32)) 1644 then ((some (q_si (q_si p47.2 31 0 7 (((812 : Int32) + ((4 : Int32) * a3)) + (3 : Int32)).toNatClampNeg (1 : Int32)) 31 0 7 15 (((q_si p47.2 31 0 7 (((812 : Int32) + ((4 : Int32) * a3)) + (3 : Int32)).toNatClampNeg (1 : Int32)).1 31 0 7 15) + (1 : Int32)))).bind fun h48 => (Mo_tellsOf (3 : Int32) a2 h48).bind fun x50 => some (x50)) else none) else (some (p47.2)) : Option q_H) = some r → q_E d q_K241 135 [some (.inr (.inr (30, 7, 0))), some (.inl a1), some (.inl a2), some (.inl a3), some (.inl a4), some (.inl x1), some (.inl p47.1), none, none, none] [] p47.2 (none, r) := by
      intro p47 HF
      refine q_br (P := ¬ p47.1 = 0) (pcT := 141) (pcF := 140) (loc' := [some (.inr (.inr (30, 7, 0))), some (.inl a1), some (.inl a2), some (.inl a3), some (.inl a4), some (.inl x1), some (.inl p47.1), none, none, none]) (stk' := []) (h' := p47.2) 2 (fun _ _ => rfl) (fun c53 => ?_) (fun c53 => ?_)
      · rw [if_pos c53] at HF
        obtain ⟨g52, HF⟩ := q_gF HF
        refine q_gd (pc' := 156) (loc' := [some (.inr (.inr (30, 7, 0))), some (.inl a1), some (.inl a2), some (.inl a3), some (.inl a4), some (.inl x1), some (.inl p47.1), none, none, none]) (stk' := []) (h' := (q_si p47.2 31 0 7 (((812 : Int32) + ((4 : Int32) * a3)) + (3 : Int32)).toNatClampNeg (1 : Int32))) 11 (fun _ _ => rfl) g52 ?_
        obtain ⟨h48, e49, HF⟩ := q_bind HF
        refine q_blk (pc' := 167) (loc' := [some (.inr (.inr (30, 7, 0))), some (.inl a1), some (.inl a2), some (.inl a3), some (.inl a4), some (.inl x1), some (.inl p47.1), none, none, none]) (stk' := []) (h' := (q_si (q_si p47.2 31 0 7 (((812 : Int32) + ((4 : Int32) * a3)) + (3 : Int32)).toNatClampNeg (1 : Int32)) 31 0 7 15 (((q_si p47.2 31 0 7 (((812 : Int32) + ((4 : Int32) * a3)) + (3 : Int32)).toNatClampNeg (1 : Int32)).1 31 0 7 15) + (1 : Int32)))) 8 (fun _ _ => rfl) ?_
        rw [Option.some.inj e49]
        obtain ⟨x50, hx51, HF⟩ := q_bind HF
        refine q_cll (m' := 212) (av := [.inr (.inr (30, 7, 0)), .inl (3 : Int32), .inl a2]) (st' := []) (pc' := 173) (loc' := [some (.inr (.inr (30, 7, 0))), some (.inl a1), some (.inl a2), some (.inl a3), some (.inl a4), some (.inl x1), some (.inl p47.1), none, none, none]) (h' := h48) 4 (fun _ _ => rfl) (eMo_tellsOf (by omega) hx51) ?_
        have hz := Option.some.inj HF
        subst hz
        exact q_rtn 1 (fun _ _ => rfl)
      · rw [if_neg c53] at HF
        have hz := Option.some.inj HF
        subst hz
        exact q_rtn 1 (fun _ _ => rfl)
    refine q_lpE (E := fun s11 => q_E d q_K241 56 [some (.inr (.inr (30, 7, 0))), some (.inl a1), some (.inl a2), some (.inl a3), some (.inl a4), some (.inl x1), some (.inl s11.1), some (.inl s11.2.1), some (.inl s11.2.2.1), some (.inl s11.2.2.2.1)] [] s11.2.2.2.2 (none, r)) r16 (fun s11 z18 HF H112 H213 => ?_) _ _ hl17
    refine q_br (P := s11.2.2.2.1 < 0) (pcT := 135) (pcF := 61) (loc' := [some (.inr (.inr (30, 7, 0))), some (.inl a1), some (.inl a2), some (.inl a3), some (.inl a4), some (.inl x1), some (.inl s11.1), some (.inl s11.2.1), some (.inl s11.2.2.1), some (.inl s11.2.2.2.1)]) (stk' := []) (h' := s11.2.2.2.2) 2 (fun _ _ => rfl) (fun c46 => ?_) (fun c46 => ?_)
    · rw [if_pos c46] at HF
      have hz := Option.some.inj HF
      subst hz
      rw [← H213 _ rfl] at HK14
      exact q_wk (loc := [some (.inr (.inr (30, 7, 0))), some (.inl a1), some (.inl a2), some (.inl a3), some (.inl a4), some (.inl x1), some (.inl s11.1), none, none, none]) ⟨Or.inl rfl, ⟨Or.inl rfl, ⟨Or.inl rfl, ⟨Or.inl rfl, ⟨Or.inl rfl, ⟨Or.inl rfl, ⟨Or.inl rfl, ⟨Or.inr ⟨rfl, fun _ h => by cases h⟩, ⟨Or.inr ⟨rfl, fun _ h => by cases h⟩, ⟨Or.inr ⟨rfl, fun _ h => by cases h⟩, trivial⟩⟩⟩⟩⟩⟩⟩⟩⟩⟩ (hP15 (s11.1, s11.2.2.2.2) HK14)
    · rw [if_neg c46] at HF
      obtain ⟨z19, HA20, HK21⟩ := q_bind HF
      have hP22 : ∀ p27 : Int32, (Option.bind (α := Int32 × q_H) (if ¬ s11.2.1 = 0 then (some ((s11.2.1, s11.2.2.2.2))) else ((Mo_isSeen a1 s11.2.2.2.1 s11.2.2.2.2).bind fun x32 => if x32 = 0 then (some ((s11.2.1, s11.2.2.2.2))) else ((Mo_of s11.2.2.2.1 (3 : Int32) s11.2.2.2.2).bind fun x34 => if ¬ x34 = a2 then (some (((1 : Int32), s11.2.2.2.2))) else ((Mo_finds s11.2.2.2.1 s11.2.2.1 s11.2.2.2.2).bind fun x36 => some (((1 : Int32), x36)))))) (fun p41 => (Mo_chainNext s11.2.2.2.1 p41.2).bind fun x42 => some (.inl (p27, p41.1, (s11.2.2.1 + (1 : Int32)), x42, p41.2))) : Option ((Int32 × Int32 × Int32 × Int32 × q_H) ⊕ (Int32 × q_H))) = some z18 → q_E d q_K241 82 [some (.inr (.inr (30, 7, 0))), some (.inl a1), some (.inl a2), some (.inl a3), some (.inl a4), some (.inl x1), some (.inl s11.1), some (.inl s11.2.1), some (.inl s11.2.2.1), some (.inl s11.2.2.2.1)] [.inl p27] s11.2.2.2.2 (none, r) := by
        intro p27 HF
        obtain ⟨z28, HA29, HK30⟩ := q_bind HF
        have hP31 : ∀ p41 : Int32 × q_H, ((Mo_chainNext s11.2.2.2.1 p41.2).bind fun x42 => some (.inl (p27, p41.1, (s11.2.2.1 + (1 : Int32)), x42, p41.2)) : Option ((Int32 × Int32 × Int32 × Int32 × q_H) ⊕ (Int32 × q_H))) = some z18 → q_E d q_K241 121 [some (.inr (.inr (30, 7, 0))), some (.inl a1), some (.inl a2), some (.inl a3), some (.inl a4), some (.inl x1), some (.inl p27), some (.inl p41.1), some (.inl s11.2.2.1), some (.inl s11.2.2.2.1)] [] p41.2 (none, r) := by
          intro p41 HF
          obtain ⟨x42, hx43, HF⟩ := q_bind HF
          refine q_cll (m' := 210) (av := [.inr (.inr (30, 7, 0)), .inl s11.2.2.2.1]) (st' := []) (pc' := 130) (loc' := [some (.inr (.inr (30, 7, 0))), some (.inl a1), some (.inl a2), some (.inl a3), some (.inl a4), some (.inl x1), some (.inl p27), some (.inl p41.1), some (.inl (s11.2.2.1 + (1 : Int32))), some (.inl s11.2.2.2.1)]) (h' := p41.2) 4 (fun _ _ => rfl) (eMo_chainNext (by omega) hx43) ?_
          refine q_blk (pc' := 56) (loc' := [some (.inr (.inr (30, 7, 0))), some (.inl a1), some (.inl a2), some (.inl a3), some (.inl a4), some (.inl x1), some (.inl p27), some (.inl p41.1), some (.inl (s11.2.2.1 + (1 : Int32))), some (.inl x42)]) (stk' := []) (h' := p41.2) 2 (fun _ _ => rfl) ?_
          have hz := Option.some.inj HF
          subst hz
          exact H112 (p27, p41.1, (s11.2.2.1 + (1 : Int32)), x42, p41.2) rfl
        replace HF := HA29
        refine q_br (P := ¬ s11.2.1 = 0) (pcT := 121) (pcF := 89) (loc' := [some (.inr (.inr (30, 7, 0))), some (.inl a1), some (.inl a2), some (.inl a3), some (.inl a4), some (.inl x1), some (.inl p27), some (.inl s11.2.1), some (.inl s11.2.2.1), some (.inl s11.2.2.2.1)]) (stk' := []) (h' := s11.2.2.2.2) 3 (fun _ _ => rfl) (fun c40 => ?_) (fun c40 => ?_)
        · rw [if_pos c40] at HF
          have hz := Option.some.inj HF
          subst hz
          exact hP31 (s11.2.1, s11.2.2.2.2) HK30
        · rw [if_neg c40] at HF
          obtain ⟨x32, hx33, HF⟩ := q_bind HF
          refine q_cll (m' := 202) (av := [.inr (.inr (30, 7, 0)), .inl a1, .inl s11.2.2.2.1]) (st' := []) (pc' := 96) (loc' := [some (.inr (.inr (30, 7, 0))), some (.inl a1), some (.inl a2), some (.inl a3), some (.inl a4), some (.inl x1), some (.inl p27), some (.inl s11.2.1), some (.inl s11.2.2.1), some (.inl s11.2.2.2.1)]) (h' := s11.2.2.2.2) 4 (fun _ _ => rfl) (eMo_isSeen (by omega) hx33) ?_
          refine q_br (P := x32 = 0) (pcT := 121) (pcF := 99) (loc' := [some (.inr (.inr (30, 7, 0))), some (.inl a1), some (.inl a2), some (.inl a3), some (.inl a4), some (.inl x1), some (.inl p27), some (.inl s11.2.1), some (.inl s11.2.2.1), some (.inl s11.2.2.2.1)]) (stk' := []) (h' := s11.2.2.2.2) 1 (fun _ _ => rfl) (fun c39 => ?_) (fun c39 => ?_)
          · rw [if_pos c39] at HF
            have hz := Option.some.inj HF
            subst hz
            exact hP31 (s11.2.1, s11.2.2.2.2) HK30
          · rw [if_neg c39] at HF
            obtain ⟨x34, hx35, HF⟩ := q_bind HF
            refine q_cll (m' := 187) (av := [.inr (.inr (30, 7, 0)), .inl s11.2.2.2.1, .inl (3 : Int32)]) (st' := []) (pc' := 109) (loc' := [some (.inr (.inr (30, 7, 0))), some (.inl a1), some (.inl a2), some (.inl a3), some (.inl a4), some (.inl x1), some (.inl p27), some (.inl (1 : Int32)), some (.inl s11.2.2.1), some (.inl s11.2.2.2.1)]) (h' := s11.2.2.2.2) 6 (fun _ _ => rfl) (eMo_of (by omega) hx35) ?_
            refine q_br (P := ¬ x34 = a2) (pcT := 121) (pcF := 113) (loc' := [some (.inr (.inr (30, 7, 0))), some (.inl a1), some (.inl a2), some (.inl a3), some (.inl a4), some (.inl x1), some (.inl p27), some (.inl (1 : Int32)), some (.inl s11.2.2.1), some (.inl s11.2.2.2.1)]) (stk' := []) (h' := s11.2.2.2.2) 2 (fun _ _ => rfl) (fun c38 => ?_) (fun c38 => ?_)
            · rw [if_pos c38] at HF
              have hz := Option.some.inj HF
              subst hz
              exact hP31 ((1 : Int32), s11.2.2.2.2) HK30
            · rw [if_neg c38] at HF
              obtain ⟨x36, hx37, HF⟩ := q_bind HF
              refine q_cll (m' := 242) (av := [.inr (.inr (30, 7, 0)), .inl s11.2.2.2.1, .inl s11.2.2.1]) (st' := []) (pc' := 121) (loc' := [some (.inr (.inr (30, 7, 0))), some (.inl a1), some (.inl a2), some (.inl a3), some (.inl a4), some (.inl x1), some (.inl p27), some (.inl (1 : Int32)), some (.inl s11.2.2.1), some (.inl s11.2.2.2.1)]) (h' := s11.2.2.2.2) 4 (fun _ _ => rfl) (eMo_finds (by omega) hx37) ?_
              have hz := Option.some.inj HF
              subst hz
              exact hP31 ((1 : Int32), x36) HK30
      replace HF := HA20
      refine q_br (P := s11.1 = 0) (pcT := 81) (pcF := 66) (loc' := [some (.inr (.inr (30, 7, 0))), some (.inl a1), some (.inl a2), some (.inl a3), some (.inl a4), some (.inl x1), some (.inl s11.1), some (.inl s11.2.1), some (.inl s11.2.2.1), some (.inl s11.2.2.2.1)]) (stk' := []) (h' := s11.2.2.2.2) 2 (fun _ _ => rfl) (fun c26 => ?_) (fun c26 => ?_)
      · rw [if_pos c26] at HF
        refine q_blk (pc' := 82) (loc' := [some (.inr (.inr (30, 7, 0))), some (.inl a1), some (.inl a2), some (.inl a3), some (.inl a4), some (.inl x1), some (.inl s11.1), some (.inl s11.2.1), some (.inl s11.2.2.1), some (.inl s11.2.2.2.1)]) (stk' := [.inl (0 : Int32)]) (h' := s11.2.2.2.2) 1 (fun _ _ => rfl) ?_
        have hz := Option.some.inj HF
        subst hz
        exact hP22 (0 : Int32) HK21
      · rw [if_neg c26] at HF
        obtain ⟨x23, hx24, HF⟩ := q_bind HF
        refine q_cll (m' := 207) (av := [.inr (.inr (30, 7, 0)), .inl s11.2.2.2.1, .inl a4]) (st' := []) (pc' := 74) (loc' := [some (.inr (.inr (30, 7, 0))), some (.inl a1), some (.inl a2), some (.inl a3), some (.inl a4), some (.inl x1), some (.inl s11.1), some (.inl s11.2.1), some (.inl s11.2.2.1), some (.inl s11.2.2.2.1)]) (h' := s11.2.2.2.2) 4 (fun _ _ => rfl) (eMo_isDead (by omega) hx24) ?_
        refine q_br (P := x23 = 0) (pcT := 81) (pcF := 77) (loc' := [some (.inr (.inr (30, 7, 0))), some (.inl a1), some (.inl a2), some (.inl a3), some (.inl a4), some (.inl x1), some (.inl s11.1), some (.inl s11.2.1), some (.inl s11.2.2.1), some (.inl s11.2.2.2.1)]) (stk' := []) (h' := s11.2.2.2.2) 1 (fun _ _ => rfl) (fun c25 => ?_) (fun c25 => ?_)
        · rw [if_pos c25] at HF
          refine q_blk (pc' := 82) (loc' := [some (.inr (.inr (30, 7, 0))), some (.inl a1), some (.inl a2), some (.inl a3), some (.inl a4), some (.inl x1), some (.inl s11.1), some (.inl s11.2.1), some (.inl s11.2.2.1), some (.inl s11.2.2.2.1)]) (stk' := [.inl (0 : Int32)]) (h' := s11.2.2.2.2) 1 (fun _ _ => rfl) ?_
          have hz := Option.some.inj HF
          subst hz
          exact hP22 (0 : Int32) HK21
        · rw [if_neg c25] at HF
          refine q_blk (pc' := 82) (loc' := [some (.inr (.inr (30, 7, 0))), some (.inl a1), some (.inl a2), some (.inl a3), some (.inl a4), some (.inl x1), some (.inl s11.1), some (.inl s11.2.1), some (.inl s11.2.2.1), some (.inl s11.2.2.2.1)]) (stk' := [.inl (1 : Int32)]) (h' := s11.2.2.2.2) 2 (fun _ _ => rfl) ?_
          have hz := Option.some.inj HF
          subst hz
          exact hP22 (1 : Int32) HK21
  replace HF := HA4
  refine q_br (P := ¬ (h.1 31 0 7 ((23 : Int32) + (x1 / (10 : Int32))).toNatClampNeg) = (1 : Int32)) (pcT := 36) (pcF := 32) (loc' := [some (.inr (.inr (30, 7, 0))), some (.inl a1), some (.inl a2), some (.inl a3), some (.inl a4), some (.inl x1), none, none, none, none]) (stk' := [.inl (h.1 31 0 7 16), .inl (16 : Int32), .inr (.inr (31, 7, 0))]) (h' := h) 2 (fun _ _ => rfl) (fun c7 => ?_) (fun c7 => ?_)
  · rw [if_pos c7] at HF
    refine q_blk (pc' := 37) (loc' := [some (.inr (.inr (30, 7, 0))), some (.inl a1), some (.inl a2), some (.inl a3), some (.inl a4), some (.inl x1), none, none, none, none]) (stk' := [.inl (1 : Int32), .inl (h.1 31 0 7 16), .inl (16 : Int32), .inr (.inr (31, 7, 0))]) (h' := h) 1 (fun _ _ => rfl) ?_
    have hz := Option.some.inj HF
    subst hz
    exact hP6 (1 : Int32) HK5
  · rw [if_neg c7] at HF
    refine q_blk (pc' := 37) (loc' := [some (.inr (.inr (30, 7, 0))), some (.inl a1), some (.inl a2), some (.inl a3), some (.inl a4), some (.inl x1), none, none, none, none]) (stk' := [.inl (0 : Int32), .inl (h.1 31 0 7 16), .inl (16 : Int32), .inr (.inr (31, 7, 0))]) (h' := h) 2 (fun _ _ => rfl) ?_
    have hz := Option.some.inj HF
    subst hz
    exact hP6 (0 : Int32) HK5
def Mo_page (a1 : Int32) (a2 : Int32) (h : q_H) : Option (Int32 × q_H) :=
  (Mo_isIn a2 (0 : Int32) (4 : Int32) h).bind fun x1 => Option.bind (α := Int32) (if ¬ x1 = 0 then ((Mo_isPage a1 h).bind fun x7 => if ¬ x7 = 0 then (some ((0 : Int32))) else (some ((2 : Int32)))) else (some ((1 : Int32)))) (fun p11 => (Mo_is p11 h).bind fun x12 => if ¬ x12.1 = 0 then (if a2 = 0 then (bif q_in ((17 : Int32) + a1) 1644 then (some (((x12.2.1 31 0 7 ((17 : Int32) + a1).toNatClampNeg), x12.2))) else none) else (if a2 = 1 then ((Mo_freeIn a1 x12.2).bind fun x15 => some ((x15, x12.2))) else (if a2 = 2 then ((Mo_horizon x12.2).bind fun x17 => (Mo_deadUnits a1 (a1 + (1 : Int32)) x17 x12.2).bind fun x19 => some ((x19, x12.2))) else (if a2 = 3 then ((Mo_unusedIn a1 x12.2).bind fun x21 => some ((x21, x12.2))) else (bif q_in ((23 : Int32) + a1) 1644 then (some (((x12.2.1 31 0 7 ((23 : Int32) + a1).toNatClampNeg), x12.2))) else none))))) else (some (((-1 : Int32), x12.2))))
set_option maxRecDepth 100000 in
set_option maxHeartbeats 4000000 in
theorem eMo_page {d : Nat} (hd : 5 ≤ d) {a1 : Int32} {a2 : Int32} {h : q_H} {r : (Int32 × q_H)} (HF : Mo_page a1 a2 h = some r) : q_T d 268 [.inr (.inr (30, 7, 0)), .inl a1, .inl a2] h (some (.inl r.1), r.2) := by
  obtain ⟨d, rfl⟩ : ∃ d', d = d' + 1 := ⟨d - 1, by omega⟩
  refine q_ent q_K268 rfl rfl rfl ?_
  unfold Mo_page at HF
  obtain ⟨x1, hx2, HF⟩ := q_bind HF
  refine q_cll (m' := 184) (av := [.inl a2, .inl (0 : Int32), .inl (4 : Int32)]) (st' := [.inr (.inr (30, 7, 0))]) (pc' := 7) (loc' := [some (.inr (.inr (30, 7, 0))), some (.inl a1), some (.inl a2)]) (h' := h) 5 (fun _ _ => rfl) (eMo_isIn (by omega) hx2) ?_
  obtain ⟨z3, HA4, HK5⟩ := q_bind HF
  have hP6 : ∀ p11 : Int32, ((Mo_is p11 h).bind fun x12 => if ¬ x12.1 = 0 then (if a2 = 0 then (bif q_in ((17 : Int32) + a1) 1644 then (some (((x12.2.1 31 0 7 ((17 : Int32) + a1).toNatClampNeg), x12.2))) else none) else (if a2 = 1 then ((Mo_freeIn a1 x12.2).bind fun x15 => some ((x15, x12.2))) else (if a2 = 2 then ((Mo_horizon x12.2).bind fun x17 => (Mo_deadUnits a1 (a1 + (1 : Int32)) x17 x12.2).bind fun x19 => some ((x19, x12.2))) else (if a2 = 3 then ((Mo_unusedIn a1 x12.2).bind fun x21 => some ((x21, x12.2))) else (bif q_in ((23 : Int32) + a1) 1644 then (some (((x12.2.1 31 0 7 ((23 : Int32) + a1).toNatClampNeg), x12.2))) else none))))) else (some (((-1 : Int32), x12.2))) : Option (Int32 × q_H)) = some r → q_E d q_K268 26 [some (.inr (.inr (30, 7, 0))), some (.inl a1), some (.inl a2)] [.inl p11, .inr (.inr (30, 7, 0))] h (some (.inl r.1), r.2) := by
    intro p11 HF
    obtain ⟨x12, hx13, HF⟩ := q_bind HF
    refine q_cll (m' := 183) (av := [.inr (.inr (30, 7, 0)), .inl p11]) (st' := []) (pc' := 29) (loc' := [some (.inr (.inr (30, 7, 0))), some (.inl a1), some (.inl a2)]) (h' := h) 1 (fun _ _ => rfl) (eMo_is (by omega) hx13) ?_
    refine q_br (P := ¬ x12.1 = 0) (pcT := 34) (pcF := 32) (loc' := [some (.inr (.inr (30, 7, 0))), some (.inl a1), some (.inl a2)]) (stk' := []) (h' := x12.2) 1 (fun _ _ => rfl) (fun c28 => ?_) (fun c28 => ?_)
    · rw [if_pos c28] at HF
      by_cases c24 : a2 = 0
      · rw [if_pos c24] at HF
        refine q_sw (o1 := 29) (pcx := 35) (pc' := 64) (loc' := [some (.inr (.inr (30, 7, 0))), some (.inl a1), some (.inl a2)]) (stk' := []) (h' := x12.2) 2 (fun _ _ => rfl) (q_tsI c24 rfl) rfl ?_
        obtain ⟨g14, HF⟩ := q_gF HF
        refine q_gd (pc' := 73) (loc' := [some (.inr (.inr (30, 7, 0))), some (.inl a1), some (.inl a2)]) (stk' := [.inl (x12.2.1 31 0 7 ((17 : Int32) + a1).toNatClampNeg)]) (h' := x12.2) 6 (fun _ _ => rfl) g14 ?_
        have hz := Option.some.inj HF
        subst hz
        exact q_rtn 1 (fun _ _ => rfl)
      · rw [if_neg c24] at HF
        by_cases c25 : a2 = 1
        · rw [if_pos c25] at HF
          refine q_sw (o1 := 39) (pcx := 35) (pc' := 74) (loc' := [some (.inr (.inr (30, 7, 0))), some (.inl a1), some (.inl a2)]) (stk' := []) (h' := x12.2) 2 (fun _ _ => rfl) (q_tsI c25 rfl) rfl ?_
          obtain ⟨x15, hx16, HF⟩ := q_bind HF
          refine q_cll (m' := 192) (av := [.inr (.inr (30, 7, 0)), .inl a1]) (st' := []) (pc' := 79) (loc' := [some (.inr (.inr (30, 7, 0))), some (.inl a1), some (.inl a2)]) (h' := x12.2) 3 (fun _ _ => rfl) (eMo_freeIn (by omega) hx16) ?_
          have hz := Option.some.inj HF
          subst hz
          exact q_rtn 1 (fun _ _ => rfl)
        · rw [if_neg c25] at HF
          by_cases c26 : a2 = 2
          · rw [if_pos c26] at HF
            refine q_sw (o1 := 45) (pcx := 35) (pc' := 80) (loc' := [some (.inr (.inr (30, 7, 0))), some (.inl a1), some (.inl a2)]) (stk' := []) (h' := x12.2) 2 (fun _ _ => rfl) (q_tsI c26 rfl) rfl ?_
            obtain ⟨x17, hx18, HF⟩ := q_bind HF
            refine q_cll (m' := 205) (av := [.inr (.inr (30, 7, 0))]) (st' := [.inl (a1 + (1 : Int32)), .inl a1, .inr (.inr (30, 7, 0))]) (pc' := 89) (loc' := [some (.inr (.inr (30, 7, 0))), some (.inl a1), some (.inl a2)]) (h' := x12.2) 7 (fun _ _ => rfl) (eMo_horizon (by omega) hx18) ?_
            obtain ⟨x19, hx20, HF⟩ := q_bind HF
            refine q_cll (m' := 266) (av := [.inr (.inr (30, 7, 0)), .inl a1, .inl (a1 + (1 : Int32)), .inl x17]) (st' := []) (pc' := 92) (loc' := [some (.inr (.inr (30, 7, 0))), some (.inl a1), some (.inl a2)]) (h' := x12.2) 1 (fun _ _ => rfl) (eMo_deadUnits (by omega) hx20) ?_
            have hz := Option.some.inj HF
            subst hz
            exact q_rtn 1 (fun _ _ => rfl)
          · rw [if_neg c26] at HF
            by_cases c27 : a2 = 3
            · rw [if_pos c27] at HF
              refine q_sw (o1 := 58) (pcx := 35) (pc' := 93) (loc' := [some (.inr (.inr (30, 7, 0))), some (.inl a1), some (.inl a2)]) (stk' := []) (h' := x12.2) 2 (fun _ _ => rfl) (q_tsI c27 rfl) rfl ?_
              obtain ⟨x21, hx22, HF⟩ := q_bind HF
              refine q_cll (m' := 267) (av := [.inr (.inr (30, 7, 0)), .inl a1]) (st' := []) (pc' := 98) (loc' := [some (.inr (.inr (30, 7, 0))), some (.inl a1), some (.inl a2)]) (h' := x12.2) 3 (fun _ _ => rfl) (eMo_unusedIn (by omega) hx22) ?_
              have hz := Option.some.inj HF
              subst hz
              exact q_rtn 1 (fun _ _ => rfl)
            · rw [if_neg c27] at HF
              refine q_sw (o1 := 64) (pcx := 35) (pc' := 99) (loc' := [some (.inr (.inr (30, 7, 0))), some (.inl a1), some (.inl a2)]) (stk' := []) (h' := x12.2) 2 (fun _ _ => rfl) (q_tsD (a := a2) (lo := 0) (hi := 3) (by have z0 := q_neI c24 (a := 0) rfl; have z1 := q_neI c25 (a := 1) rfl; have z2 := q_neI c26 (a := 2) rfl; have z3 := q_neI c27 (a := 3) rfl; omega)) rfl ?_
              obtain ⟨g23, HF⟩ := q_gF HF
              refine q_gd (pc' := 108) (loc' := [some (.inr (.inr (30, 7, 0))), some (.inl a1), some (.inl a2)]) (stk' := [.inl (x12.2.1 31 0 7 ((23 : Int32) + a1).toNatClampNeg)]) (h' := x12.2) 6 (fun _ _ => rfl) g23 ?_
              have hz := Option.some.inj HF
              subst hz
              exact q_rtn 1 (fun _ _ => rfl)
    · rw [if_neg c28] at HF
      have hz := Option.some.inj HF
      subst hz
      exact q_rtn 2 (fun _ _ => rfl)
  replace HF := HA4
  refine q_br (P := ¬ x1 = 0) (pcT := 14) (pcF := 10) (loc' := [some (.inr (.inr (30, 7, 0))), some (.inl a1), some (.inl a2)]) (stk' := [.inr (.inr (30, 7, 0))]) (h' := h) 1 (fun _ _ => rfl) (fun c10 => ?_) (fun c10 => ?_)
  · rw [if_pos c10] at HF
    obtain ⟨x7, hx8, HF⟩ := q_bind HF
    refine q_cll (m' := 265) (av := [.inl a1]) (st' := [.inr (.inr (30, 7, 0))]) (pc' := 18) (loc' := [some (.inr (.inr (30, 7, 0))), some (.inl a1), some (.inl a2)]) (h' := h) 2 (fun _ _ => rfl) (eMo_isPage (by omega) hx8) ?_
    refine q_br (P := ¬ x7 = 0) (pcT := 25) (pcF := 21) (loc' := [some (.inr (.inr (30, 7, 0))), some (.inl a1), some (.inl a2)]) (stk' := [.inr (.inr (30, 7, 0))]) (h' := h) 1 (fun _ _ => rfl) (fun c9 => ?_) (fun c9 => ?_)
    · rw [if_pos c9] at HF
      refine q_blk (pc' := 26) (loc' := [some (.inr (.inr (30, 7, 0))), some (.inl a1), some (.inl a2)]) (stk' := [.inl (0 : Int32), .inr (.inr (30, 7, 0))]) (h' := h) 1 (fun _ _ => rfl) ?_
      have hz := Option.some.inj HF
      subst hz
      exact hP6 (0 : Int32) HK5
    · rw [if_neg c9] at HF
      refine q_blk (pc' := 26) (loc' := [some (.inr (.inr (30, 7, 0))), some (.inl a1), some (.inl a2)]) (stk' := [.inl (2 : Int32), .inr (.inr (30, 7, 0))]) (h' := h) 2 (fun _ _ => rfl) ?_
      have hz := Option.some.inj HF
      subst hz
      exact hP6 (2 : Int32) HK5
  · rw [if_neg c10] at HF
    refine q_blk (pc' := 26) (loc' := [some (.inr (.inr (30, 7, 0))), some (.inl a1), some (.inl a2)]) (stk' := [.inl (1 : Int32), .inr (.inr (30, 7, 0))]) (h' := h) 2 (fun _ _ => rfl) ?_
    have hz := Option.some.inj HF
    subst hz
    exact hP6 (1 : Int32) HK5
