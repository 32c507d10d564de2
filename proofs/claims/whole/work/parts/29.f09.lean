def St_lookFor (k : Nat) (a1 : Int32) (a2 : Int32) (h : q_H) : Option (Int32 × q_H) :=
  (q_lp (fun s1 : Int32 × q_H => (if (s1.2.1 11 3 k 0) ≤ s1.1 then (some (.inr (((s1.2.1 19 4 k 0), s1.2)))) else ((Ix_keyAt k s1.1 s1.2).bind fun x9 => Option.bind (α := q_H) (if ¬ x9 = a2 then (some (s1.2)) else ((Ix_isKilled k s1.1 s1.2).bind fun x15 => if x15 = 0 then ((Ix_placeAt k s1.1 s1.2).bind fun x17 => (Rp_pageOf x17 s1.2).bind fun x19 => (Pg_isClear k x19 s1.2).bind fun x21 => Option.bind (α := q_H) (if ¬ x21 = 0 then (some (s1.2)) else ((Lg_count k (7 : Int32) (1 : Int32) s1.2).bind fun x27 => some (x27))) (fun p30 => (St_goThrough k a1 a2 s1.1 p30).bind fun x31 => some (x31))) else (some (s1.2)))) (fun p36 => some (.inl ((s1.1 + (1 : Int32)), p36)))) : Option ((Int32 × q_H) ⊕ (Int32 × q_H)))) q_fu (((0 : Int32), (q_si h 19 4 k 0 (0 : Int32))) : Int32 × q_H)).bind fun z8 => some z8
set_option maxRecDepth 100000 in
set_option maxHeartbeats 4000000 in
theorem eSt_lookFor {d : Nat} (hd : 4 ≤ d) {k : Nat} {a1 : Int32} {a2 : Int32} {h : q_H} {r : (Int32 × q_H)} (HF : St_lookFor k a1 a2 h = some r) : q_T d 173 [.inr (.inr (0, k, 0)), .inl a1, .inl a2] h (some (.inl r.1), r.2) := by
  obtain ⟨d, rfl⟩ : ∃ d', d = d' + 1 := ⟨d - 1, by omega⟩
  refine q_ent q_K173 rfl rfl rfl ?_
  unfold St_lookFor at HF
  refine q_blk (pc' := 10) (loc' := [some (.inr (.inr (0, k, 0))), some (.inl a1), some (.inl a2), some (.inl (0 : Int32))]) (stk' := []) (h' := (q_si h 19 4 k 0 (0 : Int32))) 6 (fun _ _ => rfl) ?_
  obtain ⟨r6, hl7, HK4⟩ := q_bind HF
  refine q_lpE (E := fun s1 => q_E d q_K173 10 [some (.inr (.inr (0, k, 0))), some (.inl a1), some (.inl a2), some (.inl s1.1)] [] s1.2 (some (.inl r.1), r.2)) r6 (fun s1 z8 HF H12 H23 => ?_) _ _ hl7
  refine q_br (P := (s1.2.1 11 3 k 0) ≤ s1.1) (pcT := 91) (pcF := 21) (loc' := [some (.inr (.inr (0, k, 0))), some (.inl a1), some (.inl a2), some (.inl s1.1)]) (stk' := []) (h' := s1.2) 5 (fun _ _ => rfl) (fun c38 => ?_) (fun c38 => ?_)
  · rw [if_pos c38] at HF
    have hz := Option.some.inj HF
    subst hz
    replace HF := HK4
    rw [← H23 _ rfl] at HF
    have hz := Option.some.inj HF
    subst hz
    exact q_rtn 4 (fun _ _ => rfl)
  · rw [if_neg c38] at HF
    obtain ⟨x9, hx10, HF⟩ := q_bind HF
    refine q_cll (m' := 71) (av := [.inr (.inr (11, k, 0)), .inl s1.1]) (st' := []) (pc' := 29) (loc' := [some (.inr (.inr (0, k, 0))), some (.inl a1), some (.inl a2), some (.inl s1.1)]) (h' := s1.2) 4 (fun _ _ => rfl) (eIx_keyAt (by omega) hx10) ?_
    obtain ⟨z11, HA12, HK13⟩ := q_bind HF
    have hP14 : ∀ p36 : q_H, (some (.inl ((s1.1 + (1 : Int32)), p36)) : Option ((Int32 × q_H) ⊕ (Int32 × q_H))) = some z8 → q_E d q_K173 85 [some (.inr (.inr (0, k, 0))), some (.inl a1), some (.inl a2), some (.inl s1.1)] [] p36 (some (.inl r.1), r.2) := by
      intro p36 HF
      refine q_blk (pc' := 10) (loc' := [some (.inr (.inr (0, k, 0))), some (.inl a1), some (.inl a2), some (.inl (s1.1 + (1 : Int32)))]) (stk' := []) (h' := p36) 2 (fun _ _ => rfl) ?_
      have hz := Option.some.inj HF
      subst hz
      exact H12 ((s1.1 + (1 : Int32)), p36) rfl
    replace HF := HA12
    refine q_br (P := ¬ x9 = a2) (pcT := 85) (pcF := 33) (loc' := [some (.inr (.inr (0, k, 0))), some (.inl a1), some (.inl a2), some (.inl s1.1)]) (stk' := []) (h' := s1.2) 2 (fun _ _ => rfl) (fun c35 => ?_) (fun c35 => ?_)
    · rw [if_pos c35] at HF
      have hz := Option.some.inj HF
      subst hz
      exact hP14 (s1.2) HK13
    · rw [if_neg c35] at HF
      obtain ⟨x15, hx16, HF⟩ := q_bind HF
      refine q_cll (m' := 73) (av := [.inr (.inr (11, k, 0)), .inl s1.1]) (st' := []) (pc' := 41) (loc' := [some (.inr (.inr (0, k, 0))), some (.inl a1), some (.inl a2), some (.inl s1.1)]) (h' := s1.2) 4 (fun _ _ => rfl) (eIx_isKilled (by omega) hx16) ?_
      refine q_br (P := x15 = 0) (pcT := 47) (pcF := 44) (loc' := [some (.inr (.inr (0, k, 0))), some (.inl a1), some (.inl a2), some (.inl s1.1)]) (stk' := []) (h' := s1.2) 1 (fun _ _ => rfl) (fun c34 => ?_) (fun c34 => ?_)
      · rw [if_pos c34] at HF
        obtain ⟨x17, hx18, HF⟩ := q_bind HF
        refine q_cll (m' := 72) (av := [.inr (.inr (11, k, 0)), .inl s1.1]) (st' := [.inr (.inr (1, k, 0))]) (pc' := 59) (loc' := [some (.inr (.inr (0, k, 0))), some (.inl a1), some (.inl a2), some (.inl s1.1)]) (h' := s1.2) 6 (fun _ _ => rfl) (eIx_placeAt (by omega) hx18) ?_
        obtain ⟨x19, hx20, HF⟩ := q_bind HF
        refine q_cll (m' := 58) (av := [.inl x17]) (st' := [.inr (.inr (1, k, 0))]) (pc' := 62) (loc' := [some (.inr (.inr (0, k, 0))), some (.inl a1), some (.inl a2), some (.inl s1.1)]) (h' := s1.2) 1 (fun _ _ => rfl) (eRp_pageOf (by omega) hx20) ?_
        obtain ⟨x21, hx22, HF⟩ := q_bind HF
        refine q_cll (m' := 92) (av := [.inr (.inr (1, k, 0)), .inl x19]) (st' := []) (pc' := 65) (loc' := [some (.inr (.inr (0, k, 0))), some (.inl a1), some (.inl a2), some (.inl s1.1)]) (h' := s1.2) 1 (fun _ _ => rfl) (ePg_isClear (by omega) hx22) ?_
        obtain ⟨z23, HA24, HK25⟩ := q_bind HF
        have hP26 : ∀ p30 : q_H, ((St_goThrough k a1 a2 s1.1 p30).bind fun x31 => some (x31) : Option (q_H)) = some z11 → q_E d q_K173 78 [some (.inr (.inr (0, k, 0))), some (.inl a1), some (.inl a2), some (.inl s1.1)] [] p30 (some (.inl r.1), r.2) := by
          intro p30 HF
          obtain ⟨x31, hx32, HF⟩ := q_bind HF
          refine q_cll (m' := 174) (av := [.inr (.inr (0, k, 0)), .inl a1, .inl a2, .inl s1.1]) (st' := []) (pc' := 85) (loc' := [some (.inr (.inr (0, k, 0))), some (.inl a1), some (.inl a2), some (.inl s1.1)]) (h' := p30) 5 (fun _ _ => rfl) (eSt_goThrough (by omega) hx32) ?_
          have hz := Option.some.inj HF
          subst hz
          exact hP14 (x31) HK13
        replace HF := HA24
        refine q_br (P := ¬ x21 = 0) (pcT := 78) (pcF := 68) (loc' := [some (.inr (.inr (0, k, 0))), some (.inl a1), some (.inl a2), some (.inl s1.1)]) (stk' := []) (h' := s1.2) 1 (fun _ _ => rfl) (fun c29 => ?_) (fun c29 => ?_)
        · rw [if_pos c29] at HF
          have hz := Option.some.inj HF
          subst hz
          exact hP26 (s1.2) HK25
        · rw [if_neg c29] at HF
          obtain ⟨x27, hx28, HF⟩ := q_bind HF
          refine q_cll (m' := 85) (av := [.inr (.inr (15, k, 0)), .inl (7 : Int32), .inl (1 : Int32)]) (st' := []) (pc' := 78) (loc' := [some (.inr (.inr (0, k, 0))), some (.inl a1), some (.inl a2), some (.inl s1.1)]) (h' := s1.2) 5 (fun _ _ => rfl) (eLg_count (by omega) hx28) ?_
          have hz := Option.some.inj HF
          subst hz
          exact hP26 (x27) HK25
      · rw [if_neg c34] at HF
        refine q_blk (pc' := 85) (loc' := [some (.inr (.inr (0, k, 0))), some (.inl a1), some (.inl a2), some (.inl s1.1)]) (stk' := []) (h' := s1.2) 1 (fun _ _ => rfl) ?_
        have hz := Option.some.inj HF
        subst hz
        exact hP14 (s1.2) HK13
def St_layDown (k : Nat) (k1 : Nat) (i1 : Nat) (a2 : Int32) (h : q_H) : Option q_H :=
  (Pg_at k a2 h).bind fun x1 => (Sl_copyFrom k x1 k1 i1 h).bind fun x3 => (Ix_add k ((q_si (q_si (q_si x3 3 10 k x1 (0 : Int32)) 3 7 k x1 (-1 : Int32)) 3 8 k x1 (-1 : Int32)).1 3 3 k1 i1) a2 (q_si (q_si (q_si x3 3 10 k x1 (0 : Int32)) 3 7 k x1 (-1 : Int32)) 3 8 k x1 (-1 : Int32))).bind fun x5 => some (x5)
set_option maxRecDepth 100000 in
set_option maxHeartbeats 4000000 in
theorem eSt_layDown {d : Nat} (hd : 4 ≤ d) {k : Nat} {k1 : Nat} {i1 : Nat} {a2 : Int32} {h : q_H} {r : q_H} (HF : St_layDown k k1 i1 a2 h = some r) : q_T d 177 [.inr (.inr (0, k, 0)), .inr (.inr (3, k1, i1)), .inl a2] h (none, r) := by
  obtain ⟨d, rfl⟩ : ∃ d', d = d' + 1 := ⟨d - 1, by omega⟩
  refine q_ent q_K177 rfl rfl rfl ?_
  unfold St_layDown at HF
  obtain ⟨x1, hx2, HF⟩ := q_bind HF
  refine q_cll (m' := 89) (av := [.inr (.inr (1, k, 0)), .inl a2]) (st' := []) (pc' := 8) (loc' := [some (.inr (.inr (0, k, 0))), some (.inr (.inr (3, k1, i1))), some (.inl a2), none]) (h' := h) 4 (fun _ _ => rfl) (ePg_at (by omega) hx2) ?_
  obtain ⟨x3, hx4, HF⟩ := q_bind HF
  refine q_cll (m' := 64) (av := [.inr (.inr (3, k, x1)), .inr (.inr (3, k1, i1))]) (st' := []) (pc' := 14) (loc' := [some (.inr (.inr (0, k, 0))), some (.inr (.inr (3, k1, i1))), some (.inl a2), some (.inr (.inr (3, k, x1)))]) (h' := h) 4 (fun _ _ => rfl) (eSl_copyFrom (by omega) hx4) ?_
  obtain ⟨x5, hx6, HF⟩ := q_bind HF
  refine q_cll (m' := 77) (av := [.inr (.inr (11, k, 0)), .inl ((q_si (q_si (q_si x3 3 10 k x1 (0 : Int32)) 3 7 k x1 (-1 : Int32)) 3 8 k x1 (-1 : Int32)).1 3 3 k1 i1), .inl a2]) (st' := []) (pc' := 41) (loc' := [some (.inr (.inr (0, k, 0))), some (.inr (.inr (3, k1, i1))), some (.inl a2), some (.inr (.inr (3, k, x1)))]) (h' := (q_si (q_si (q_si x3 3 10 k x1 (0 : Int32)) 3 7 k x1 (-1 : Int32)) 3 8 k x1 (-1 : Int32))) 15 (fun _ _ => rfl) (eIx_add (by omega) hx6) ?_
  have hz := Option.some.inj HF
  subst hz
  exact q_rtn 1 (fun _ _ => rfl)
def St_lastingBehind (k : Nat) (a1 : Int32) (a2 : Int32) (h : q_H) : Option Int32 :=
  (q_lp (fun s1 : Int32 × Int32 => (if (60 : Int32) ≤ s1.2 then (some (.inr (s1.1))) else ((Pg_at k s1.2 h).bind fun x9 => Option.bind (α := Int32) (if ¬ (h.1 3 0 k x9) = (1 : Int32) then (some (s1.1)) else ((St_isLasting k k x9 h).bind fun x15 => Option.bind (α := (Unit) ⊕ (Int32)) (if x15 = 0 then (some (.inr (s1.1))) else (some (.inl ()))) (fun z17 => match z17 with | .inl p22 => (St_isAhead k a1 a2 k x9 h).bind fun x23 => if ¬ x23 = 0 then ((Pg_at k s1.1 h).bind fun x25 => if s1.1 = (-1 : Int32) then (some (s1.2)) else ((St_isAhead k (h.1 3 3 k x9) (h.1 3 2 k x9) k x25 h).bind fun x27 => if x27 = 0 then (some (s1.1)) else (some (s1.2)))) else (some (s1.1)) | .inr z17 => some z17))) (fun p34 => some (.inl (p34, (s1.2 + (1 : Int32)))))) : Option ((Int32 × Int32) ⊕ Int32))) q_fu (((-1 : Int32), (0 : Int32)) : Int32 × Int32)).bind fun z8 => some z8
set_option maxRecDepth 100000 in
set_option maxHeartbeats 4000000 in
theorem eSt_lastingBehind {d : Nat} (hd : 4 ≤ d) {k : Nat} {a1 : Int32} {a2 : Int32} {h : q_H} {r : Int32} (HF : St_lastingBehind k a1 a2 h = some r) : q_T d 178 [.inr (.inr (0, k, 0)), .inl a1, .inl a2] h (some (.inl r), h) := by
  obtain ⟨d, rfl⟩ : ∃ d', d = d' + 1 := ⟨d - 1, by omega⟩
  refine q_ent q_K178 rfl rfl rfl ?_
  unfold St_lastingBehind at HF
  refine q_blk (pc' := 5) (loc' := [some (.inr (.inr (0, k, 0))), some (.inl a1), some (.inl a2), some (.inl (-1 : Int32)), some (.inl (0 : Int32)), none, none]) (stk' := []) (h' := h) 4 (fun _ _ => rfl) ?_
  obtain ⟨r6, hl7, HK4⟩ := q_bind HF
  refine q_lpE (E := fun s1 => q_E d q_K178 5 [some (.inr (.inr (0, k, 0))), some (.inl a1), some (.inl a2), some (.inl s1.1), some (.inl s1.2), none, none] [] h (some (.inl r), h)) r6 (fun s1 z8 HF H12 H23 => ?_) _ _ hl7
  refine q_br (P := (60 : Int32) ≤ s1.2) (pcT := 98) (pcF := 12) (loc' := [some (.inr (.inr (0, k, 0))), some (.inl a1), some (.inl a2), some (.inl s1.1), some (.inl s1.2), none, none]) (stk' := []) (h' := h) 3 (fun _ _ => rfl) (fun c36 => ?_) (fun c36 => ?_)
  · rw [if_pos c36] at HF
    have hz := Option.some.inj HF
    subst hz
    replace HF := HK4
    rw [← H23 _ rfl] at HF
    have hz := Option.some.inj HF
    subst hz
    exact q_rtn 2 (fun _ _ => rfl)
  · rw [if_neg c36] at HF
    obtain ⟨x9, hx10, HF⟩ := q_bind HF
    refine q_cll (m' := 89) (av := [.inr (.inr (1, k, 0)), .inl s1.2]) (st' := []) (pc' := 21) (loc' := [some (.inr (.inr (0, k, 0))), some (.inl a1), some (.inl a2), some (.inl s1.1), some (.inl s1.2), none, none]) (h' := h) 4 (fun _ _ => rfl) (ePg_at (by omega) hx10) ?_
    obtain ⟨z11, HA12, HK13⟩ := q_bind HF
    have hP14 : ∀ p34 : Int32, (some (.inl (p34, (s1.2 + (1 : Int32)))) : Option ((Int32 × Int32) ⊕ Int32)) = some z8 → q_E d q_K178 92 [some (.inr (.inr (0, k, 0))), some (.inl a1), some (.inl a2), some (.inl p34), some (.inl s1.2), some (.inr (.inr (3, k, x9))), none] [] h (some (.inl r), h) := by
      intro p34 HF
      refine q_blk (pc' := 5) (loc' := [some (.inr (.inr (0, k, 0))), some (.inl a1), some (.inl a2), some (.inl p34), some (.inl (s1.2 + (1 : Int32))), some (.inr (.inr (3, k, x9))), none]) (stk' := []) (h' := h) 2 (fun _ _ => rfl) ?_
      have hz := Option.some.inj HF
      subst hz
      exact q_wk (loc := [some (.inr (.inr (0, k, 0))), some (.inl a1), some (.inl a2), some (.inl p34), some (.inl (s1.2 + (1 : Int32))), none, none]) ⟨Or.inl rfl, ⟨Or.inl rfl, ⟨Or.inl rfl, ⟨Or.inl rfl, ⟨Or.inl rfl, ⟨Or.inr ⟨rfl, fun _ h => by cases h⟩, ⟨Or.inl rfl, trivial⟩⟩⟩⟩⟩⟩⟩ (H12 (p34, (s1.2 + (1 : Int32))) rfl)
    replace HF := HA12
    refine q_br (P := ¬ (h.1 3 0 k x9) = (1 : Int32)) (pcT := 92) (pcF := 32) (loc' := [some (.inr (.inr (0, k, 0))), some (.inl a1), some (.inl a2), some (.inl s1.1), some (.inl s1.2), some (.inr (.inr (3, k, x9))), none]) (stk' := []) (h' := h) 5 (fun _ _ => rfl) (fun c33 => ?_) (fun c33 => ?_)
    · rw [if_pos c33] at HF
      have hz := Option.some.inj HF
      subst hz
      exact hP14 (s1.1) HK13
    · rw [if_neg c33] at HF
      obtain ⟨x15, hx16, HF⟩ := q_bind HF
      refine q_cll (m' := 179) (av := [.inr (.inr (0, k, 0)), .inr (.inr (3, k, x9))]) (st' := []) (pc' := 38) (loc' := [some (.inr (.inr (0, k, 0))), some (.inl a1), some (.inl a2), some (.inl s1.1), some (.inl s1.2), some (.inr (.inr (3, k, x9))), none]) (h' := h) 3 (fun _ _ => rfl) (eSt_isLasting (by omega) hx16) ?_
      obtain ⟨z17, HA18, HK19⟩ := q_bind HF
      have hP20 : ∀ p22 : Unit, ((St_isAhead k a1 a2 k x9 h).bind fun x23 => if ¬ x23 = 0 then ((Pg_at k s1.1 h).bind fun x25 => if s1.1 = (-1 : Int32) then (some (s1.2)) else ((St_isAhead k (h.1 3 3 k x9) (h.1 3 2 k x9) k x25 h).bind fun x27 => if x27 = 0 then (some (s1.1)) else (some (s1.2)))) else (some (s1.1)) : Option (Int32)) = some z11 → q_E d q_K178 41 [some (.inr (.inr (0, k, 0))), some (.inl a1), some (.inl a2), some (.inl s1.1), some (.inl s1.2), some (.inr (.inr (3, k, x9))), none] [] h (some (.inl r), h) := by
        intro p22 HF
        obtain ⟨x23, hx24, HF⟩ := q_bind HF
        refine q_cll (m' := 180) (av := [.inr (.inr (0, k, 0)), .inl a1, .inl a2, .inr (.inr (3, k, x9))]) (st' := []) (pc' := 49) (loc' := [some (.inr (.inr (0, k, 0))), some (.inl a1), some (.inl a2), some (.inl s1.1), some (.inl s1.2), some (.inr (.inr (3, k, x9))), none]) (h' := h) 5 (fun _ _ => rfl) (eSt_isAhead (by omega) hx24) ?_
        refine q_br (P := ¬ x23 = 0) (pcT := 55) (pcF := 52) (loc' := [some (.inr (.inr (0, k, 0))), some (.inl a1), some (.inl a2), some (.inl s1.1), some (.inl s1.2), some (.inr (.inr (3, k, x9))), none]) (stk' := []) (h' := h) 1 (fun _ _ => rfl) (fun c31 => ?_) (fun c31 => ?_)
        · rw [if_pos c31] at HF
          obtain ⟨x25, hx26, HF⟩ := q_bind HF
          refine q_cll (m' := 89) (av := [.inr (.inr (1, k, 0)), .inl s1.1]) (st' := []) (pc' := 63) (loc' := [some (.inr (.inr (0, k, 0))), some (.inl a1), some (.inl a2), some (.inl s1.1), some (.inl s1.2), some (.inr (.inr (3, k, x9))), none]) (h' := h) 4 (fun _ _ => rfl) (ePg_at (by omega) hx26) ?_
          refine q_br (P := s1.1 = (-1 : Int32)) (pcT := 89) (pcF := 70) (loc' := [some (.inr (.inr (0, k, 0))), some (.inl a1), some (.inl a2), some (.inl s1.1), some (.inl s1.2), some (.inr (.inr (3, k, x9))), some (.inr (.inr (3, k, x25)))]) (stk' := []) (h' := h) 4 (fun _ _ => rfl) (fun c30 => ?_) (fun c30 => ?_)
          · rw [if_pos c30] at HF
            refine q_blk (pc' := 92) (loc' := [some (.inr (.inr (0, k, 0))), some (.inl a1), some (.inl a2), some (.inl s1.2), some (.inl s1.2), some (.inr (.inr (3, k, x9))), some (.inr (.inr (3, k, x25)))]) (stk' := []) (h' := h) 2 (fun _ _ => rfl) ?_
            have hz := Option.some.inj HF
            subst hz
            exact q_wk (loc := [some (.inr (.inr (0, k, 0))), some (.inl a1), some (.inl a2), some (.inl s1.2), some (.inl s1.2), some (.inr (.inr (3, k, x9))), none]) ⟨Or.inl rfl, ⟨Or.inl rfl, ⟨Or.inl rfl, ⟨Or.inl rfl, ⟨Or.inl rfl, ⟨Or.inl rfl, ⟨Or.inr ⟨rfl, fun _ h => by cases h⟩, trivial⟩⟩⟩⟩⟩⟩⟩ (hP14 (s1.2) HK13)
          · rw [if_neg c30] at HF
            obtain ⟨x27, hx28, HF⟩ := q_bind HF
            refine q_cll (m' := 180) (av := [.inr (.inr (0, k, 0)), .inl (h.1 3 3 k x9), .inl (h.1 3 2 k x9), .inr (.inr (3, k, x25))]) (st' := []) (pc' := 86) (loc' := [some (.inr (.inr (0, k, 0))), some (.inl a1), some (.inl a2), some (.inl s1.1), some (.inl s1.2), some (.inr (.inr (3, k, x9))), some (.inr (.inr (3, k, x25)))]) (h' := h) 7 (fun _ _ => rfl) (eSt_isAhead (by omega) hx28) ?_
            refine q_br (P := x27 = 0) (pcT := 92) (pcF := 89) (loc' := [some (.inr (.inr (0, k, 0))), some (.inl a1), some (.inl a2), some (.inl s1.1), some (.inl s1.2), some (.inr (.inr (3, k, x9))), some (.inr (.inr (3, k, x25)))]) (stk' := []) (h' := h) 1 (fun _ _ => rfl) (fun c29 => ?_) (fun c29 => ?_)
            · rw [if_pos c29] at HF
              have hz := Option.some.inj HF
              subst hz
              exact q_wk (loc := [some (.inr (.inr (0, k, 0))), some (.inl a1), some (.inl a2), some (.inl s1.1), some (.inl s1.2), some (.inr (.inr (3, k, x9))), none]) ⟨Or.inl rfl, ⟨Or.inl rfl, ⟨Or.inl rfl, ⟨Or.inl rfl, ⟨Or.inl rfl, ⟨Or.inl rfl, ⟨Or.inr ⟨rfl, fun _ h => by cases h⟩, trivial⟩⟩⟩⟩⟩⟩⟩ (hP14 (s1.1) HK13)
            · rw [if_neg c29] at HF
              refine q_blk (pc' := 92) (loc' := [some (.inr (.inr (0, k, 0))), some (.inl a1), some (.inl a2), some (.inl s1.2), some (.inl s1.2), some (.inr (.inr (3, k, x9))), some (.inr (.inr (3, k, x25)))]) (stk' := []) (h' := h) 2 (fun _ _ => rfl) ?_
              have hz := Option.some.inj HF
              subst hz
              exact q_wk (loc := [some (.inr (.inr (0, k, 0))), some (.inl a1), some (.inl a2), some (.inl s1.2), some (.inl s1.2), some (.inr (.inr (3, k, x9))), none]) ⟨Or.inl rfl, ⟨Or.inl rfl, ⟨Or.inl rfl, ⟨Or.inl rfl, ⟨Or.inl rfl, ⟨Or.inl rfl, ⟨Or.inr ⟨rfl, fun _ h => by cases h⟩, trivial⟩⟩⟩⟩⟩⟩⟩ (hP14 (s1.2) HK13)
        · rw [if_neg c31] at HF
          refine q_blk (pc' := 92) (loc' := [some (.inr (.inr (0, k, 0))), some (.inl a1), some (.inl a2), some (.inl s1.1), some (.inl s1.2), some (.inr (.inr (3, k, x9))), none]) (stk' := []) (h' := h) 1 (fun _ _ => rfl) ?_
          have hz := Option.some.inj HF
          subst hz
          exact hP14 (s1.1) HK13
      replace HF := HA18
      refine q_br (P := x15 = 0) (pcT := 92) (pcF := 41) (loc' := [some (.inr (.inr (0, k, 0))), some (.inl a1), some (.inl a2), some (.inl s1.1), some (.inl s1.2), some (.inr (.inr (3, k, x9))), none]) (stk' := []) (h' := h) 1 (fun _ _ => rfl) (fun c21 => ?_) (fun c21 => ?_)
      · rw [if_pos c21] at HF
        have hz := Option.some.inj HF
        subst hz
        replace HF := HK19
        have hz := Option.some.inj HF
        subst hz
        exact hP14 (s1.1) HK13
      · rw [if_neg c21] at HF
        have hz := Option.some.inj HF
        subst hz
        exact hP20 () HK19
def Mo_placeIn (a1 : Int32) (a2 : Int32) (h : q_H) : Option Int32 :=
  (Mo_freeIn a1 h).bind fun x1 => if a2 ≤ x1 then ((q_lp (fun s3 : Int32 => (bif q_in ((17 : Int32) + a1) 1644 then (Option.bind (α := (Unit) ⊕ ((Int32) ⊕ ((Unit) ⊕ Int32))) (if (((10 : Int32) * a1) + (h.1 31 0 7 ((17 : Int32) + a1).toNatClampNeg)) ≤ s3 then (some (.inr (.inr (.inl ())))) else (some (.inl ()))) (fun z11 => match z11 with | .inl p16 => (Mo_of s3 (0 : Int32) h).bind fun x17 => if ¬ x17 = 0 then (some (.inl (s3 + (1 : Int32)))) else (some (.inr (.inr (s3)))) | .inr z11 => some z11)) else none : Option ((Int32) ⊕ ((Unit) ⊕ Int32)))) q_fu (((10 : Int32) * a1) : Int32)).bind fun z10 => match z10 with | .inl p22 => bif q_in ((17 : Int32) + a1) 1644 then (if (10 : Int32) ≤ (h.1 31 0 7 ((17 : Int32) + a1).toNatClampNeg) then (some ((-1 : Int32))) else (bif q_in ((17 : Int32) + a1) 1644 then (some ((((10 : Int32) * a1) + (h.1 31 0 7 ((17 : Int32) + a1).toNatClampNeg)))) else none)) else none | .inr z10 => some z10) else (some ((-1 : Int32)))
set_option maxRecDepth 100000 in
set_option maxHeartbeats 4000000 in
theorem eMo_placeIn {d : Nat} (hd : 4 ≤ d) {a1 : Int32} {a2 : Int32} {h : q_H} {r : Int32} (HF : Mo_placeIn a1 a2 h = some r) : q_T d 193 [.inr (.inr (30, 7, 0)), .inl a1, .inl a2] h (some (.inl r), h) := by
  obtain ⟨d, rfl⟩ : ∃ d', d = d' + 1 := ⟨d - 1, by omega⟩
  refine q_ent q_K193 rfl rfl rfl ?_
  unfold Mo_placeIn at HF
  obtain ⟨x1, hx2, HF⟩ := q_bind HF
  refine q_cll (m' := 192) (av := [.inr (.inr (30, 7, 0)), .inl a1]) (st' := []) (pc' := 5) (loc' := [some (.inr (.inr (30, 7, 0))), some (.inl a1), some (.inl a2), none]) (h' := h) 3 (fun _ _ => rfl) (eMo_freeIn (by omega) hx2) ?_
  refine q_br (P := a2 ≤ x1) (pcT := 11) (pcF := 9) (loc' := [some (.inr (.inr (30, 7, 0))), some (.inl a1), some (.inl a2), none]) (stk' := []) (h' := h) 2 (fun _ _ => rfl) (fun c26 => ?_) (fun c26 => ?_)
  · rw [if_pos c26] at HF
    refine q_blk (pc' := 16) (loc' := [some (.inr (.inr (30, 7, 0))), some (.inl a1), some (.inl a2), some (.inl ((10 : Int32) * a1))]) (stk' := []) (h' := h) 4 (fun _ _ => rfl) ?_
    obtain ⟨r8, hl9, HK6⟩ := q_bind HF
    have hP7 : ∀ p22 : Unit, (bif q_in ((17 : Int32) + a1) 1644 then (if (10 : Int32) ≤ (h.1 31 0 7 ((17 : Int32) + a1).toNatClampNeg) then (some ((-1 : Int32))) else (bif q_in ((17 : Int32) + a1) 1644 then (some ((((10 : Int32) * a1) + (h.1 31 0 7 ((17 : Int32) + a1).toNatClampNeg)))) else none)) else none : Option Int32) = some r → q_E d q_K193 51 [some (.inr (.inr (30, 7, 0))), some (.inl a1), some (.inl a2), none] [] h (some (.inl r), h) := by
      intro p22 HF
      obtain ⟨g25, HF⟩ := q_gF HF
      refine q_gd (pc' := 60) (loc' := [some (.inr (.inr (30, 7, 0))), some (.inl a1), some (.inl a2), none]) (stk' := [.inl (h.1 31 0 7 ((17 : Int32) + a1).toNatClampNeg)]) (h' := h) 6 (fun _ _ => rfl) g25 ?_
      refine q_br (P := (10 : Int32) ≤ (h.1 31 0 7 ((17 : Int32) + a1).toNatClampNeg)) (pcT := 82) (pcF := 65) (loc' := [some (.inr (.inr (30, 7, 0))), some (.inl a1), some (.inl a2), none]) (stk' := []) (h' := h) 2 (fun _ _ => rfl) (fun c24 => ?_) (fun c24 => ?_)
      · rw [if_pos c24] at HF
        have hz := Option.some.inj HF
        subst hz
        exact q_rtn 2 (fun _ _ => rfl)
      · rw [if_neg c24] at HF
        obtain ⟨g23, HF⟩ := q_gF HF
        refine q_gd (pc' := 78) (loc' := [some (.inr (.inr (30, 7, 0))), some (.inl a1), some (.inl a2), none]) (stk' := [.inl (h.1 31 0 7 ((17 : Int32) + a1).toNatClampNeg), .inl ((10 : Int32) * a1)]) (h' := h) 9 (fun _ _ => rfl) g23 ?_
        have hz := Option.some.inj HF
        subst hz
        exact q_rtn 3 (fun _ _ => rfl)
    refine q_lpE (E := fun s3 => q_E d q_K193 16 [some (.inr (.inr (30, 7, 0))), some (.inl a1), some (.inl a2), some (.inl s3)] [] h (some (.inl r), h)) r8 (fun s3 z10 HF H14 H25 => ?_) _ _ hl9
    obtain ⟨g21, HF⟩ := q_gF HF
    refine q_gd (pc' := 30) (loc' := [some (.inr (.inr (30, 7, 0))), some (.inl a1), some (.inl a2), some (.inl s3)]) (stk' := [.inl (h.1 31 0 7 ((17 : Int32) + a1).toNatClampNeg), .inl ((10 : Int32) * a1), .inl s3]) (h' := h) 10 (fun _ _ => rfl) g21 ?_
    obtain ⟨z11, HA12, HK13⟩ := q_bind HF
    have hP14 : ∀ p16 : Unit, ((Mo_of s3 (0 : Int32) h).bind fun x17 => if ¬ x17 = 0 then (some (.inl (s3 + (1 : Int32)))) else (some (.inr (.inr (s3)))) : Option ((Int32) ⊕ ((Unit) ⊕ Int32))) = some z10 → q_E d q_K193 34 [some (.inr (.inr (30, 7, 0))), some (.inl a1), some (.inl a2), some (.inl s3)] [] h (some (.inl r), h) := by
      intro p16 HF
      obtain ⟨x17, hx18, HF⟩ := q_bind HF
      refine q_cll (m' := 187) (av := [.inr (.inr (30, 7, 0)), .inl s3, .inl (0 : Int32)]) (st' := []) (pc' := 40) (loc' := [some (.inr (.inr (30, 7, 0))), some (.inl a1), some (.inl a2), some (.inl s3)]) (h' := h) 4 (fun _ _ => rfl) (eMo_of (by omega) hx18) ?_
      refine q_br (P := ¬ x17 = 0) (pcT := 45) (pcF := 43) (loc' := [some (.inr (.inr (30, 7, 0))), some (.inl a1), some (.inl a2), some (.inl s3)]) (stk' := []) (h' := h) 1 (fun _ _ => rfl) (fun c19 => ?_) (fun c19 => ?_)
      · rw [if_pos c19] at HF
        refine q_blk (pc' := 16) (loc' := [some (.inr (.inr (30, 7, 0))), some (.inl a1), some (.inl a2), some (.inl (s3 + (1 : Int32)))]) (stk' := []) (h' := h) 2 (fun _ _ => rfl) ?_
        have hz := Option.some.inj HF
        subst hz
        exact H14 (s3 + (1 : Int32)) rfl
      · rw [if_neg c19] at HF
        have hz := Option.some.inj HF
        subst hz
        replace HF := HK6
        rw [← H25 _ rfl] at HF
        have hz := Option.some.inj HF
        subst hz
        exact q_rtn 2 (fun _ _ => rfl)
    replace HF := HA12
    refine q_br (P := (((10 : Int32) * a1) + (h.1 31 0 7 ((17 : Int32) + a1).toNatClampNeg)) ≤ s3) (pcT := 51) (pcF := 34) (loc' := [some (.inr (.inr (30, 7, 0))), some (.inl a1), some (.inl a2), some (.inl s3)]) (stk' := []) (h' := h) 2 (fun _ _ => rfl) (fun c15 => ?_) (fun c15 => ?_)
    · rw [if_pos c15] at HF
      have hz := Option.some.inj HF
      subst hz
      replace HF := HK13
      have hz := Option.some.inj HF
      subst hz
      rw [← H25 _ rfl] at HK6
      exact q_wk (loc := [some (.inr (.inr (30, 7, 0))), some (.inl a1), some (.inl a2), none]) ⟨Or.inl rfl, ⟨Or.inl rfl, ⟨Or.inl rfl, ⟨Or.inr ⟨rfl, fun _ h => by cases h⟩, trivial⟩⟩⟩⟩ (hP7 () HK6)
    · rw [if_neg c15] at HF
      have hz := Option.some.inj HF
      subst hz
      exact hP14 () HK13
  · rw [if_neg c26] at HF
    have hz := Option.some.inj HF
    subst hz
    exact q_rtn 2 (fun _ _ => rfl)
def Mo_horizon  (h : q_H) : Option Int32 :=
  (Mo_horizonBut (-1 : Int32) h).bind fun x1 => some (x1)
set_option maxRecDepth 100000 in
set_option maxHeartbeats 4000000 in
theorem eMo_horizon {d : Nat} (hd : 4 ≤ d)  {h : q_H} {r : Int32} (HF : Mo_horizon  h = some r) : q_T d 205 [.inr (.inr (30, 7, 0))] h (some (.inl r), h) := by
  obtain ⟨d, rfl⟩ : ∃ d', d = d' + 1 := ⟨d - 1, by omega⟩
  refine q_ent q_K205 rfl rfl rfl ?_
  unfold Mo_horizon at HF
  obtain ⟨x1, hx2, HF⟩ := q_bind HF
  refine q_cll (m' := 204) (av := [.inr (.inr (30, 7, 0)), .inl (-1 : Int32)]) (st' := []) (pc' := 5) (loc' := [some (.inr (.inr (30, 7, 0)))]) (h' := h) 3 (fun _ _ => rfl) (eMo_horizonBut (by omega) hx2) ?_
  have hz := Option.some.inj HF
  subst hz
  exact q_rtn 1 (fun _ _ => rfl)
def Mo_chainNext (a1 : Int32) (h : q_H) : Option Int32 :=
  (Mo_enderOf a1 h).bind fun x1 => if x1 < 0 then (some ((-1 : Int32))) else ((Mo_of a1 (8 : Int32) h).bind fun x3 => if x3 = (a1 / (10 : Int32)) then ((Mo_of a1 (8 : Int32) h).bind fun x5 => (Mo_of a1 (9 : Int32) h).bind fun x7 => (Mo_isVersion (((10 : Int32) * x5) + x7) h).bind fun x9 => if x9 = 0 then (some ((-1 : Int32))) else ((Mo_of (((10 : Int32) * x5) + x7) (10 : Int32) h).bind fun x11 => if ¬ x11 = (1 : Int32) then (some ((-1 : Int32))) else ((Mo_of (((10 : Int32) * x5) + x7) (6 : Int32) h).bind fun x13 => if ¬ x13 = x1 then (some ((-1 : Int32))) else (some ((((10 : Int32) * x5) + x7)))))) else (some ((-1 : Int32))))
set_option maxRecDepth 100000 in
set_option maxHeartbeats 4000000 in
theorem eMo_chainNext {d : Nat} (hd : 4 ≤ d) {a1 : Int32} {h : q_H} {r : Int32} (HF : Mo_chainNext a1 h = some r) : q_T d 210 [.inr (.inr (30, 7, 0)), .inl a1] h (some (.inl r), h) := by
  obtain ⟨d, rfl⟩ : ∃ d', d = d' + 1 := ⟨d - 1, by omega⟩
  refine q_ent q_K210 rfl rfl rfl ?_
  unfold Mo_chainNext at HF
  obtain ⟨x1, hx2, HF⟩ := q_bind HF
  refine q_cll (m' := 206) (av := [.inr (.inr (30, 7, 0)), .inl a1]) (st' := []) (pc' := 5) (loc' := [some (.inr (.inr (30, 7, 0))), some (.inl a1), none, none]) (h' := h) 3 (fun _ _ => rfl) (eMo_enderOf (by omega) hx2) ?_
  refine q_br (P := x1 < 0) (pcT := 24) (pcF := 10) (loc' := [some (.inr (.inr (30, 7, 0))), some (.inl a1), some (.inl x1), none]) (stk' := []) (h' := h) 3 (fun _ _ => rfl) (fun c19 => ?_) (fun c19 => ?_)
  · rw [if_pos c19] at HF
    have hz := Option.some.inj HF
    subst hz
    exact q_rtn 2 (fun _ _ => rfl)
  · rw [if_neg c19] at HF
    obtain ⟨x3, hx4, HF⟩ := q_bind HF
    refine q_cll (m' := 187) (av := [.inr (.inr (30, 7, 0)), .inl a1, .inl (8 : Int32)]) (st' := []) (pc' := 17) (loc' := [some (.inr (.inr (30, 7, 0))), some (.inl a1), some (.inl x1), none]) (h' := h) 4 (fun _ _ => rfl) (eMo_of (by omega) hx4) ?_
    refine q_br (P := x3 = (a1 / (10 : Int32))) (pcT := 26) (pcF := 24) (loc' := [some (.inr (.inr (30, 7, 0))), some (.inl a1), some (.inl x1), none]) (stk' := []) (h' := h) 4 (fun _ _ => rfl) (fun c18 => ?_) (fun c18 => ?_)
    · rw [if_pos c18] at HF
      obtain ⟨x5, hx6, HF⟩ := q_bind HF
      refine q_cll (m' := 187) (av := [.inr (.inr (30, 7, 0)), .inl a1, .inl (8 : Int32)]) (st' := [.inl (10 : Int32)]) (pc' := 35) (loc' := [some (.inr (.inr (30, 7, 0))), some (.inl a1), some (.inl x1), none]) (h' := h) 5 (fun _ _ => rfl) (eMo_of (by omega) hx6) ?_
      obtain ⟨x7, hx8, HF⟩ := q_bind HF
      refine q_cll (m' := 187) (av := [.inr (.inr (30, 7, 0)), .inl a1, .inl (9 : Int32)]) (st' := [.inl ((10 : Int32) * x5)]) (pc' := 43) (loc' := [some (.inr (.inr (30, 7, 0))), some (.inl a1), some (.inl x1), none]) (h' := h) 5 (fun _ _ => rfl) (eMo_of (by omega) hx8) ?_
      obtain ⟨x9, hx10, HF⟩ := q_bind HF
      refine q_cll (m' := 191) (av := [.inr (.inr (30, 7, 0)), .inl (((10 : Int32) * x5) + x7)]) (st' := []) (pc' := 50) (loc' := [some (.inr (.inr (30, 7, 0))), some (.inl a1), some (.inl x1), some (.inl (((10 : Int32) * x5) + x7))]) (h' := h) 5 (fun _ _ => rfl) (eMo_isVersion (by omega) hx10) ?_
      refine q_br (P := x9 = 0) (pcT := 79) (pcF := 53) (loc' := [some (.inr (.inr (30, 7, 0))), some (.inl a1), some (.inl x1), some (.inl (((10 : Int32) * x5) + x7))]) (stk' := []) (h' := h) 1 (fun _ _ => rfl) (fun c17 => ?_) (fun c17 => ?_)
      · rw [if_pos c17] at HF
        have hz := Option.some.inj HF
        subst hz
        exact q_rtn 2 (fun _ _ => rfl)
      · rw [if_neg c17] at HF
        obtain ⟨x11, hx12, HF⟩ := q_bind HF
        refine q_cll (m' := 187) (av := [.inr (.inr (30, 7, 0)), .inl (((10 : Int32) * x5) + x7), .inl (10 : Int32)]) (st' := []) (pc' := 60) (loc' := [some (.inr (.inr (30, 7, 0))), some (.inl a1), some (.inl x1), some (.inl (((10 : Int32) * x5) + x7))]) (h' := h) 4 (fun _ _ => rfl) (eMo_of (by omega) hx12) ?_
        refine q_br (P := ¬ x11 = (1 : Int32)) (pcT := 79) (pcF := 64) (loc' := [some (.inr (.inr (30, 7, 0))), some (.inl a1), some (.inl x1), some (.inl (((10 : Int32) * x5) + x7))]) (stk' := []) (h' := h) 2 (fun _ _ => rfl) (fun c16 => ?_) (fun c16 => ?_)
        · rw [if_pos c16] at HF
          have hz := Option.some.inj HF
          subst hz
          exact q_rtn 2 (fun _ _ => rfl)
        · rw [if_neg c16] at HF
          obtain ⟨x13, hx14, HF⟩ := q_bind HF
          refine q_cll (m' := 187) (av := [.inr (.inr (30, 7, 0)), .inl (((10 : Int32) * x5) + x7), .inl (6 : Int32)]) (st' := []) (pc' := 71) (loc' := [some (.inr (.inr (30, 7, 0))), some (.inl a1), some (.inl x1), some (.inl (((10 : Int32) * x5) + x7))]) (h' := h) 4 (fun _ _ => rfl) (eMo_of (by omega) hx14) ?_
          refine q_br (P := ¬ x13 = x1) (pcT := 79) (pcF := 75) (loc' := [some (.inr (.inr (30, 7, 0))), some (.inl a1), some (.inl x1), some (.inl (((10 : Int32) * x5) + x7))]) (stk' := []) (h' := h) 2 (fun _ _ => rfl) (fun c15 => ?_) (fun c15 => ?_)
          · rw [if_pos c15] at HF
            have hz := Option.some.inj HF
            subst hz
            exact q_rtn 2 (fun _ _ => rfl)
          · rw [if_neg c15] at HF
            have hz := Option.some.inj HF
            subst hz
            exact q_rtn 3 (fun _ _ => rfl)
    · rw [if_neg c18] at HF
      have hz := Option.some.inj HF
      subst hz
      exact q_rtn 2 (fun _ _ => rfl)
def Mo_passes  (h : q_H) : Option q_H :=
  (q_lp (fun s1 : Int32 × q_H => (Option.bind (α := (Unit) ⊕ ((Int32 × q_H) ⊕ (q_H))) (if (60 : Int32) ≤ s1.1 then (some (.inr (.inr (s1.2)))) else (some (.inl ()))) (fun z9 => match z9 with | .inl p14 => (Mo_isSlot s1.1 s1.2).bind fun x15 => Option.bind (α := q_H) (if x15 = 0 then (some (s1.2)) else ((Mo_of s1.1 (0 : Int32) s1.2).bind fun x21 => if x21 = (3 : Int32) then (bif q_in (s1.2.1 30 9 7 0) 60 then (some ((q_si (q_si s1.2 36 0 7 (s1.2.1 30 9 7 0).toNatClampNeg s1.1) 30 9 7 0 (((q_si s1.2 36 0 7 (s1.2.1 30 9 7 0).toNatClampNeg s1.1).1 30 9 7 0) + (1 : Int32))))) else none) else (some (s1.2)))) (fun p26 => some (.inl ((s1.1 + (1 : Int32)), p26))) | .inr z9 => some z9) : Option ((Int32 × q_H) ⊕ (q_H)))) q_fu (((0 : Int32), (q_si h 30 9 7 0 (0 : Int32))) : Int32 × q_H)).bind fun p29 => (q_lp (fun s30 : Int32 × q_H => (if (s30.2.1 30 9 7 0) ≤ s30.1 then (some (.inr (s30.2))) else (Option.bind (α := Int32) (if (s30.2.1 30 9 7 0) ≤ (s30.1 + (s30.2.1 31 0 7 1)) then (some ((s30.2.1 30 9 7 0))) else (some ((s30.1 + (s30.2.1 31 0 7 1))))) (fun p43 => (Mo_takesOut s30.1 p43 s30.2).bind fun x44 => (q_lp (fun s46 : Int32 × q_H => (Option.bind (α := (Unit) ⊕ ((Int32 × q_H) ⊕ (q_H))) (if p43 ≤ s46.1 then (some (.inr (.inr (s46.2)))) else (some (.inl ()))) (fun z54 => match z54 with | .inl p59 => bif q_in s46.1 60 then ((Mo_sets (s46.2.1 36 0 7 s46.1.toNatClampNeg) (0 : Int32) (0 : Int32) s46.2).bind fun x60 => some (.inl ((s46.1 + (1 : Int32)), x60))) else none | .inr z54 => some z54) : Option ((Int32 × q_H) ⊕ (q_H)))) q_fu ((s30.1, x44.2) : Int32 × q_H)).bind fun p64 => (Mo_tellsOf (4 : Int32) x44.1 (q_si (q_si p64 31 0 7 12 ((p64.1 31 0 7 12) + (1 : Int32))) 31 0 7 13 (((q_si p64 31 0 7 12 ((p64.1 31 0 7 12) + (1 : Int32))).1 31 0 7 13) + x44.1))).bind fun x65 => some (.inl ((s30.1 + (x65.1 31 0 7 1)), x65)))) : Option ((Int32 × q_H) ⊕ q_H))) q_fu (((0 : Int32), p29) : Int32 × q_H)).bind fun z37 => some z37
set_option maxRecDepth 100000 in
set_option maxHeartbeats 4000000 in
theorem eMo_passes {d : Nat} (hd : 4 ≤ d)  {h : q_H} {r : q_H} (HF : Mo_passes  h = some r) : q_T d 221 [.inr (.inr (30, 7, 0))] h (none, r) := by
  obtain ⟨d, rfl⟩ : ∃ d', d = d' + 1 := ⟨d - 1, by omega⟩
  refine q_ent q_K221 rfl rfl rfl ?_
  unfold Mo_passes at HF
  refine q_blk (pc' := 7) (loc' := [some (.inr (.inr (30, 7, 0))), some (.inl (0 : Int32)), none, none, none]) (stk' := []) (h' := (q_si h 30 9 7 0 (0 : Int32))) 5 (fun _ _ => rfl) ?_
  obtain ⟨r6, hl7, HK4⟩ := q_bind HF
  have hP5 : ∀ p29 : q_H, ((q_lp (fun s30 : Int32 × q_H => (if (s30.2.1 30 9 7 0) ≤ s30.1 then (some (.inr (s30.2))) else (Option.bind (α := Int32) (if (s30.2.1 30 9 7 0) ≤ (s30.1 + (s30.2.1 31 0 7 1)) then (some ((s30.2.1 30 9 7 0))) else (some ((s30.1 + (s30.2.1 31 0 7 1))))) (fun p43 => (Mo_takesOut s30.1 p43 s30.2).bind fun x44 => (q_lp (fun s46 : Int32 × q_H => (Option.bind (α := (Unit) ⊕ ((Int32 × q_H) ⊕ (q_H))) (if p43 ≤ s46.1 then (some (.inr (.inr (s46.2)))) else (some (.inl ()))) (fun z54 => match z54 with | .inl p59 => bif q_in s46.1 60 then ((Mo_sets (s46.2.1 36 0 7 s46.1.toNatClampNeg) (0 : Int32) (0 : Int32) s46.2).bind fun x60 => some (.inl ((s46.1 + (1 : Int32)), x60))) else none | .inr z54 => some z54) : Option ((Int32 × q_H) ⊕ (q_H)))) q_fu ((s30.1, x44.2) : Int32 × q_H)).bind fun p64 => (Mo_tellsOf (4 : Int32) x44.1 (q_si (q_si p64 31 0 7 12 ((p64.1 31 0 7 12) + (1 : Int32))) 31 0 7 13 (((q_si p64 31 0 7 12 ((p64.1 31 0 7 12) + (1 : Int32))).1 31 0 7 13) + x44.1))).bind fun x65 => some (.inl ((s30.1 + (x65.1 31 0 7 1)), x65)))) : Option ((Int32 × q_H) ⊕ q_H))) q_fu (((0 : Int32), p29) : Int32 × q_H)).bind fun z37 => some z37 : Option q_H) = some r → q_E d q_K221 60 [some (.inr (.inr (30, 7, 0))), none, none, none, none] [] p29 (none, r) := by
    intro p29 HF
    refine q_blk (pc' := 62) (loc' := [some (.inr (.inr (30, 7, 0))), some (.inl (0 : Int32)), none, none, none]) (stk' := []) (h' := p29) 2 (fun _ _ => rfl) ?_
    obtain ⟨r35, hl36, HK33⟩ := q_bind HF
    refine q_lpE (E := fun s30 => q_E d q_K221 62 [some (.inr (.inr (30, 7, 0))), some (.inl s30.1), none, none, none] [] s30.2 (none, r)) r35 (fun s30 z37 HF H131 H232 => ?_) _ _ hl36
    refine q_br (P := (s30.2.1 30 9 7 0) ≤ s30.1) (pcT := 176) (pcF := 70) (loc' := [some (.inr (.inr (30, 7, 0))), some (.inl s30.1), none, none, none]) (stk' := []) (h' := s30.2) 4 (fun _ _ => rfl) (fun c68 => ?_) (fun c68 => ?_)
    · rw [if_pos c68] at HF
      have hz := Option.some.inj HF
      subst hz
      replace HF := HK33
      rw [← H232 _ rfl] at HF
      have hz := Option.some.inj HF
      subst hz
      exact q_rtn 1 (fun _ _ => rfl)
    · rw [if_neg c68] at HF
      obtain ⟨z38, HA39, HK40⟩ := q_bind HF
      have hP41 : ∀ p43 : Int32, ((Mo_takesOut s30.1 p43 s30.2).bind fun x44 => (q_lp (fun s46 : Int32 × q_H => (Option.bind (α := (Unit) ⊕ ((Int32 × q_H) ⊕ (q_H))) (if p43 ≤ s46.1 then (some (.inr (.inr (s46.2)))) else (some (.inl ()))) (fun z54 => match z54 with | .inl p59 => bif q_in s46.1 60 then ((Mo_sets (s46.2.1 36 0 7 s46.1.toNatClampNeg) (0 : Int32) (0 : Int32) s46.2).bind fun x60 => some (.inl ((s46.1 + (1 : Int32)), x60))) else none | .inr z54 => some z54) : Option ((Int32 × q_H) ⊕ (q_H)))) q_fu ((s30.1, x44.2) : Int32 × q_H)).bind fun p64 => (Mo_tellsOf (4 : Int32) x44.1 (q_si (q_si p64 31 0 7 12 ((p64.1 31 0 7 12) + (1 : Int32))) 31 0 7 13 (((q_si p64 31 0 7 12 ((p64.1 31 0 7 12) + (1 : Int32))).1 31 0 7 13) + x44.1))).bind fun x65 => some (.inl ((s30.1 + (x65.1 31 0 7 1)), x65)) : Option ((Int32 × q_H) ⊕ q_H)) = some z37 → q_E d q_K221 100 [some (.inr (.inr (30, 7, 0))), some (.inl s30.1), none, none, none] [.inl p43] s30.2 (none, r) := by
        intro p43 HF
        obtain ⟨x44, hx45, HF⟩ := q_bind HF
        refine q_cll (m' := 220) (av := [.inr (.inr (30, 7, 0)), .inl s30.1, .inl p43]) (st' := []) (pc' := 107) (loc' := [some (.inr (.inr (30, 7, 0))), some (.inl s30.1), some (.inl p43), none, none]) (h' := s30.2) 5 (fun _ _ => rfl) (eMo_takesOut (by omega) hx45) ?_
        refine q_blk (pc' := 111) (loc' := [some (.inr (.inr (30, 7, 0))), some (.inl s30.1), some (.inl p43), some (.inl x44.1), some (.inl s30.1)]) (stk' := []) (h' := x44.2) 3 (fun _ _ => rfl) ?_
        obtain ⟨r51, hl52, HK49⟩ := q_bind HF
        have hP50 : ∀ p64 : q_H, ((Mo_tellsOf (4 : Int32) x44.1 (q_si (q_si p64 31 0 7 12 ((p64.1 31 0 7 12) + (1 : Int32))) 31 0 7 13 (((q_si p64 31 0 7 12 ((p64.1 31 0 7 12) + (1 : Int32))).1 31 0 7 13) + x44.1))).bind fun x65 => some (.inl ((s30.1 + (x65.1 31 0 7 1)), x65)) : Option ((Int32 × q_H) ⊕ q_H)) = some z37 → q_E d q_K221 136 [some (.inr (.inr (30, 7, 0))), some (.inl s30.1), some (.inl p43), some (.inl x44.1), none] [] p64 (none, r) := by
          intro p64 HF
          obtain ⟨x65, hx66, HF⟩ := q_bind HF
          refine q_cll (m' := 212) (av := [.inr (.inr (30, 7, 0)), .inl (4 : Int32), .inl x44.1]) (st' := []) (pc' := 164) (loc' := [some (.inr (.inr (30, 7, 0))), some (.inl s30.1), some (.inl p43), some (.inl x44.1), none]) (h' := (q_si (q_si p64 31 0 7 12 ((p64.1 31 0 7 12) + (1 : Int32))) 31 0 7 13 (((q_si p64 31 0 7 12 ((p64.1 31 0 7 12) + (1 : Int32))).1 31 0 7 13) + x44.1))) 20 (fun _ _ => rfl) (eMo_tellsOf (by omega) hx66) ?_
          refine q_blk (pc' := 62) (loc' := [some (.inr (.inr (30, 7, 0))), some (.inl (s30.1 + (x65.1 31 0 7 1))), some (.inl p43), some (.inl x44.1), none]) (stk' := []) (h' := x65) 8 (fun _ _ => rfl) ?_
          have hz := Option.some.inj HF
          subst hz
          exact q_wk (loc := [some (.inr (.inr (30, 7, 0))), some (.inl (s30.1 + (x65.1 31 0 7 1))), none, none, none]) ⟨Or.inl rfl, ⟨Or.inl rfl, ⟨Or.inr ⟨rfl, fun _ h => by cases h⟩, ⟨Or.inr ⟨rfl, fun _ h => by cases h⟩, ⟨Or.inl rfl, trivial⟩⟩⟩⟩⟩ (H131 ((s30.1 + (x65.1 31 0 7 1)), x65) rfl)
        refine q_lpE (E := fun s46 => q_E d q_K221 111 [some (.inr (.inr (30, 7, 0))), some (.inl s30.1), some (.inl p43), some (.inl x44.1), some (.inl s46.1)] [] s46.2 (none, r)) r51 (fun s46 z53 HF H147 H248 => ?_) _ _ hl52
        obtain ⟨z54, HA55, HK56⟩ := q_bind HF
        have hP57 : ∀ p59 : Unit, (bif q_in s46.1 60 then ((Mo_sets (s46.2.1 36 0 7 s46.1.toNatClampNeg) (0 : Int32) (0 : Int32) s46.2).bind fun x60 => some (.inl ((s46.1 + (1 : Int32)), x60))) else none : Option ((Int32 × q_H) ⊕ (q_H))) = some z53 → q_E d q_K221 117 [some (.inr (.inr (30, 7, 0))), some (.inl s30.1), some (.inl p43), some (.inl x44.1), some (.inl s46.1)] [] s46.2 (none, r) := by
          intro p59 HF
          obtain ⟨g62, HF⟩ := q_gF HF
          refine q_gd (pc' := 125) (loc' := [some (.inr (.inr (30, 7, 0))), some (.inl s30.1), some (.inl p43), some (.inl x44.1), some (.inl s46.1)]) (stk' := [.inl (s46.2.1 36 0 7 s46.1.toNatClampNeg), .inr (.inr (30, 7, 0))]) (h' := s46.2) 5 (fun _ _ => rfl) g62 ?_
          obtain ⟨x60, hx61, HF⟩ := q_bind HF
          refine q_cll (m' := 188) (av := [.inr (.inr (30, 7, 0)), .inl (s46.2.1 36 0 7 s46.1.toNatClampNeg), .inl (0 : Int32), .inl (0 : Int32)]) (st' := []) (pc' := 130) (loc' := [some (.inr (.inr (30, 7, 0))), some (.inl s30.1), some (.inl p43), some (.inl x44.1), some (.inl s46.1)]) (h' := s46.2) 3 (fun _ _ => rfl) (eMo_sets (by omega) hx61) ?_
          refine q_blk (pc' := 111) (loc' := [some (.inr (.inr (30, 7, 0))), some (.inl s30.1), some (.inl p43), some (.inl x44.1), some (.inl (s46.1 + (1 : Int32)))]) (stk' := []) (h' := x60) 2 (fun _ _ => rfl) ?_
          have hz := Option.some.inj HF
          subst hz
          exact H147 ((s46.1 + (1 : Int32)), x60) rfl
        replace HF := HA55
        refine q_br (P := p43 ≤ s46.1) (pcT := 136) (pcF := 117) (loc' := [some (.inr (.inr (30, 7, 0))), some (.inl s30.1), some (.inl p43), some (.inl x44.1), some (.inl s46.1)]) (stk' := []) (h' := s46.2) 3 (fun _ _ => rfl) (fun c58 => ?_) (fun c58 => ?_)
        · rw [if_pos c58] at HF
          have hz := Option.some.inj HF
          subst hz
          replace HF := HK56
          have hz := Option.some.inj HF
          subst hz
          rw [← H248 _ rfl] at HK49
          exact q_wk (loc := [some (.inr (.inr (30, 7, 0))), some (.inl s30.1), some (.inl p43), some (.inl x44.1), none]) ⟨Or.inl rfl, ⟨Or.inl rfl, ⟨Or.inl rfl, ⟨Or.inl rfl, ⟨Or.inr ⟨rfl, fun _ h => by cases h⟩, trivial⟩⟩⟩⟩⟩ (hP50 (s46.2) HK49)
        · rw [if_neg c58] at HF
          have hz := Option.some.inj HF
          subst hz
          exact hP57 () HK56
      replace HF := HA39
      refine q_br (P := (s30.2.1 30 9 7 0) ≤ (s30.1 + (s30.2.1 31 0 7 1))) (pcT := 96) (pcF := 85) (loc' := [some (.inr (.inr (30, 7, 0))), some (.inl s30.1), none, none, none]) (stk' := []) (h' := s30.2) 9 (fun _ _ => rfl) (fun c42 => ?_) (fun c42 => ?_)
      · rw [if_pos c42] at HF
        refine q_blk (pc' := 100) (loc' := [some (.inr (.inr (30, 7, 0))), some (.inl s30.1), none, none, none]) (stk' := [.inl (s30.2.1 30 9 7 0)]) (h' := s30.2) 2 (fun _ _ => rfl) ?_
        have hz := Option.some.inj HF
        subst hz
        exact hP41 (s30.2.1 30 9 7 0) HK40
      · rw [if_neg c42] at HF
        refine q_blk (pc' := 100) (loc' := [some (.inr (.inr (30, 7, 0))), some (.inl s30.1), none, none, none]) (stk' := [.inl (s30.1 + (s30.2.1 31 0 7 1))]) (h' := s30.2) 7 (fun _ _ => rfl) ?_
        have hz := Option.some.inj HF
        subst hz
        exact hP41 (s30.1 + (s30.2.1 31 0 7 1)) HK40
  refine q_lpE (E := fun s1 => q_E d q_K221 7 [some (.inr (.inr (30, 7, 0))), some (.inl s1.1), none, none, none] [] s1.2 (none, r)) r6 (fun s1 z8 HF H12 H23 => ?_) _ _ hl7
  obtain ⟨z9, HA10, HK11⟩ := q_bind HF
  have hP12 : ∀ p14 : Unit, ((Mo_isSlot s1.1 s1.2).bind fun x15 => Option.bind (α := q_H) (if x15 = 0 then (some (s1.2)) else ((Mo_of s1.1 (0 : Int32) s1.2).bind fun x21 => if x21 = (3 : Int32) then (bif q_in (s1.2.1 30 9 7 0) 60 then (some ((q_si (q_si s1.2 36 0 7 (s1.2.1 30 9 7 0).toNatClampNeg s1.1) 30 9 7 0 (((q_si s1.2 36 0 7 (s1.2.1 30 9 7 0).toNatClampNeg s1.1).1 30 9 7 0) + (1 : Int32))))) else none) else (some (s1.2)))) (fun p26 => some (.inl ((s1.1 + (1 : Int32)), p26))) : Option ((Int32 × q_H) ⊕ (q_H))) = some z8 → q_E d q_K221 13 [some (.inr (.inr (30, 7, 0))), some (.inl s1.1), none, none, none] [] s1.2 (none, r) := by
    intro p14 HF
    obtain ⟨x15, hx16, HF⟩ := q_bind HF
    refine q_cll (m' := 190) (av := [.inr (.inr (30, 7, 0)), .inl s1.1]) (st' := []) (pc' := 18) (loc' := [some (.inr (.inr (30, 7, 0))), some (.inl s1.1), none, none, none]) (h' := s1.2) 3 (fun _ _ => rfl) (eMo_isSlot (by omega) hx16) ?_
    obtain ⟨z17, HA18, HK19⟩ := q_bind HF
    have hP20 : ∀ p26 : q_H, (some (.inl ((s1.1 + (1 : Int32)), p26)) : Option ((Int32 × q_H) ⊕ (q_H))) = some z8 → q_E d q_K221 54 [some (.inr (.inr (30, 7, 0))), some (.inl s1.1), none, none, none] [] p26 (none, r) := by
      intro p26 HF
      refine q_blk (pc' := 7) (loc' := [some (.inr (.inr (30, 7, 0))), some (.inl (s1.1 + (1 : Int32))), none, none, none]) (stk' := []) (h' := p26) 2 (fun _ _ => rfl) ?_
      have hz := Option.some.inj HF
      subst hz
      exact H12 ((s1.1 + (1 : Int32)), p26) rfl
    replace HF := HA18
    refine q_br (P := x15 = 0) (pcT := 54) (pcF := 21) (loc' := [some (.inr (.inr (30, 7, 0))), some (.inl s1.1), none, none, none]) (stk' := []) (h' := s1.2) 1 (fun _ _ => rfl) (fun c25 => ?_) (fun c25 => ?_)
    · rw [if_pos c25] at HF
      have hz := Option.some.inj HF
      subst hz
      exact hP20 (s1.2) HK19
    · rw [if_neg c25] at HF
      obtain ⟨x21, hx22, HF⟩ := q_bind HF
      refine q_cll (m' := 187) (av := [.inr (.inr (30, 7, 0)), .inl s1.1, .inl (0 : Int32)]) (st' := []) (pc' := 27) (loc' := [some (.inr (.inr (30, 7, 0))), some (.inl s1.1), none, none, none]) (h' := s1.2) 4 (fun _ _ => rfl) (eMo_of (by omega) hx22) ?_
      refine q_br (P := x21 = (3 : Int32)) (pcT := 34) (pcF := 31) (loc' := [some (.inr (.inr (30, 7, 0))), some (.inl s1.1), none, none, none]) (stk' := []) (h' := s1.2) 2 (fun _ _ => rfl) (fun c24 => ?_) (fun c24 => ?_)
      · rw [if_pos c24] at HF
        obtain ⟨g23, HF⟩ := q_gF HF
        refine q_gd (pc' := 44) (loc' := [some (.inr (.inr (30, 7, 0))), some (.inl s1.1), none, none, none]) (stk' := []) (h' := (q_si s1.2 36 0 7 (s1.2.1 30 9 7 0).toNatClampNeg s1.1)) 6 (fun _ _ => rfl) g23 ?_
        refine q_blk (pc' := 54) (loc' := [some (.inr (.inr (30, 7, 0))), some (.inl s1.1), none, none, none]) (stk' := []) (h' := (q_si (q_si s1.2 36 0 7 (s1.2.1 30 9 7 0).toNatClampNeg s1.1) 30 9 7 0 (((q_si s1.2 36 0 7 (s1.2.1 30 9 7 0).toNatClampNeg s1.1).1 30 9 7 0) + (1 : Int32)))) 6 (fun _ _ => rfl) ?_
        have hz := Option.some.inj HF
        subst hz
        exact hP20 (q_si (q_si s1.2 36 0 7 (s1.2.1 30 9 7 0).toNatClampNeg s1.1) 30 9 7 0 (((q_si s1.2 36 0 7 (s1.2.1 30 9 7 0).toNatClampNeg s1.1).1 30 9 7 0) + (1 : Int32))) HK19
      · rw [if_neg c24] at HF
        refine q_blk (pc' := 54) (loc' := [some (.inr (.inr (30, 7, 0))), some (.inl s1.1), none, none, none]) (stk' := []) (h' := s1.2) 1 (fun _ _ => rfl) ?_
        have hz := Option.some.inj HF
        subst hz
        exact hP20 (s1.2) HK19
  replace HF := HA10
  refine q_br (P := (60 : Int32) ≤ s1.1) (pcT := 60) (pcF := 13) (loc' := [some (.inr (.inr (30, 7, 0))), some (.inl s1.1), none, none, none]) (stk' := []) (h' := s1.2) 3 (fun _ _ => rfl) (fun c13 => ?_) (fun c13 => ?_)
  · rw [if_pos c13] at HF
    have hz := Option.some.inj HF
    subst hz
    replace HF := HK11
    have hz := Option.some.inj HF
    subst hz
    rw [← H23 _ rfl] at HK4
    exact q_wk (loc := [some (.inr (.inr (30, 7, 0))), none, none, none, none]) ⟨Or.inl rfl, ⟨Or.inr ⟨rfl, fun _ h => by cases h⟩, ⟨Or.inl rfl, ⟨Or.inl rfl, ⟨Or.inl rfl, trivial⟩⟩⟩⟩⟩ (hP5 (s1.2) HK4)
  · rw [if_neg c13] at HF
    have hz := Option.some.inj HF
    subst hz
    exact hP12 () HK11
def Mo_freezes (a1 : Int32) (h : q_H) : Option q_H :=
  (q_lp (fun s1 : Int32 × q_H => (if (60 : Int32) ≤ s1.1 then (some (.inr (s1.2))) else ((Mo_isVersion s1.1 s1.2).bind fun x9 => Option.bind (α := q_H) (if x9 = 0 then (some (s1.2)) else ((Mo_of s1.1 (11 : Int32) s1.2).bind fun x15 => Option.bind (α := (Unit) ⊕ (q_H)) (if x15 = (1 : Int32) then (some (.inr (s1.2))) else (some (.inl ()))) (fun z17 => match z17 with | .inl p22 => (Mo_of s1.1 (6 : Int32) s1.2).bind fun x23 => (Mo_stateOf x23 s1.2).bind fun x25 => Option.bind (α := (Unit) ⊕ (q_H)) (if ¬ x25 = (1 : Int32) then (some (.inr (s1.2))) else (some (.inl ()))) (fun z27 => match z27 with | .inl p32 => (Mo_of s1.1 (6 : Int32) s1.2).bind fun x33 => if (s1.2.1 31 0 7 2) < (a1 - x33) then ((Mo_sets s1.1 (11 : Int32) (1 : Int32) s1.2).bind fun x35 => (Mo_of s1.1 (2 : Int32) (q_si x35 31 0 7 14 ((x35.1 31 0 7 14) + (1 : Int32)))).bind fun x37 => (Mo_tellsOf (5 : Int32) x37 (q_si x35 31 0 7 14 ((x35.1 31 0 7 14) + (1 : Int32)))).bind fun x39 => some (x39)) else (some (s1.2)) | .inr z27 => some z27) | .inr z17 => some z17))) (fun p45 => some (.inl ((s1.1 + (1 : Int32)), p45)))) : Option ((Int32 × q_H) ⊕ q_H))) q_fu (((0 : Int32), h) : Int32 × q_H)).bind fun z8 => some z8
set_option maxRecDepth 100000 in
set_option maxHeartbeats 4000000 in
theorem eMo_freezes {d : Nat} (hd : 4 ≤ d) {a1 : Int32} {h : q_H} {r : q_H} (HF : Mo_freezes a1 h = some r) : q_T d 222 [.inr (.inr (30, 7, 0)), .inl a1] h (none, r) := by
  obtain ⟨d, rfl⟩ : ∃ d', d = d' + 1 := ⟨d - 1, by omega⟩
  refine q_ent q_K222 rfl rfl rfl ?_
  unfold Mo_freezes at HF
  refine q_blk (pc' := 2) (loc' := [some (.inr (.inr (30, 7, 0))), some (.inl a1), some (.inl (0 : Int32))]) (stk' := []) (h' := h) 2 (fun _ _ => rfl) ?_
  obtain ⟨r6, hl7, HK4⟩ := q_bind HF
  refine q_lpE (E := fun s1 => q_E d q_K222 2 [some (.inr (.inr (30, 7, 0))), some (.inl a1), some (.inl s1.1)] [] s1.2 (none, r)) r6 (fun s1 z8 HF H12 H23 => ?_) _ _ hl7
  refine q_br (P := (60 : Int32) ≤ s1.1) (pcT := 99) (pcF := 8) (loc' := [some (.inr (.inr (30, 7, 0))), some (.inl a1), some (.inl s1.1)]) (stk' := []) (h' := s1.2) 3 (fun _ _ => rfl) (fun c47 => ?_) (fun c47 => ?_)
  · rw [if_pos c47] at HF
    have hz := Option.some.inj HF
    subst hz
    replace HF := HK4
    rw [← H23 _ rfl] at HF
    have hz := Option.some.inj HF
    subst hz
    exact q_rtn 1 (fun _ _ => rfl)
  · rw [if_neg c47] at HF
    obtain ⟨x9, hx10, HF⟩ := q_bind HF
    refine q_cll (m' := 191) (av := [.inr (.inr (30, 7, 0)), .inl s1.1]) (st' := []) (pc' := 13) (loc' := [some (.inr (.inr (30, 7, 0))), some (.inl a1), some (.inl s1.1)]) (h' := s1.2) 3 (fun _ _ => rfl) (eMo_isVersion (by omega) hx10) ?_
    obtain ⟨z11, HA12, HK13⟩ := q_bind HF
    have hP14 : ∀ p45 : q_H, (some (.inl ((s1.1 + (1 : Int32)), p45)) : Option ((Int32 × q_H) ⊕ q_H)) = some z8 → q_E d q_K222 93 [some (.inr (.inr (30, 7, 0))), some (.inl a1), some (.inl s1.1)] [] p45 (none, r) := by
      intro p45 HF
      refine q_blk (pc' := 2) (loc' := [some (.inr (.inr (30, 7, 0))), some (.inl a1), some (.inl (s1.1 + (1 : Int32)))]) (stk' := []) (h' := p45) 2 (fun _ _ => rfl) ?_
      have hz := Option.some.inj HF
      subst hz
      exact H12 ((s1.1 + (1 : Int32)), p45) rfl
    replace HF := HA12
    refine q_br (P := x9 = 0) (pcT := 93) (pcF := 16) (loc' := [some (.inr (.inr (30, 7, 0))), some (.inl a1), some (.inl s1.1)]) (stk' := []) (h' := s1.2) 1 (fun _ _ => rfl) (fun c44 => ?_) (fun c44 => ?_)
    · rw [if_pos c44] at HF
      have hz := Option.some.inj HF
      subst hz
      exact hP14 (s1.2) HK13
    · rw [if_neg c44] at HF
      obtain ⟨x15, hx16, HF⟩ := q_bind HF
      refine q_cll (m' := 187) (av := [.inr (.inr (30, 7, 0)), .inl s1.1, .inl (11 : Int32)]) (st' := []) (pc' := 23) (loc' := [some (.inr (.inr (30, 7, 0))), some (.inl a1), some (.inl s1.1)]) (h' := s1.2) 4 (fun _ _ => rfl) (eMo_of (by omega) hx16) ?_
      obtain ⟨z17, HA18, HK19⟩ := q_bind HF
      have hP20 : ∀ p22 : Unit, ((Mo_of s1.1 (6 : Int32) s1.2).bind fun x23 => (Mo_stateOf x23 s1.2).bind fun x25 => Option.bind (α := (Unit) ⊕ (q_H)) (if ¬ x25 = (1 : Int32) then (some (.inr (s1.2))) else (some (.inl ()))) (fun z27 => match z27 with | .inl p32 => (Mo_of s1.1 (6 : Int32) s1.2).bind fun x33 => if (s1.2.1 31 0 7 2) < (a1 - x33) then ((Mo_sets s1.1 (11 : Int32) (1 : Int32) s1.2).bind fun x35 => (Mo_of s1.1 (2 : Int32) (q_si x35 31 0 7 14 ((x35.1 31 0 7 14) + (1 : Int32)))).bind fun x37 => (Mo_tellsOf (5 : Int32) x37 (q_si x35 31 0 7 14 ((x35.1 31 0 7 14) + (1 : Int32)))).bind fun x39 => some (x39)) else (some (s1.2)) | .inr z27 => some z27) : Option (q_H)) = some z11 → q_E d q_K222 27 [some (.inr (.inr (30, 7, 0))), some (.inl a1), some (.inl s1.1)] [] s1.2 (none, r) := by
        intro p22 HF
        obtain ⟨x23, hx24, HF⟩ := q_bind HF
        refine q_cll (m' := 187) (av := [.inr (.inr (30, 7, 0)), .inl s1.1, .inl (6 : Int32)]) (st' := [.inr (.inr (30, 7, 0))]) (pc' := 35) (loc' := [some (.inr (.inr (30, 7, 0))), some (.inl a1), some (.inl s1.1)]) (h' := s1.2) 5 (fun _ _ => rfl) (eMo_of (by omega) hx24) ?_
        obtain ⟨x25, hx26, HF⟩ := q_bind HF
        refine q_cll (m' := 196) (av := [.inr (.inr (30, 7, 0)), .inl x23]) (st' := []) (pc' := 38) (loc' := [some (.inr (.inr (30, 7, 0))), some (.inl a1), some (.inl s1.1)]) (h' := s1.2) 1 (fun _ _ => rfl) (eMo_stateOf (by omega) hx26) ?_
        obtain ⟨z27, HA28, HK29⟩ := q_bind HF
        have hP30 : ∀ p32 : Unit, ((Mo_of s1.1 (6 : Int32) s1.2).bind fun x33 => if (s1.2.1 31 0 7 2) < (a1 - x33) then ((Mo_sets s1.1 (11 : Int32) (1 : Int32) s1.2).bind fun x35 => (Mo_of s1.1 (2 : Int32) (q_si x35 31 0 7 14 ((x35.1 31 0 7 14) + (1 : Int32)))).bind fun x37 => (Mo_tellsOf (5 : Int32) x37 (q_si x35 31 0 7 14 ((x35.1 31 0 7 14) + (1 : Int32)))).bind fun x39 => some (x39)) else (some (s1.2)) : Option (q_H)) = some z11 → q_E d q_K222 42 [some (.inr (.inr (30, 7, 0))), some (.inl a1), some (.inl s1.1)] [] s1.2 (none, r) := by
          intro p32 HF
          obtain ⟨x33, hx34, HF⟩ := q_bind HF
          refine q_cll (m' := 187) (av := [.inr (.inr (30, 7, 0)), .inl s1.1, .inl (6 : Int32)]) (st' := [.inl a1]) (pc' := 50) (loc' := [some (.inr (.inr (30, 7, 0))), some (.inl a1), some (.inl s1.1)]) (h' := s1.2) 5 (fun _ _ => rfl) (eMo_of (by omega) hx34) ?_
          refine q_br (P := (s1.2.1 31 0 7 2) < (a1 - x33)) (pcT := 63) (pcF := 60) (loc' := [some (.inr (.inr (30, 7, 0))), some (.inl a1), some (.inl s1.1)]) (stk' := []) (h' := s1.2) 6 (fun _ _ => rfl) (fun c41 => ?_) (fun c41 => ?_)
          · rw [if_pos c41] at HF
            obtain ⟨x35, hx36, HF⟩ := q_bind HF
            refine q_cll (m' := 188) (av := [.inr (.inr (30, 7, 0)), .inl s1.1, .inl (11 : Int32), .inl (1 : Int32)]) (st' := []) (pc' := 71) (loc' := [some (.inr (.inr (30, 7, 0))), some (.inl a1), some (.inl s1.1)]) (h' := s1.2) 5 (fun _ _ => rfl) (eMo_sets (by omega) hx36) ?_
            obtain ⟨x37, hx38, HF⟩ := q_bind HF
            refine q_cll (m' := 187) (av := [.inr (.inr (30, 7, 0)), .inl s1.1, .inl (2 : Int32)]) (st' := [.inl (5 : Int32), .inr (.inr (30, 7, 0))]) (pc' := 90) (loc' := [some (.inr (.inr (30, 7, 0))), some (.inl a1), some (.inl s1.1)]) (h' := (q_si x35 31 0 7 14 ((x35.1 31 0 7 14) + (1 : Int32)))) 14 (fun _ _ => rfl) (eMo_of (by omega) hx38) ?_
            obtain ⟨x39, hx40, HF⟩ := q_bind HF
            refine q_cll (m' := 212) (av := [.inr (.inr (30, 7, 0)), .inl (5 : Int32), .inl x37]) (st' := []) (pc' := 93) (loc' := [some (.inr (.inr (30, 7, 0))), some (.inl a1), some (.inl s1.1)]) (h' := (q_si x35 31 0 7 14 ((x35.1 31 0 7 14) + (1 : Int32)))) 1 (fun _ _ => rfl) (eMo_tellsOf (by omega) hx40) ?_
            have hz := Option.some.inj HF
            subst hz
            exact hP14 (x39) HK13
          · rw [if_neg c41] at HF
            refine q_blk (pc' := 93) (loc' := [some (.inr (.inr (30, 7, 0))), some (.inl a1), some (.inl s1.1)]) (stk' := []) (h' := s1.2) 1 (fun _ _ => rfl) ?_
            have hz := Option.some.inj HF
            subst hz
            exact hP14 (s1.2) HK13
        replace HF := HA28
        refine q_br (P := ¬ x25 = (1 : Int32)) (pcT := 93) (pcF := 42) (loc' := [some (.inr (.inr (30, 7, 0))), some (.inl a1), some (.inl s1.1)]) (stk' := []) (h' := s1.2) 2 (fun _ _ => rfl) (fun c31 => ?_) (fun c31 => ?_)
        · rw [if_pos c31] at HF
          have hz := Option.some.inj HF
          subst hz
          replace HF := HK29
          have hz := Option.some.inj HF
          subst hz
          exact hP14 (s1.2) HK13
        · rw [if_neg c31] at HF
          have hz := Option.some.inj HF
          subst hz
          exact hP30 () HK29
      replace HF := HA18
      refine q_br (P := x15 = (1 : Int32)) (pcT := 93) (pcF := 27) (loc' := [some (.inr (.inr (30, 7, 0))), some (.inl a1), some (.inl s1.1)]) (stk' := []) (h' := s1.2) 2 (fun _ _ => rfl) (fun c21 => ?_) (fun c21 => ?_)
      · rw [if_pos c21] at HF
        have hz := Option.some.inj HF
        subst hz
        replace HF := HK19
        have hz := Option.some.inj HF
        subst hz
        exact hP14 (s1.2) HK13
      · rw [if_neg c21] at HF
        have hz := Option.some.inj HF
        subst hz
        exact hP20 () HK19
def Mo_seenOf (a1 : Int32) (a2 : Int32) (h : q_H) : Option Int32 :=
  (q_lp (fun s1 : Int32 => (if (60 : Int32) ≤ s1 then (some (.inr ((-1 : Int32)))) else ((Mo_isVersion s1 h).bind fun x9 => Option.bind (α := (Unit) ⊕ ((Int32) ⊕ Int32)) (if x9 = 0 then (some (.inl ())) else ((Mo_of s1 (2 : Int32) h).bind fun x15 => Option.bind (α := (Unit) ⊕ ((Unit) ⊕ ((Int32) ⊕ Int32))) (if ¬ x15 = a2 then (some (.inr (.inl ()))) else (some (.inl ()))) (fun z17 => match z17 with | .inl p22 => (Mo_isSeen a1 s1 h).bind fun x23 => if x23 = 0 then (some (.inl ())) else (some (.inr (.inr (s1)))) | .inr z17 => some z17))) (fun z11 => match z11 with | .inl p28 => some (.inl (s1 + (1 : Int32))) | .inr z11 => some z11)) : Option ((Int32) ⊕ Int32))) q_fu ((0 : Int32) : Int32)).bind fun z8 => some z8
set_option maxRecDepth 100000 in
set_option maxHeartbeats 4000000 in
theorem eMo_seenOf {d : Nat} (hd : 4 ≤ d) {a1 : Int32} {a2 : Int32} {h : q_H} {r : Int32} (HF : Mo_seenOf a1 a2 h = some r) : q_T d 225 [.inr (.inr (30, 7, 0)), .inl a1, .inl a2] h (some (.inl r), h) := by
  obtain ⟨d, rfl⟩ : ∃ d', d = d' + 1 := ⟨d - 1, by omega⟩
  refine q_ent q_K225 rfl rfl rfl ?_
  unfold Mo_seenOf at HF
  refine q_blk (pc' := 2) (loc' := [some (.inr (.inr (30, 7, 0))), some (.inl a1), some (.inl a2), some (.inl (0 : Int32))]) (stk' := []) (h' := h) 2 (fun _ _ => rfl) ?_
  obtain ⟨r6, hl7, HK4⟩ := q_bind HF
  refine q_lpE (E := fun s1 => q_E d q_K225 2 [some (.inr (.inr (30, 7, 0))), some (.inl a1), some (.inl a2), some (.inl s1)] [] h (some (.inl r), h)) r6 (fun s1 z8 HF H12 H23 => ?_) _ _ hl7
  refine q_br (P := (60 : Int32) ≤ s1) (pcT := 43) (pcF := 8) (loc' := [some (.inr (.inr (30, 7, 0))), some (.inl a1), some (.inl a2), some (.inl s1)]) (stk' := []) (h' := h) 3 (fun _ _ => rfl) (fun c30 => ?_) (fun c30 => ?_)
  · rw [if_pos c30] at HF
    have hz := Option.some.inj HF
    subst hz
    replace HF := HK4
    rw [← H23 _ rfl] at HF
    have hz := Option.some.inj HF
    subst hz
    exact q_rtn 2 (fun _ _ => rfl)
  · rw [if_neg c30] at HF
    obtain ⟨x9, hx10, HF⟩ := q_bind HF
    refine q_cll (m' := 191) (av := [.inr (.inr (30, 7, 0)), .inl s1]) (st' := []) (pc' := 13) (loc' := [some (.inr (.inr (30, 7, 0))), some (.inl a1), some (.inl a2), some (.inl s1)]) (h' := h) 3 (fun _ _ => rfl) (eMo_isVersion (by omega) hx10) ?_
    obtain ⟨z11, HA12, HK13⟩ := q_bind HF
    have hP14 : ∀ p28 : Unit, (some (.inl (s1 + (1 : Int32))) : Option ((Int32) ⊕ Int32)) = some z8 → q_E d q_K225 37 [some (.inr (.inr (30, 7, 0))), some (.inl a1), some (.inl a2), some (.inl s1)] [] h (some (.inl r), h) := by
      intro p28 HF
      refine q_blk (pc' := 2) (loc' := [some (.inr (.inr (30, 7, 0))), some (.inl a1), some (.inl a2), some (.inl (s1 + (1 : Int32)))]) (stk' := []) (h' := h) 2 (fun _ _ => rfl) ?_
      have hz := Option.some.inj HF
      subst hz
      exact H12 (s1 + (1 : Int32)) rfl
    replace HF := HA12
    refine q_br (P := x9 = 0) (pcT := 37) (pcF := 16) (loc' := [some (.inr (.inr (30, 7, 0))), some (.inl a1), some (.inl a2), some (.inl s1)]) (stk' := []) (h' := h) 1 (fun _ _ => rfl) (fun c27 => ?_) (fun c27 => ?_)
    · rw [if_pos c27] at HF
      have hz := Option.some.inj HF
      subst hz
      exact hP14 () HK13
    · rw [if_neg c27] at HF
      obtain ⟨x15, hx16, HF⟩ := q_bind HF
      refine q_cll (m' := 187) (av := [.inr (.inr (30, 7, 0)), .inl s1, .inl (2 : Int32)]) (st' := []) (pc' := 22) (loc' := [some (.inr (.inr (30, 7, 0))), some (.inl a1), some (.inl a2), some (.inl s1)]) (h' := h) 4 (fun _ _ => rfl) (eMo_of (by omega) hx16) ?_
      obtain ⟨z17, HA18, HK19⟩ := q_bind HF
      have hP20 : ∀ p22 : Unit, ((Mo_isSeen a1 s1 h).bind fun x23 => if x23 = 0 then (some (.inl ())) else (some (.inr (.inr (s1)))) : Option ((Unit) ⊕ ((Int32) ⊕ Int32))) = some z11 → q_E d q_K225 26 [some (.inr (.inr (30, 7, 0))), some (.inl a1), some (.inl a2), some (.inl s1)] [] h (some (.inl r), h) := by
        intro p22 HF
        obtain ⟨x23, hx24, HF⟩ := q_bind HF
        refine q_cll (m' := 202) (av := [.inr (.inr (30, 7, 0)), .inl a1, .inl s1]) (st' := []) (pc' := 32) (loc' := [some (.inr (.inr (30, 7, 0))), some (.inl a1), some (.inl a2), some (.inl s1)]) (h' := h) 4 (fun _ _ => rfl) (eMo_isSeen (by omega) hx24) ?_
        refine q_br (P := x23 = 0) (pcT := 37) (pcF := 35) (loc' := [some (.inr (.inr (30, 7, 0))), some (.inl a1), some (.inl a2), some (.inl s1)]) (stk' := []) (h' := h) 1 (fun _ _ => rfl) (fun c25 => ?_) (fun c25 => ?_)
        · rw [if_pos c25] at HF
          have hz := Option.some.inj HF
          subst hz
          exact hP14 () HK13
        · rw [if_neg c25] at HF
          have hz := Option.some.inj HF
          subst hz
          replace HF := HK13
          have hz := Option.some.inj HF
          subst hz
          replace HF := HK4
          rw [← H23 _ rfl] at HF
          have hz := Option.some.inj HF
          subst hz
          exact q_rtn 2 (fun _ _ => rfl)
      replace HF := HA18
      refine q_br (P := ¬ x15 = a2) (pcT := 37) (pcF := 26) (loc' := [some (.inr (.inr (30, 7, 0))), some (.inl a1), some (.inl a2), some (.inl s1)]) (stk' := []) (h' := h) 2 (fun _ _ => rfl) (fun c21 => ?_) (fun c21 => ?_)
      · rw [if_pos c21] at HF
        have hz := Option.some.inj HF
        subst hz
        replace HF := HK19
        have hz := Option.some.inj HF
        subst hz
        exact hP14 () HK13
      · rw [if_neg c21] at HF
        have hz := Option.some.inj HF
        subst hz
        exact hP20 () HK19
def Mo_versionsOf (a1 : Int32) (h : q_H) : Option Int32 :=
  (q_lp (fun s1 : Int32 × Int32 => (if (60 : Int32) ≤ s1.2 then (some (.inr (s1.1))) else ((Mo_isVersion s1.2 h).bind fun x9 => Option.bind (α := Int32) (if x9 = 0 then (some ((0 : Int32))) else ((Mo_of s1.2 (2 : Int32) h).bind fun x15 => if ¬ x15 = a1 then (some ((0 : Int32))) else (some ((1 : Int32))))) (fun p19 => some (.inl ((s1.1 + p19), (s1.2 + (1 : Int32)))))) : Option ((Int32 × Int32) ⊕ Int32))) q_fu (((0 : Int32), (0 : Int32)) : Int32 × Int32)).bind fun z8 => some z8
set_option maxRecDepth 100000 in
set_option maxHeartbeats 4000000 in
theorem eMo_versionsOf {d : Nat} (hd : 4 ≤ d) {a1 : Int32} {h : q_H} {r : Int32} (HF : Mo_versionsOf a1 h = some r) : q_T d 234 [.inr (.inr (30, 7, 0)), .inl a1] h (some (.inl r), h) := by
  obtain ⟨d, rfl⟩ : ∃ d', d = d' + 1 := ⟨d - 1, by omega⟩
  refine q_ent q_K234 rfl rfl rfl ?_
  unfold Mo_versionsOf at HF
  refine q_blk (pc' := 4) (loc' := [some (.inr (.inr (30, 7, 0))), some (.inl a1), some (.inl (0 : Int32)), some (.inl (0 : Int32))]) (stk' := []) (h' := h) 4 (fun _ _ => rfl) ?_
  obtain ⟨r6, hl7, HK4⟩ := q_bind HF
  refine q_lpE (E := fun s1 => q_E d q_K234 4 [some (.inr (.inr (30, 7, 0))), some (.inl a1), some (.inl s1.1), some (.inl s1.2)] [] h (some (.inl r), h)) r6 (fun s1 z8 HF H12 H23 => ?_) _ _ hl7
  refine q_br (P := (60 : Int32) ≤ s1.2) (pcT := 42) (pcF := 10) (loc' := [some (.inr (.inr (30, 7, 0))), some (.inl a1), some (.inl s1.1), some (.inl s1.2)]) (stk' := []) (h' := h) 3 (fun _ _ => rfl) (fun c21 => ?_) (fun c21 => ?_)
  · rw [if_pos c21] at HF
    have hz := Option.some.inj HF
    subst hz
    replace HF := HK4
    rw [← H23 _ rfl] at HF
    have hz := Option.some.inj HF
    subst hz
    exact q_rtn 2 (fun _ _ => rfl)
  · rw [if_neg c21] at HF
    obtain ⟨x9, hx10, HF⟩ := q_bind HF
    refine q_cll (m' := 191) (av := [.inr (.inr (30, 7, 0)), .inl s1.2]) (st' := [.inl s1.1]) (pc' := 16) (loc' := [some (.inr (.inr (30, 7, 0))), some (.inl a1), some (.inl s1.1), some (.inl s1.2)]) (h' := h) 4 (fun _ _ => rfl) (eMo_isVersion (by omega) hx10) ?_
    obtain ⟨z11, HA12, HK13⟩ := q_bind HF
    have hP14 : ∀ p19 : Int32, (some (.inl ((s1.1 + p19), (s1.2 + (1 : Int32)))) : Option ((Int32 × Int32) ⊕ Int32)) = some z8 → q_E d q_K234 34 [some (.inr (.inr (30, 7, 0))), some (.inl a1), some (.inl s1.1), some (.inl s1.2)] [.inl p19, .inl s1.1] h (some (.inl r), h) := by
      intro p19 HF
      refine q_blk (pc' := 4) (loc' := [some (.inr (.inr (30, 7, 0))), some (.inl a1), some (.inl (s1.1 + p19)), some (.inl (s1.2 + (1 : Int32)))]) (stk' := []) (h' := h) 4 (fun _ _ => rfl) ?_
      have hz := Option.some.inj HF
      subst hz
      exact H12 ((s1.1 + p19), (s1.2 + (1 : Int32))) rfl
    replace HF := HA12
    refine q_br (P := x9 = 0) (pcT := 33) (pcF := 19) (loc' := [some (.inr (.inr (30, 7, 0))), some (.inl a1), some (.inl s1.1), some (.inl s1.2)]) (stk' := [.inl s1.1]) (h' := h) 1 (fun _ _ => rfl) (fun c18 => ?_) (fun c18 => ?_)
    · rw [if_pos c18] at HF
      refine q_blk (pc' := 34) (loc' := [some (.inr (.inr (30, 7, 0))), some (.inl a1), some (.inl s1.1), some (.inl s1.2)]) (stk' := [.inl (0 : Int32), .inl s1.1]) (h' := h) 1 (fun _ _ => rfl) ?_
      have hz := Option.some.inj HF
      subst hz
      exact hP14 (0 : Int32) HK13
    · rw [if_neg c18] at HF
      obtain ⟨x15, hx16, HF⟩ := q_bind HF
      refine q_cll (m' := 187) (av := [.inr (.inr (30, 7, 0)), .inl s1.2, .inl (2 : Int32)]) (st' := [.inl s1.1]) (pc' := 25) (loc' := [some (.inr (.inr (30, 7, 0))), some (.inl a1), some (.inl s1.1), some (.inl s1.2)]) (h' := h) 4 (fun _ _ => rfl) (eMo_of (by omega) hx16) ?_
      refine q_br (P := ¬ x15 = a1) (pcT := 33) (pcF := 29) (loc' := [some (.inr (.inr (30, 7, 0))), some (.inl a1), some (.inl s1.1), some (.inl s1.2)]) (stk' := [.inl s1.1]) (h' := h) 2 (fun _ _ => rfl) (fun c17 => ?_) (fun c17 => ?_)
      · rw [if_pos c17] at HF
        refine q_blk (pc' := 34) (loc' := [some (.inr (.inr (30, 7, 0))), some (.inl a1), some (.inl s1.1), some (.inl s1.2)]) (stk' := [.inl (0 : Int32), .inl s1.1]) (h' := h) 1 (fun _ _ => rfl) ?_
        have hz := Option.some.inj HF
        subst hz
        exact hP14 (0 : Int32) HK13
      · rw [if_neg c17] at HF
        refine q_blk (pc' := 34) (loc' := [some (.inr (.inr (30, 7, 0))), some (.inl a1), some (.inl s1.1), some (.inl s1.2)]) (stk' := [.inl (1 : Int32), .inl s1.1]) (h' := h) 2 (fun _ _ => rfl) ?_
        have hz := Option.some.inj HF
        subst hz
        exact hP14 (1 : Int32) HK13
def Mo_staying  (h : q_H) : Option (Int32 × q_H) :=
  (q_lp (fun s1 : Int32 × Int32 × q_H => (if (60 : Int32) ≤ s1.2.1 then (some (.inr ((s1.1, s1.2.2)))) else ((Mo_isVersion s1.2.1 s1.2.2).bind fun x9 => if x9 = 0 then (some (.inl (s1.1, (s1.2.1 + (1 : Int32)), s1.2.2))) else ((Mo_lives s1.2.1 s1.2.2).bind fun x11 => if ¬ x11 = 0 then ((q_lp (fun s13 : Int32 × q_H => (Option.bind (α := (Unit) ⊕ ((Int32 × q_H) ⊕ (Int32 × q_H))) (if s13.1 ≤ 0 then (some (.inr (.inr ((s13.1, s13.2))))) else (some (.inl ()))) (fun z21 => match z21 with | .inl p26 => bif q_in (s13.1 - (1 : Int32)) 60 then ((Mo_isAhead s1.2.1 (s13.2.1 37 0 7 (s13.1 - (1 : Int32)).toNatClampNeg) s13.2).bind fun x27 => Option.bind (α := (Unit) ⊕ ((Int32 × q_H) ⊕ (Int32 × q_H))) (if x27 = 0 then (some (.inr (.inr ((s13.1, s13.2))))) else (some (.inl ()))) (fun z29 => match z29 with | .inl p34 => bif q_in (s13.1 - (1 : Int32)) 60 then (bif q_in s13.1 60 then (some (.inl ((s13.1 + (-1 : Int32)), (q_si s13.2 37 0 7 s13.1.toNatClampNeg (s13.2.1 37 0 7 (s13.1 - (1 : Int32)).toNatClampNeg))))) else none) else none | .inr z29 => some z29)) else none | .inr z21 => some z21) : Option ((Int32 × q_H) ⊕ (Int32 × q_H)))) q_fu ((s1.1, s1.2.2) : Int32 × q_H)).bind fun p40 => bif q_in p40.1 60 then (some (.inl ((s1.1 + (1 : Int32)), (s1.2.1 + (1 : Int32)), (q_si p40.2 37 0 7 p40.1.toNatClampNeg s1.2.1)))) else none) else (some (.inl (s1.1, (s1.2.1 + (1 : Int32)), s1.2.2))))) : Option ((Int32 × Int32 × q_H) ⊕ (Int32 × q_H)))) q_fu (((0 : Int32), (0 : Int32), h) : Int32 × Int32 × q_H)).bind fun z8 => some z8
set_option maxRecDepth 100000 in
set_option maxHeartbeats 4000000 in
theorem eMo_staying {d : Nat} (hd : 4 ≤ d)  {h : q_H} {r : (Int32 × q_H)} (HF : Mo_staying  h = some r) : q_T d 247 [.inr (.inr (30, 7, 0))] h (some (.inl r.1), r.2) := by
  obtain ⟨d, rfl⟩ : ∃ d', d = d' + 1 := ⟨d - 1, by omega⟩
  refine q_ent q_K247 rfl rfl rfl ?_
  unfold Mo_staying at HF
  refine q_blk (pc' := 4) (loc' := [some (.inr (.inr (30, 7, 0))), some (.inl (0 : Int32)), some (.inl (0 : Int32)), none]) (stk' := []) (h' := h) 4 (fun _ _ => rfl) ?_
  obtain ⟨r6, hl7, HK4⟩ := q_bind HF
  refine q_lpE (E := fun s1 => q_E d q_K247 4 [some (.inr (.inr (30, 7, 0))), some (.inl s1.1), some (.inl s1.2.1), none] [] s1.2.2 (some (.inl r.1), r.2)) r6 (fun s1 z8 HF H12 H23 => ?_) _ _ hl7
  refine q_br (P := (60 : Int32) ≤ s1.2.1) (pcT := 87) (pcF := 10) (loc' := [some (.inr (.inr (30, 7, 0))), some (.inl s1.1), some (.inl s1.2.1), none]) (stk' := []) (h' := s1.2.2) 3 (fun _ _ => rfl) (fun c44 => ?_) (fun c44 => ?_)
  · rw [if_pos c44] at HF
    have hz := Option.some.inj HF
    subst hz
    replace HF := HK4
    rw [← H23 _ rfl] at HF
    have hz := Option.some.inj HF
    subst hz
    exact q_rtn 2 (fun _ _ => rfl)
  · rw [if_neg c44] at HF
    obtain ⟨x9, hx10, HF⟩ := q_bind HF
    refine q_cll (m' := 191) (av := [.inr (.inr (30, 7, 0)), .inl s1.2.1]) (st' := []) (pc' := 15) (loc' := [some (.inr (.inr (30, 7, 0))), some (.inl s1.1), some (.inl s1.2.1), none]) (h' := s1.2.2) 3 (fun _ _ => rfl) (eMo_isVersion (by omega) hx10) ?_
    refine q_br (P := x9 = 0) (pcT := 81) (pcF := 18) (loc' := [some (.inr (.inr (30, 7, 0))), some (.inl s1.1), some (.inl s1.2.1), none]) (stk' := []) (h' := s1.2.2) 1 (fun _ _ => rfl) (fun c43 => ?_) (fun c43 => ?_)
    · rw [if_pos c43] at HF
      refine q_blk (pc' := 4) (loc' := [some (.inr (.inr (30, 7, 0))), some (.inl s1.1), some (.inl (s1.2.1 + (1 : Int32))), none]) (stk' := []) (h' := s1.2.2) 2 (fun _ _ => rfl) ?_
      have hz := Option.some.inj HF
      subst hz
      exact H12 (s1.1, (s1.2.1 + (1 : Int32)), s1.2.2) rfl
    · rw [if_neg c43] at HF
      obtain ⟨x11, hx12, HF⟩ := q_bind HF
      refine q_cll (m' := 244) (av := [.inr (.inr (30, 7, 0)), .inl s1.2.1]) (st' := []) (pc' := 23) (loc' := [some (.inr (.inr (30, 7, 0))), some (.inl s1.1), some (.inl s1.2.1), none]) (h' := s1.2.2) 3 (fun _ _ => rfl) (eMo_lives (by omega) hx12) ?_
      refine q_br (P := ¬ x11 = 0) (pcT := 29) (pcF := 26) (loc' := [some (.inr (.inr (30, 7, 0))), some (.inl s1.1), some (.inl s1.2.1), none]) (stk' := []) (h' := s1.2.2) 1 (fun _ _ => rfl) (fun c42 => ?_) (fun c42 => ?_)
      · rw [if_pos c42] at HF
        refine q_blk (pc' := 31) (loc' := [some (.inr (.inr (30, 7, 0))), some (.inl s1.1), some (.inl s1.2.1), some (.inl s1.1)]) (stk' := []) (h' := s1.2.2) 2 (fun _ _ => rfl) ?_
        obtain ⟨r18, hl19, HK16⟩ := q_bind HF
        have hP17 : ∀ p40 : Int32 × q_H, (bif q_in p40.1 60 then (some (.inl ((s1.1 + (1 : Int32)), (s1.2.1 + (1 : Int32)), (q_si p40.2 37 0 7 p40.1.toNatClampNeg s1.2.1)))) else none : Option ((Int32 × Int32 × q_H) ⊕ (Int32 × q_H))) = some z8 → q_E d q_K247 71 [some (.inr (.inr (30, 7, 0))), some (.inl s1.1), some (.inl s1.2.1), some (.inl p40.1)] [] p40.2 (some (.inl r.1), r.2) := by
          intro p40 HF
          obtain ⟨g41, HF⟩ := q_gF HF
          refine q_gd (pc' := 78) (loc' := [some (.inr (.inr (30, 7, 0))), some (.inl s1.1), some (.inl s1.2.1), some (.inl p40.1)]) (stk' := []) (h' := (q_si p40.2 37 0 7 p40.1.toNatClampNeg s1.2.1)) 5 (fun _ _ => rfl) g41 ?_
          refine q_blk (pc' := 4) (loc' := [some (.inr (.inr (30, 7, 0))), some (.inl (s1.1 + (1 : Int32))), some (.inl (s1.2.1 + (1 : Int32))), some (.inl p40.1)]) (stk' := []) (h' := (q_si p40.2 37 0 7 p40.1.toNatClampNeg s1.2.1)) 3 (fun _ _ => rfl) ?_
          have hz := Option.some.inj HF
          subst hz
          exact q_wk (loc := [some (.inr (.inr (30, 7, 0))), some (.inl (s1.1 + (1 : Int32))), some (.inl (s1.2.1 + (1 : Int32))), none]) ⟨Or.inl rfl, ⟨Or.inl rfl, ⟨Or.inl rfl, ⟨Or.inr ⟨rfl, fun _ h => by cases h⟩, trivial⟩⟩⟩⟩ (H12 ((s1.1 + (1 : Int32)), (s1.2.1 + (1 : Int32)), (q_si p40.2 37 0 7 p40.1.toNatClampNeg s1.2.1)) rfl)
        refine q_lpE (E := fun s13 => q_E d q_K247 31 [some (.inr (.inr (30, 7, 0))), some (.inl s1.1), some (.inl s1.2.1), some (.inl s13.1)] [] s13.2 (some (.inl r.1), r.2)) r18 (fun s13 z20 HF H114 H215 => ?_) _ _ hl19
        obtain ⟨z21, HA22, HK23⟩ := q_bind HF
        have hP24 : ∀ p26 : Unit, (bif q_in (s13.1 - (1 : Int32)) 60 then ((Mo_isAhead s1.2.1 (s13.2.1 37 0 7 (s13.1 - (1 : Int32)).toNatClampNeg) s13.2).bind fun x27 => Option.bind (α := (Unit) ⊕ ((Int32 × q_H) ⊕ (Int32 × q_H))) (if x27 = 0 then (some (.inr (.inr ((s13.1, s13.2))))) else (some (.inl ()))) (fun z29 => match z29 with | .inl p34 => bif q_in (s13.1 - (1 : Int32)) 60 then (bif q_in s13.1 60 then (some (.inl ((s13.1 + (-1 : Int32)), (q_si s13.2 37 0 7 s13.1.toNatClampNeg (s13.2.1 37 0 7 (s13.1 - (1 : Int32)).toNatClampNeg))))) else none) else none | .inr z29 => some z29)) else none : Option ((Int32 × q_H) ⊕ (Int32 × q_H))) = some z20 → q_E d q_K247 35 [some (.inr (.inr (30, 7, 0))), some (.inl s1.1), some (.inl s1.2.1), some (.inl s13.1)] [] s13.2 (some (.inl r.1), r.2) := by
          intro p26 HF
          obtain ⟨g38, HF⟩ := q_gF HF
          refine q_gd (pc' := 45) (loc' := [some (.inr (.inr (30, 7, 0))), some (.inl s1.1), some (.inl s1.2.1), some (.inl s13.1)]) (stk' := [.inl (s13.2.1 37 0 7 (s13.1 - (1 : Int32)).toNatClampNeg), .inl s1.2.1, .inr (.inr (30, 7, 0))]) (h' := s13.2) 8 (fun _ _ => rfl) g38 ?_
          obtain ⟨x27, hx28, HF⟩ := q_bind HF
          refine q_cll (m' := 246) (av := [.inr (.inr (30, 7, 0)), .inl s1.2.1, .inl (s13.2.1 37 0 7 (s13.1 - (1 : Int32)).toNatClampNeg)]) (st' := []) (pc' := 48) (loc' := [some (.inr (.inr (30, 7, 0))), some (.inl s1.1), some (.inl s1.2.1), some (.inl s13.1)]) (h' := s13.2) 1 (fun _ _ => rfl) (eMo_isAhead (by omega) hx28) ?_
          obtain ⟨z29, HA30, HK31⟩ := q_bind HF
          have hP32 : ∀ p34 : Unit, (bif q_in (s13.1 - (1 : Int32)) 60 then (bif q_in s13.1 60 then (some (.inl ((s13.1 + (-1 : Int32)), (q_si s13.2 37 0 7 s13.1.toNatClampNeg (s13.2.1 37 0 7 (s13.1 - (1 : Int32)).toNatClampNeg))))) else none) else none : Option ((Int32 × q_H) ⊕ (Int32 × q_H))) = some z20 → q_E d q_K247 51 [some (.inr (.inr (30, 7, 0))), some (.inl s1.1), some (.inl s1.2.1), some (.inl s13.1)] [] s13.2 (some (.inl r.1), r.2) := by
            intro p34 HF
            obtain ⟨g36, HF⟩ := q_gF HF
            refine q_gd (pc' := 64) (loc' := [some (.inr (.inr (30, 7, 0))), some (.inl s1.1), some (.inl s1.2.1), some (.inl s13.1)]) (stk' := [.inl (s13.2.1 37 0 7 (s13.1 - (1 : Int32)).toNatClampNeg), .inl s13.1, .inr (.inr (37, 7, 0))]) (h' := s13.2) 9 (fun _ _ => rfl) g36 ?_
            obtain ⟨g35, HF⟩ := q_gF HF
            refine q_gd (pc' := 65) (loc' := [some (.inr (.inr (30, 7, 0))), some (.inl s1.1), some (.inl s1.2.1), some (.inl s13.1)]) (stk' := []) (h' := (q_si s13.2 37 0 7 s13.1.toNatClampNeg (s13.2.1 37 0 7 (s13.1 - (1 : Int32)).toNatClampNeg))) 1 (fun _ _ => rfl) g35 ?_
            refine q_blk (pc' := 31) (loc' := [some (.inr (.inr (30, 7, 0))), some (.inl s1.1), some (.inl s1.2.1), some (.inl (s13.1 + (-1 : Int32)))]) (stk' := []) (h' := (q_si s13.2 37 0 7 s13.1.toNatClampNeg (s13.2.1 37 0 7 (s13.1 - (1 : Int32)).toNatClampNeg))) 2 (fun _ _ => rfl) ?_
            have hz := Option.some.inj HF
            subst hz
            exact H114 ((s13.1 + (-1 : Int32)), (q_si s13.2 37 0 7 s13.1.toNatClampNeg (s13.2.1 37 0 7 (s13.1 - (1 : Int32)).toNatClampNeg))) rfl
          replace HF := HA30
          refine q_br (P := x27 = 0) (pcT := 71) (pcF := 51) (loc' := [some (.inr (.inr (30, 7, 0))), some (.inl s1.1), some (.inl s1.2.1), some (.inl s13.1)]) (stk' := []) (h' := s13.2) 1 (fun _ _ => rfl) (fun c33 => ?_) (fun c33 => ?_)
          · rw [if_pos c33] at HF
            have hz := Option.some.inj HF
            subst hz
            replace HF := HK31
            have hz := Option.some.inj HF
            subst hz
            rw [← H215 _ rfl] at HK16
            exact hP17 (s13.1, s13.2) HK16
          · rw [if_neg c33] at HF
            have hz := Option.some.inj HF
            subst hz
            exact hP32 () HK31
        replace HF := HA22
        refine q_br (P := s13.1 ≤ 0) (pcT := 71) (pcF := 35) (loc' := [some (.inr (.inr (30, 7, 0))), some (.inl s1.1), some (.inl s1.2.1), some (.inl s13.1)]) (stk' := []) (h' := s13.2) 2 (fun _ _ => rfl) (fun c25 => ?_) (fun c25 => ?_)
        · rw [if_pos c25] at HF
          have hz := Option.some.inj HF
          subst hz
          replace HF := HK23
          have hz := Option.some.inj HF
          subst hz
          rw [← H215 _ rfl] at HK16
          exact hP17 (s13.1, s13.2) HK16
        · rw [if_neg c25] at HF
          have hz := Option.some.inj HF
          subst hz
          exact hP24 () HK23
      · rw [if_neg c42] at HF
        refine q_blk (pc' := 4) (loc' := [some (.inr (.inr (30, 7, 0))), some (.inl s1.1), some (.inl (s1.2.1 + (1 : Int32))), none]) (stk' := []) (h' := s1.2.2) 3 (fun _ _ => rfl) ?_
        have hz := Option.some.inj HF
        subst hz
        exact H12 (s1.1, (s1.2.1 + (1 : Int32)), s1.2.2) rfl
