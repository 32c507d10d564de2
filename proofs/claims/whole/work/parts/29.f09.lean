def St_lastingBehind (k : Nat) (a1 : Int32) (a2 : Int32) (h : q_H) : Option Int32 :=
  (q_lp (fun s1 : Int32 × Int32 => (if (60 : Int32) ≤ s1.2 then (some (.inr (s1.1))) else ((Pg_at k s1.2 h).bind fun x9 => Option.bind (α := Int32) (if ¬ (h.1 3 0 k x9) = (1 : Int32) then (some (s1.1)) else ((St_isLasting k k x9 h).bind fun x15 => if x15 = 0 then (some (s1.1)) else ((St_isAhead k a1 a2 k x9 h).bind fun x17 => if ¬ x17 = 0 then ((Pg_at k s1.1 h).bind fun x19 => if s1.1 = (-1 : Int32) then (some (s1.2)) else ((St_isAhead k (h.1 3 3 k x9) (h.1 3 2 k x9) k x19 h).bind fun x21 => if x21 = 0 then (some (s1.1)) else (some (s1.2)))) else (some (s1.1))))) (fun p28 => some (.inl (p28, (s1.2 + (1 : Int32)))))) : Option ((Int32 × Int32) ⊕ Int32))) q_fu (((-1 : Int32), (0 : Int32)) : Int32 × Int32)).bind fun z8 => some z8
set_option maxRecDepth 100000 in
set_option maxHeartbeats 4000000 in
theorem eSt_lastingBehind {d : Nat} (hd : 4 ≤ d) {k : Nat} {a1 : Int32} {a2 : Int32} {h : q_H} {r : Int32} (HF : St_lastingBehind k a1 a2 h = some r) : q_T d 178 [.inr (.inr (0, k, 0)), .inl a1, .inl a2] h (some (.inl r), h) := by
  obtain ⟨d, rfl⟩ : ∃ d', d = d' + 1 := ⟨d - 1, by omega⟩
  refine q_ent q_K178 rfl rfl rfl ?_
  unfold St_lastingBehind at HF
  refine q_blk (pc' := 5) (loc' := [some (.inr (.inr (0, k, 0))), some (.inl a1), some (.inl a2), some (.inl (-1 : Int32)), some (.inl (0 : Int32)), none, none]) (stk' := []) (h' := h) 4 (fun _ _ => rfl) ?_
  obtain ⟨r6, hl7, HK4⟩ := q_bind HF
  refine q_lpE (E := fun s1 => q_E d q_K178 5 [some (.inr (.inr (0, k, 0))), some (.inl a1), some (.inl a2), some (.inl s1.1), some (.inl s1.2), none, none] [] h (some (.inl r), h)) r6 (fun s1 z8 HF H12 H23 => ?_) _ _ hl7
  refine q_br (P := (60 : Int32) ≤ s1.2) (pcT := 98) (pcF := 12) (loc' := [some (.inr (.inr (0, k, 0))), some (.inl a1), some (.inl a2), some (.inl s1.1), some (.inl s1.2), none, none]) (stk' := []) (h' := h) 3 (fun _ _ => rfl) (fun c30 => ?_) (fun c30 => ?_)
  · rw [if_pos c30] at HF
    have hz := Option.some.inj HF
    subst hz
    replace HF := HK4
    rw [← H23 _ rfl] at HF
    have hz := Option.some.inj HF
    subst hz
    exact q_rtn 2 (fun _ _ => rfl)
  · rw [if_neg c30] at HF
    obtain ⟨x9, hx10, HF⟩ := q_bind HF
    refine q_cll (m' := 89) (av := [.inr (.inr (1, k, 0)), .inl s1.2]) (st' := []) (pc' := 21) (loc' := [some (.inr (.inr (0, k, 0))), some (.inl a1), some (.inl a2), some (.inl s1.1), some (.inl s1.2), none, none]) (h' := h) 4 (fun _ _ => rfl) (ePg_at (by omega) hx10) ?_
    obtain ⟨z11, HA12, HK13⟩ := q_bind HF
    have hP14 : ∀ p28 : Int32, (some (.inl (p28, (s1.2 + (1 : Int32)))) : Option ((Int32 × Int32) ⊕ Int32)) = some z8 → q_E d q_K178 92 [some (.inr (.inr (0, k, 0))), some (.inl a1), some (.inl a2), some (.inl p28), some (.inl s1.2), some (.inr (.inr (3, k, x9))), none] [] h (some (.inl r), h) := by
      intro p28 HF
      refine q_blk (pc' := 5) (loc' := [some (.inr (.inr (0, k, 0))), some (.inl a1), some (.inl a2), some (.inl p28), some (.inl (s1.2 + (1 : Int32))), some (.inr (.inr (3, k, x9))), none]) (stk' := []) (h' := h) 2 (fun _ _ => rfl) ?_
      have hz := Option.some.inj HF
      subst hz
      exact q_wk (loc := [some (.inr (.inr (0, k, 0))), some (.inl a1), some (.inl a2), some (.inl p28), some (.inl (s1.2 + (1 : Int32))), none, none]) ⟨Or.inl rfl, ⟨Or.inl rfl, ⟨Or.inl rfl, ⟨Or.inl rfl, ⟨Or.inl rfl, ⟨Or.inr ⟨rfl, fun _ h => by cases h⟩, ⟨Or.inl rfl, trivial⟩⟩⟩⟩⟩⟩⟩ (H12 (p28, (s1.2 + (1 : Int32))) rfl)
    replace HF := HA12
    refine q_br (P := ¬ (h.1 3 0 k x9) = (1 : Int32)) (pcT := 92) (pcF := 32) (loc' := [some (.inr (.inr (0, k, 0))), some (.inl a1), some (.inl a2), some (.inl s1.1), some (.inl s1.2), some (.inr (.inr (3, k, x9))), none]) (stk' := []) (h' := h) 5 (fun _ _ => rfl) (fun c27 => ?_) (fun c27 => ?_)
    · rw [if_pos c27] at HF
      have hz := Option.some.inj HF
      subst hz
      exact hP14 (s1.1) HK13
    · rw [if_neg c27] at HF
      obtain ⟨x15, hx16, HF⟩ := q_bind HF
      refine q_cll (m' := 179) (av := [.inr (.inr (0, k, 0)), .inr (.inr (3, k, x9))]) (st' := []) (pc' := 38) (loc' := [some (.inr (.inr (0, k, 0))), some (.inl a1), some (.inl a2), some (.inl s1.1), some (.inl s1.2), some (.inr (.inr (3, k, x9))), none]) (h' := h) 3 (fun _ _ => rfl) (eSt_isLasting (by omega) hx16) ?_
      refine q_br (P := x15 = 0) (pcT := 92) (pcF := 41) (loc' := [some (.inr (.inr (0, k, 0))), some (.inl a1), some (.inl a2), some (.inl s1.1), some (.inl s1.2), some (.inr (.inr (3, k, x9))), none]) (stk' := []) (h' := h) 1 (fun _ _ => rfl) (fun c26 => ?_) (fun c26 => ?_)
      · rw [if_pos c26] at HF
        have hz := Option.some.inj HF
        subst hz
        exact hP14 (s1.1) HK13
      · rw [if_neg c26] at HF
        obtain ⟨x17, hx18, HF⟩ := q_bind HF
        refine q_cll (m' := 180) (av := [.inr (.inr (0, k, 0)), .inl a1, .inl a2, .inr (.inr (3, k, x9))]) (st' := []) (pc' := 49) (loc' := [some (.inr (.inr (0, k, 0))), some (.inl a1), some (.inl a2), some (.inl s1.1), some (.inl s1.2), some (.inr (.inr (3, k, x9))), none]) (h' := h) 5 (fun _ _ => rfl) (eSt_isAhead (by omega) hx18) ?_
        refine q_br (P := ¬ x17 = 0) (pcT := 55) (pcF := 52) (loc' := [some (.inr (.inr (0, k, 0))), some (.inl a1), some (.inl a2), some (.inl s1.1), some (.inl s1.2), some (.inr (.inr (3, k, x9))), none]) (stk' := []) (h' := h) 1 (fun _ _ => rfl) (fun c25 => ?_) (fun c25 => ?_)
        · rw [if_pos c25] at HF
          obtain ⟨x19, hx20, HF⟩ := q_bind HF
          refine q_cll (m' := 89) (av := [.inr (.inr (1, k, 0)), .inl s1.1]) (st' := []) (pc' := 63) (loc' := [some (.inr (.inr (0, k, 0))), some (.inl a1), some (.inl a2), some (.inl s1.1), some (.inl s1.2), some (.inr (.inr (3, k, x9))), none]) (h' := h) 4 (fun _ _ => rfl) (ePg_at (by omega) hx20) ?_
          refine q_br (P := s1.1 = (-1 : Int32)) (pcT := 89) (pcF := 70) (loc' := [some (.inr (.inr (0, k, 0))), some (.inl a1), some (.inl a2), some (.inl s1.1), some (.inl s1.2), some (.inr (.inr (3, k, x9))), some (.inr (.inr (3, k, x19)))]) (stk' := []) (h' := h) 4 (fun _ _ => rfl) (fun c24 => ?_) (fun c24 => ?_)
          · rw [if_pos c24] at HF
            refine q_blk (pc' := 92) (loc' := [some (.inr (.inr (0, k, 0))), some (.inl a1), some (.inl a2), some (.inl s1.2), some (.inl s1.2), some (.inr (.inr (3, k, x9))), some (.inr (.inr (3, k, x19)))]) (stk' := []) (h' := h) 2 (fun _ _ => rfl) ?_
            have hz := Option.some.inj HF
            subst hz
            exact q_wk (loc := [some (.inr (.inr (0, k, 0))), some (.inl a1), some (.inl a2), some (.inl s1.2), some (.inl s1.2), some (.inr (.inr (3, k, x9))), none]) ⟨Or.inl rfl, ⟨Or.inl rfl, ⟨Or.inl rfl, ⟨Or.inl rfl, ⟨Or.inl rfl, ⟨Or.inl rfl, ⟨Or.inr ⟨rfl, fun _ h => by cases h⟩, trivial⟩⟩⟩⟩⟩⟩⟩ (hP14 (s1.2) HK13)
          · rw [if_neg c24] at HF
            obtain ⟨x21, hx22, HF⟩ := q_bind HF
            refine q_cll (m' := 180) (av := [.inr (.inr (0, k, 0)), .inl (h.1 3 3 k x9), .inl (h.1 3 2 k x9), .inr (.inr (3, k, x19))]) (st' := []) (pc' := 86) (loc' := [some (.inr (.inr (0, k, 0))), some (.inl a1), some (.inl a2), some (.inl s1.1), some (.inl s1.2), some (.inr (.inr (3, k, x9))), some (.inr (.inr (3, k, x19)))]) (h' := h) 7 (fun _ _ => rfl) (eSt_isAhead (by omega) hx22) ?_
            refine q_br (P := x21 = 0) (pcT := 92) (pcF := 89) (loc' := [some (.inr (.inr (0, k, 0))), some (.inl a1), some (.inl a2), some (.inl s1.1), some (.inl s1.2), some (.inr (.inr (3, k, x9))), some (.inr (.inr (3, k, x19)))]) (stk' := []) (h' := h) 1 (fun _ _ => rfl) (fun c23 => ?_) (fun c23 => ?_)
            · rw [if_pos c23] at HF
              have hz := Option.some.inj HF
              subst hz
              exact q_wk (loc := [some (.inr (.inr (0, k, 0))), some (.inl a1), some (.inl a2), some (.inl s1.1), some (.inl s1.2), some (.inr (.inr (3, k, x9))), none]) ⟨Or.inl rfl, ⟨Or.inl rfl, ⟨Or.inl rfl, ⟨Or.inl rfl, ⟨Or.inl rfl, ⟨Or.inl rfl, ⟨Or.inr ⟨rfl, fun _ h => by cases h⟩, trivial⟩⟩⟩⟩⟩⟩⟩ (hP14 (s1.1) HK13)
            · rw [if_neg c23] at HF
              refine q_blk (pc' := 92) (loc' := [some (.inr (.inr (0, k, 0))), some (.inl a1), some (.inl a2), some (.inl s1.2), some (.inl s1.2), some (.inr (.inr (3, k, x9))), some (.inr (.inr (3, k, x19)))]) (stk' := []) (h' := h) 2 (fun _ _ => rfl) ?_
              have hz := Option.some.inj HF
              subst hz
              exact q_wk (loc := [some (.inr (.inr (0, k, 0))), some (.inl a1), some (.inl a2), some (.inl s1.2), some (.inl s1.2), some (.inr (.inr (3, k, x9))), none]) ⟨Or.inl rfl, ⟨Or.inl rfl, ⟨Or.inl rfl, ⟨Or.inl rfl, ⟨Or.inl rfl, ⟨Or.inl rfl, ⟨Or.inr ⟨rfl, fun _ h => by cases h⟩, trivial⟩⟩⟩⟩⟩⟩⟩ (hP14 (s1.2) HK13)
        · rw [if_neg c25] at HF
          refine q_blk (pc' := 92) (loc' := [some (.inr (.inr (0, k, 0))), some (.inl a1), some (.inl a2), some (.inl s1.1), some (.inl s1.2), some (.inr (.inr (3, k, x9))), none]) (stk' := []) (h' := h) 1 (fun _ _ => rfl) ?_
          have hz := Option.some.inj HF
          subst hz
          exact hP14 (s1.1) HK13
def Mo_placeIn (a1 : Int32) (a2 : Int32) (h : q_H) : Option Int32 :=
  (Mo_freeIn a1 h).bind fun x1 => if a2 ≤ x1 then ((q_lp (fun s3 : Int32 => (bif q_in ((17 : Int32) + a1) 1644 then (if (((10 : Int32) * a1) + (h.1 31 0 7 ((17 : Int32) + a1).toNatClampNeg)) ≤ s3 then (some (.inr (.inl ()))) else ((Mo_of s3 (0 : Int32) h).bind fun x11 => if ¬ x11 = 0 then (some (.inl (s3 + (1 : Int32)))) else (some (.inr (.inr (s3)))))) else none : Option ((Int32) ⊕ ((Unit) ⊕ Int32)))) q_fu (((10 : Int32) * a1) : Int32)).bind fun z10 => match z10 with | .inl p16 => bif q_in ((17 : Int32) + a1) 1644 then (if (10 : Int32) ≤ (h.1 31 0 7 ((17 : Int32) + a1).toNatClampNeg) then (some ((-1 : Int32))) else (bif q_in ((17 : Int32) + a1) 1644 then (some ((((10 : Int32) * a1) + (h.1 31 0 7 ((17 : Int32) + a1).toNatClampNeg)))) else none)) else none | .inr z10 => some z10) else (some ((-1 : Int32)))
set_option maxRecDepth 100000 in
set_option maxHeartbeats 4000000 in
theorem eMo_placeIn {d : Nat} (hd : 4 ≤ d) {a1 : Int32} {a2 : Int32} {h : q_H} {r : Int32} (HF : Mo_placeIn a1 a2 h = some r) : q_T d 193 [.inr (.inr (30, 7, 0)), .inl a1, .inl a2] h (some (.inl r), h) := by
  obtain ⟨d, rfl⟩ : ∃ d', d = d' + 1 := ⟨d - 1, by omega⟩
  refine q_ent q_K193 rfl rfl rfl ?_
  unfold Mo_placeIn at HF
  obtain ⟨x1, hx2, HF⟩ := q_bind HF
  refine q_cll (m' := 192) (av := [.inr (.inr (30, 7, 0)), .inl a1]) (st' := []) (pc' := 5) (loc' := [some (.inr (.inr (30, 7, 0))), some (.inl a1), some (.inl a2), none]) (h' := h) 3 (fun _ _ => rfl) (eMo_freeIn (by omega) hx2) ?_
  refine q_br (P := a2 ≤ x1) (pcT := 11) (pcF := 9) (loc' := [some (.inr (.inr (30, 7, 0))), some (.inl a1), some (.inl a2), none]) (stk' := []) (h' := h) 2 (fun _ _ => rfl) (fun c20 => ?_) (fun c20 => ?_)
  · rw [if_pos c20] at HF
    refine q_blk (pc' := 16) (loc' := [some (.inr (.inr (30, 7, 0))), some (.inl a1), some (.inl a2), some (.inl ((10 : Int32) * a1))]) (stk' := []) (h' := h) 4 (fun _ _ => rfl) ?_
    obtain ⟨r8, hl9, HK6⟩ := q_bind HF
    have hP7 : ∀ p16 : Unit, (bif q_in ((17 : Int32) + a1) 1644 then (if (10 : Int32) ≤ (h.1 31 0 7 ((17 : Int32) + a1).toNatClampNeg) then (some ((-1 : Int32))) else (bif q_in ((17 : Int32) + a1) 1644 then (some ((((10 : Int32) * a1) + (h.1 31 0 7 ((17 : Int32) + a1).toNatClampNeg)))) else none)) else none : Option Int32) = some r → q_E d q_K193 51 [some (.inr (.inr (30, 7, 0))), some (.inl a1), some (.inl a2), none] [] h (some (.inl r), h) := by
      intro p16 HF
      obtain ⟨g19, HF⟩ := q_gF HF
      refine q_gd (pc' := 60) (loc' := [some (.inr (.inr (30, 7, 0))), some (.inl a1), some (.inl a2), none]) (stk' := [.inl (h.1 31 0 7 ((17 : Int32) + a1).toNatClampNeg)]) (h' := h) 6 (fun _ _ => rfl) g19 ?_
      refine q_br (P := (10 : Int32) ≤ (h.1 31 0 7 ((17 : Int32) + a1).toNatClampNeg)) (pcT := 82) (pcF := 65) (loc' := [some (.inr (.inr (30, 7, 0))), some (.inl a1), some (.inl a2), none]) (stk' := []) (h' := h) 2 (fun _ _ => rfl) (fun c18 => ?_) (fun c18 => ?_)
      · rw [if_pos c18] at HF
        have hz := Option.some.inj HF
        subst hz
        exact q_rtn 2 (fun _ _ => rfl)
      · rw [if_neg c18] at HF
        obtain ⟨g17, HF⟩ := q_gF HF
        refine q_gd (pc' := 78) (loc' := [some (.inr (.inr (30, 7, 0))), some (.inl a1), some (.inl a2), none]) (stk' := [.inl (h.1 31 0 7 ((17 : Int32) + a1).toNatClampNeg), .inl ((10 : Int32) * a1)]) (h' := h) 9 (fun _ _ => rfl) g17 ?_
        have hz := Option.some.inj HF
        subst hz
        exact q_rtn 3 (fun _ _ => rfl)
    refine q_lpE (E := fun s3 => q_E d q_K193 16 [some (.inr (.inr (30, 7, 0))), some (.inl a1), some (.inl a2), some (.inl s3)] [] h (some (.inl r), h)) r8 (fun s3 z10 HF H14 H25 => ?_) _ _ hl9
    obtain ⟨g15, HF⟩ := q_gF HF
    refine q_gd (pc' := 30) (loc' := [some (.inr (.inr (30, 7, 0))), some (.inl a1), some (.inl a2), some (.inl s3)]) (stk' := [.inl (h.1 31 0 7 ((17 : Int32) + a1).toNatClampNeg), .inl ((10 : Int32) * a1), .inl s3]) (h' := h) 10 (fun _ _ => rfl) g15 ?_
    refine q_br (P := (((10 : Int32) * a1) + (h.1 31 0 7 ((17 : Int32) + a1).toNatClampNeg)) ≤ s3) (pcT := 51) (pcF := 34) (loc' := [some (.inr (.inr (30, 7, 0))), some (.inl a1), some (.inl a2), some (.inl s3)]) (stk' := []) (h' := h) 2 (fun _ _ => rfl) (fun c14 => ?_) (fun c14 => ?_)
    · rw [if_pos c14] at HF
      have hz := Option.some.inj HF
      subst hz
      rw [← H25 _ rfl] at HK6
      exact q_wk (loc := [some (.inr (.inr (30, 7, 0))), some (.inl a1), some (.inl a2), none]) ⟨Or.inl rfl, ⟨Or.inl rfl, ⟨Or.inl rfl, ⟨Or.inr ⟨rfl, fun _ h => by cases h⟩, trivial⟩⟩⟩⟩ (hP7 () HK6)
    · rw [if_neg c14] at HF
      obtain ⟨x11, hx12, HF⟩ := q_bind HF
      refine q_cll (m' := 187) (av := [.inr (.inr (30, 7, 0)), .inl s3, .inl (0 : Int32)]) (st' := []) (pc' := 40) (loc' := [some (.inr (.inr (30, 7, 0))), some (.inl a1), some (.inl a2), some (.inl s3)]) (h' := h) 4 (fun _ _ => rfl) (eMo_of (by omega) hx12) ?_
      refine q_br (P := ¬ x11 = 0) (pcT := 45) (pcF := 43) (loc' := [some (.inr (.inr (30, 7, 0))), some (.inl a1), some (.inl a2), some (.inl s3)]) (stk' := []) (h' := h) 1 (fun _ _ => rfl) (fun c13 => ?_) (fun c13 => ?_)
      · rw [if_pos c13] at HF
        refine q_blk (pc' := 16) (loc' := [some (.inr (.inr (30, 7, 0))), some (.inl a1), some (.inl a2), some (.inl (s3 + (1 : Int32)))]) (stk' := []) (h' := h) 2 (fun _ _ => rfl) ?_
        have hz := Option.some.inj HF
        subst hz
        exact H14 (s3 + (1 : Int32)) rfl
      · rw [if_neg c13] at HF
        have hz := Option.some.inj HF
        subst hz
        replace HF := HK6
        rw [← H25 _ rfl] at HF
        have hz := Option.some.inj HF
        subst hz
        exact q_rtn 2 (fun _ _ => rfl)
  · rw [if_neg c20] at HF
    have hz := Option.some.inj HF
    subst hz
    exact q_rtn 2 (fun _ _ => rfl)
def Mo_horizon  (h : q_H) : Option Int32 :=
  (Mo_horizonBut (-1 : Int32) h).bind fun x1 => some (x1)
set_option maxRecDepth 100000 in
set_option maxHeartbeats 4000000 in
theorem eMo_horizon {d : Nat} (hd : 4 ≤ d)  {h : q_H} {r : Int32} (HF : Mo_horizon  h = some r) : q_T d 205 [.inr (.inr (30, 7, 0))] h (some (.inl r), h) := by
  obtain ⟨d, rfl⟩ : ∃ d', d = d' + 1 := ⟨d - 1, by omega⟩
  refine q_ent q_K205 rfl rfl rfl ?_
  unfold Mo_horizon at HF
  obtain ⟨x1, hx2, HF⟩ := q_bind HF
  refine q_cll (m' := 204) (av := [.inr (.inr (30, 7, 0)), .inl (-1 : Int32)]) (st' := []) (pc' := 5) (loc' := [some (.inr (.inr (30, 7, 0)))]) (h' := h) 3 (fun _ _ => rfl) (eMo_horizonBut (by omega) hx2) ?_
  have hz := Option.some.inj HF
  subst hz
  exact q_rtn 1 (fun _ _ => rfl)
def Mo_chainNext (a1 : Int32) (h : q_H) : Option Int32 :=
  (Mo_enderOf a1 h).bind fun x1 => if x1 < 0 then (some ((-1 : Int32))) else ((Mo_of a1 (8 : Int32) h).bind fun x3 => if x3 = (a1 / (10 : Int32)) then ((Mo_of a1 (8 : Int32) h).bind fun x5 => (Mo_of a1 (9 : Int32) h).bind fun x7 => (Mo_isVersion (((10 : Int32) * x5) + x7) h).bind fun x9 => if x9 = 0 then (some ((-1 : Int32))) else ((Mo_of (((10 : Int32) * x5) + x7) (10 : Int32) h).bind fun x11 => if ¬ x11 = (1 : Int32) then (some ((-1 : Int32))) else ((Mo_of (((10 : Int32) * x5) + x7) (6 : Int32) h).bind fun x13 => if ¬ x13 = x1 then (some ((-1 : Int32))) else (some ((((10 : Int32) * x5) + x7)))))) else (some ((-1 : Int32))))
set_option maxRecDepth 100000 in
set_option maxHeartbeats 4000000 in
theorem eMo_chainNext {d : Nat} (hd : 4 ≤ d) {a1 : Int32} {h : q_H} {r : Int32} (HF : Mo_chainNext a1 h = some r) : q_T d 210 [.inr (.inr (30, 7, 0)), .inl a1] h (some (.inl r), h) := by
  obtain ⟨d, rfl⟩ : ∃ d', d = d' + 1 := ⟨d - 1, by omega⟩
  refine q_ent q_K210 rfl rfl rfl ?_
  unfold Mo_chainNext at HF
  obtain ⟨x1, hx2, HF⟩ := q_bind HF
  refine q_cll (m' := 206) (av := [.inr (.inr (30, 7, 0)), .inl a1]) (st' := []) (pc' := 5) (loc' := [some (.inr (.inr (30, 7, 0))), some (.inl a1), none, none]) (h' := h) 3 (fun _ _ => rfl) (eMo_enderOf (by omega) hx2) ?_
  refine q_br (P := x1 < 0) (pcT := 24) (pcF := 10) (loc' := [some (.inr (.inr (30, 7, 0))), some (.inl a1), some (.inl x1), none]) (stk' := []) (h' := h) 3 (fun _ _ => rfl) (fun c19 => ?_) (fun c19 => ?_)
  · rw [if_pos c19] at HF
    have hz := Option.some.inj HF
    subst hz
    exact q_rtn 2 (fun _ _ => rfl)
  · rw [if_neg c19] at HF
    obtain ⟨x3, hx4, HF⟩ := q_bind HF
    refine q_cll (m' := 187) (av := [.inr (.inr (30, 7, 0)), .inl a1, .inl (8 : Int32)]) (st' := []) (pc' := 17) (loc' := [some (.inr (.inr (30, 7, 0))), some (.inl a1), some (.inl x1), none]) (h' := h) 4 (fun _ _ => rfl) (eMo_of (by omega) hx4) ?_
    refine q_br (P := x3 = (a1 / (10 : Int32))) (pcT := 26) (pcF := 24) (loc' := [some (.inr (.inr (30, 7, 0))), some (.inl a1), some (.inl x1), none]) (stk' := []) (h' := h) 4 (fun _ _ => rfl) (fun c18 => ?_) (fun c18 => ?_)
    · rw [if_pos c18] at HF
      obtain ⟨x5, hx6, HF⟩ := q_bind HF
      refine q_cll (m' := 187) (av := [.inr (.inr (30, 7, 0)), .inl a1, .inl (8 : Int32)]) (st' := [.inl (10 : Int32)]) (pc' := 35) (loc' := [some (.inr (.inr (30, 7, 0))), some (.inl a1), some (.inl x1), none]) (h' := h) 5 (fun _ _ => rfl) (eMo_of (by omega) hx6) ?_
      obtain ⟨x7, hx8, HF⟩ := q_bind HF
      refine q_cll (m' := 187) (av := [.inr (.inr (30, 7, 0)), .inl a1, .inl (9 : Int32)]) (st' := [.inl ((10 : Int32) * x5)]) (pc' := 43) (loc' := [some (.inr (.inr (30, 7, 0))), some (.inl a1), some (.inl x1), none]) (h' := h) 5 (fun _ _ => rfl) (eMo_of (by omega) hx8) ?_
      obtain ⟨x9, hx10, HF⟩ := q_bind HF
      refine q_cll (m' := 191) (av := [.inr (.inr (30, 7, 0)), .inl (((10 : Int32) * x5) + x7)]) (st' := []) (pc' := 50) (loc' := [some (.inr (.inr (30, 7, 0))), some (.inl a1), some (.inl x1), some (.inl (((10 : Int32) * x5) + x7))]) (h' := h) 5 (fun _ _ => rfl) (eMo_isVersion (by omega) hx10) ?_
      refine q_br (P := x9 = 0) (pcT := 79) (pcF := 53) (loc' := [some (.inr (.inr (30, 7, 0))), some (.inl a1), some (.inl x1), some (.inl (((10 : Int32) * x5) + x7))]) (stk' := []) (h' := h) 1 (fun _ _ => rfl) (fun c17 => ?_) (fun c17 => ?_)
      · rw [if_pos c17] at HF
        have hz := Option.some.inj HF
        subst hz
        exact q_rtn 2 (fun _ _ => rfl)
      · rw [if_neg c17] at HF
        obtain ⟨x11, hx12, HF⟩ := q_bind HF
        refine q_cll (m' := 187) (av := [.inr (.inr (30, 7, 0)), .inl (((10 : Int32) * x5) + x7), .inl (10 : Int32)]) (st' := []) (pc' := 60) (loc' := [some (.inr (.inr (30, 7, 0))), some (.inl a1), some (.inl x1), some (.inl (((10 : Int32) * x5) + x7))]) (h' := h) 4 (fun _ _ => rfl) (eMo_of (by omega) hx12) ?_
        refine q_br (P := ¬ x11 = (1 : Int32)) (pcT := 79) (pcF := 64) (loc' := [some (.inr (.inr (30, 7, 0))), some (.inl a1), some (.inl x1), some (.inl (((10 : Int32) * x5) + x7))]) (stk' := []) (h' := h) 2 (fun _ _ => rfl) (fun c16 => ?_) (fun c16 => ?_)
        · rw [if_pos c16] at HF
          have hz := Option.some.inj HF
          subst hz
          exact q_rtn 2 (fun _ _ => rfl)
        · rw [if_neg c16] at HF
          obtain ⟨x13, hx14, HF⟩ := q_bind HF
          refine q_cll (m' := 187) (av := [.inr (.inr (30, 7, 0)), .inl (((10 : Int32) * x5) + x7), .inl (6 : Int32)]) (st' := []) (pc' := 71) (loc' := [some (.inr (.inr (30, 7, 0))), some (.inl a1), some (.inl x1), some (.inl (((10 : Int32) * x5) + x7))]) (h' := h) 4 (fun _ _ => rfl) (eMo_of (by omega) hx14) ?_
          refine q_br (P := ¬ x13 = x1) (pcT := 79) (pcF := 75) (loc' := [some (.inr (.inr (30, 7, 0))), some (.inl a1), some (.inl x1), some (.inl (((10 : Int32) * x5) + x7))]) (stk' := []) (h' := h) 2 (fun _ _ => rfl) (fun c15 => ?_) (fun c15 => ?_)
          · rw [if_pos c15] at HF
            have hz := Option.some.inj HF
            subst hz
            exact q_rtn 2 (fun _ _ => rfl)
          · rw [if_neg c15] at HF
            have hz := Option.some.inj HF
            subst hz
            exact q_rtn 3 (fun _ _ => rfl)
    · rw [if_neg c18] at HF
      have hz := Option.some.inj HF
      subst hz
      exact q_rtn 2 (fun _ _ => rfl)
def Mo_passes  (h : q_H) : Option q_H :=
  (q_lp (fun s1 : Int32 × q_H => (if (60 : Int32) ≤ s1.1 then (some (.inr (s1.2))) else ((Mo_isSlot s1.1 s1.2).bind fun x9 => Option.bind (α := q_H) (if x9 = 0 then (some (s1.2)) else ((Mo_of s1.1 (0 : Int32) s1.2).bind fun x15 => if x15 = (3 : Int32) then (bif q_in (s1.2.1 30 9 7 0) 60 then (some ((q_si (q_si s1.2 36 0 7 (s1.2.1 30 9 7 0).toNatClampNeg s1.1) 30 9 7 0 (((q_si s1.2 36 0 7 (s1.2.1 30 9 7 0).toNatClampNeg s1.1).1 30 9 7 0) + (1 : Int32))))) else none) else (some (s1.2)))) (fun p20 => some (.inl ((s1.1 + (1 : Int32)), p20)))) : Option ((Int32 × q_H) ⊕ (q_H)))) q_fu (((0 : Int32), (q_si h 30 9 7 0 (0 : Int32))) : Int32 × q_H)).bind fun p23 => (q_lp (fun s24 : Int32 × q_H => (if (s24.2.1 30 9 7 0) ≤ s24.1 then (some (.inr (s24.2))) else (Option.bind (α := Int32) (if (s24.2.1 30 9 7 0) ≤ (s24.1 + (s24.2.1 31 0 7 1)) then (some ((s24.2.1 30 9 7 0))) else (some ((s24.1 + (s24.2.1 31 0 7 1))))) (fun p37 => (Mo_takesOut s24.1 p37 s24.2).bind fun x38 => (q_lp (fun s40 : Int32 × q_H => (if p37 ≤ s40.1 then (some (.inr (s40.2))) else (bif q_in s40.1 60 then ((Mo_sets (s40.2.1 36 0 7 s40.1.toNatClampNeg) (0 : Int32) (0 : Int32) s40.2).bind fun x48 => some (.inl ((s40.1 + (1 : Int32)), x48))) else none) : Option ((Int32 × q_H) ⊕ (q_H)))) q_fu ((s24.1, x38.2) : Int32 × q_H)).bind fun p52 => (Mo_tellsOf (4 : Int32) x38.1 (q_si (q_si p52 31 0 7 12 ((p52.1 31 0 7 12) + (1 : Int32))) 31 0 7 13 (((q_si p52 31 0 7 12 ((p52.1 31 0 7 12) + (1 : Int32))).1 31 0 7 13) + x38.1))).bind fun x53 => some (.inl ((s24.1 + (x53.1 31 0 7 1)), x53)))) : Option ((Int32 × q_H) ⊕ q_H))) q_fu (((0 : Int32), p23) : Int32 × q_H)).bind fun z31 => some z31
set_option maxRecDepth 100000 in
set_option maxHeartbeats 4000000 in
theorem eMo_passes {d : Nat} (hd : 4 ≤ d)  {h : q_H} {r : q_H} (HF : Mo_passes  h = some r) : q_T d 221 [.inr (.inr (30, 7, 0))] h (none, r) := by
  obtain ⟨d, rfl⟩ : ∃ d', d = d' + 1 := ⟨d - 1, by omega⟩
  refine q_ent q_K221 rfl rfl rfl ?_
  unfold Mo_passes at HF
  refine q_blk (pc' := 7) (loc' := [some (.inr (.inr (30, 7, 0))), some (.inl (0 : Int32)), none, none, none]) (stk' := []) (h' := (q_si h 30 9 7 0 (0 : Int32))) 5 (fun _ _ => rfl) ?_
  obtain ⟨r6, hl7, HK4⟩ := q_bind HF
  have hP5 : ∀ p23 : q_H, ((q_lp (fun s24 : Int32 × q_H => (if (s24.2.1 30 9 7 0) ≤ s24.1 then (some (.inr (s24.2))) else (Option.bind (α := Int32) (if (s24.2.1 30 9 7 0) ≤ (s24.1 + (s24.2.1 31 0 7 1)) then (some ((s24.2.1 30 9 7 0))) else (some ((s24.1 + (s24.2.1 31 0 7 1))))) (fun p37 => (Mo_takesOut s24.1 p37 s24.2).bind fun x38 => (q_lp (fun s40 : Int32 × q_H => (if p37 ≤ s40.1 then (some (.inr (s40.2))) else (bif q_in s40.1 60 then ((Mo_sets (s40.2.1 36 0 7 s40.1.toNatClampNeg) (0 : Int32) (0 : Int32) s40.2).bind fun x48 => some (.inl ((s40.1 + (1 : Int32)), x48))) else none) : Option ((Int32 × q_H) ⊕ (q_H)))) q_fu ((s24.1, x38.2) : Int32 × q_H)).bind fun p52 => (Mo_tellsOf (4 : Int32) x38.1 (q_si (q_si p52 31 0 7 12 ((p52.1 31 0 7 12) + (1 : Int32))) 31 0 7 13 (((q_si p52 31 0 7 12 ((p52.1 31 0 7 12) + (1 : Int32))).1 31 0 7 13) + x38.1))).bind fun x53 => some (.inl ((s24.1 + (x53.1 31 0 7 1)), x53)))) : Option ((Int32 × q_H) ⊕ q_H))) q_fu (((0 : Int32), p23) : Int32 × q_H)).bind fun z31 => some z31 : Option q_H) = some r → q_E d q_K221 60 [some (.inr (.inr (30, 7, 0))), none, none, none, none] [] p23 (none, r) := by
    intro p23 HF
    refine q_blk (pc' := 62) (loc' := [some (.inr (.inr (30, 7, 0))), some (.inl (0 : Int32)), none, none, none]) (stk' := []) (h' := p23) 2 (fun _ _ => rfl) ?_
    obtain ⟨r29, hl30, HK27⟩ := q_bind HF
    refine q_lpE (E := fun s24 => q_E d q_K221 62 [some (.inr (.inr (30, 7, 0))), some (.inl s24.1), none, none, none] [] s24.2 (none, r)) r29 (fun s24 z31 HF H125 H226 => ?_) _ _ hl30
    refine q_br (P := (s24.2.1 30 9 7 0) ≤ s24.1) (pcT := 176) (pcF := 70) (loc' := [some (.inr (.inr (30, 7, 0))), some (.inl s24.1), none, none, none]) (stk' := []) (h' := s24.2) 4 (fun _ _ => rfl) (fun c56 => ?_) (fun c56 => ?_)
    · rw [if_pos c56] at HF
      have hz := Option.some.inj HF
      subst hz
      replace HF := HK27
      rw [← H226 _ rfl] at HF
      have hz := Option.some.inj HF
      subst hz
      exact q_rtn 1 (fun _ _ => rfl)
    · rw [if_neg c56] at HF
      obtain ⟨z32, HA33, HK34⟩ := q_bind HF
      have hP35 : ∀ p37 : Int32, ((Mo_takesOut s24.1 p37 s24.2).bind fun x38 => (q_lp (fun s40 : Int32 × q_H => (if p37 ≤ s40.1 then (some (.inr (s40.2))) else (bif q_in s40.1 60 then ((Mo_sets (s40.2.1 36 0 7 s40.1.toNatClampNeg) (0 : Int32) (0 : Int32) s40.2).bind fun x48 => some (.inl ((s40.1 + (1 : Int32)), x48))) else none) : Option ((Int32 × q_H) ⊕ (q_H)))) q_fu ((s24.1, x38.2) : Int32 × q_H)).bind fun p52 => (Mo_tellsOf (4 : Int32) x38.1 (q_si (q_si p52 31 0 7 12 ((p52.1 31 0 7 12) + (1 : Int32))) 31 0 7 13 (((q_si p52 31 0 7 12 ((p52.1 31 0 7 12) + (1 : Int32))).1 31 0 7 13) + x38.1))).bind fun x53 => some (.inl ((s24.1 + (x53.1 31 0 7 1)), x53)) : Option ((Int32 × q_H) ⊕ q_H)) = some z31 → q_E d q_K221 100 [some (.inr (.inr (30, 7, 0))), some (.inl s24.1), none, none, none] [.inl p37] s24.2 (none, r) := by
        intro p37 HF
        obtain ⟨x38, hx39, HF⟩ := q_bind HF
        refine q_cll (m' := 220) (av := [.inr (.inr (30, 7, 0)), .inl s24.1, .inl p37]) (st' := []) (pc' := 107) (loc' := [some (.inr (.inr (30, 7, 0))), some (.inl s24.1), some (.inl p37), none, none]) (h' := s24.2) 5 (fun _ _ => rfl) (eMo_takesOut (by omega) hx39) ?_
        refine q_blk (pc' := 111) (loc' := [some (.inr (.inr (30, 7, 0))), some (.inl s24.1), some (.inl p37), some (.inl x38.1), some (.inl s24.1)]) (stk' := []) (h' := x38.2) 3 (fun _ _ => rfl) ?_
        obtain ⟨r45, hl46, HK43⟩ := q_bind HF
        have hP44 : ∀ p52 : q_H, ((Mo_tellsOf (4 : Int32) x38.1 (q_si (q_si p52 31 0 7 12 ((p52.1 31 0 7 12) + (1 : Int32))) 31 0 7 13 (((q_si p52 31 0 7 12 ((p52.1 31 0 7 12) + (1 : Int32))).1 31 0 7 13) + x38.1))).bind fun x53 => some (.inl ((s24.1 + (x53.1 31 0 7 1)), x53)) : Option ((Int32 × q_H) ⊕ q_H)) = some z31 → q_E d q_K221 136 [some (.inr (.inr (30, 7, 0))), some (.inl s24.1), some (.inl p37), some (.inl x38.1), none] [] p52 (none, r) := by
          intro p52 HF
          obtain ⟨x53, hx54, HF⟩ := q_bind HF
          refine q_cll (m' := 212) (av := [.inr (.inr (30, 7, 0)), .inl (4 : Int32), .inl x38.1]) (st' := []) (pc' := 164) (loc' := [some (.inr (.inr (30, 7, 0))), some (.inl s24.1), some (.inl p37), some (.inl x38.1), none]) (h' := (q_si (q_si p52 31 0 7 12 ((p52.1 31 0 7 12) + (1 : Int32))) 31 0 7 13 (((q_si p52 31 0 7 12 ((p52.1 31 0 7 12) + (1 : Int32))).1 31 0 7 13) + x38.1))) 20 (fun _ _ => rfl) (eMo_tellsOf (by omega) hx54) ?_
          refine q_blk (pc' := 62) (loc' := [some (.inr (.inr (30, 7, 0))), some (.inl (s24.1 + (x53.1 31 0 7 1))), some (.inl p37), some (.inl x38.1), none]) (stk' := []) (h' := x53) 8 (fun _ _ => rfl) ?_
          have hz := Option.some.inj HF
          subst hz
          exact q_wk (loc := [some (.inr (.inr (30, 7, 0))), some (.inl (s24.1 + (x53.1 31 0 7 1))), none, none, none]) ⟨Or.inl rfl, ⟨Or.inl rfl, ⟨Or.inr ⟨rfl, fun _ h => by cases h⟩, ⟨Or.inr ⟨rfl, fun _ h => by cases h⟩, ⟨Or.inl rfl, trivial⟩⟩⟩⟩⟩ (H125 ((s24.1 + (x53.1 31 0 7 1)), x53) rfl)
        refine q_lpE (E := fun s40 => q_E d q_K221 111 [some (.inr (.inr (30, 7, 0))), some (.inl s24.1), some (.inl p37), some (.inl x38.1), some (.inl s40.1)] [] s40.2 (none, r)) r45 (fun s40 z47 HF H141 H242 => ?_) _ _ hl46
        refine q_br (P := p37 ≤ s40.1) (pcT := 136) (pcF := 117) (loc' := [some (.inr (.inr (30, 7, 0))), some (.inl s24.1), some (.inl p37), some (.inl x38.1), some (.inl s40.1)]) (stk' := []) (h' := s40.2) 3 (fun _ _ => rfl) (fun c51 => ?_) (fun c51 => ?_)
        · rw [if_pos c51] at HF
          have hz := Option.some.inj HF
          subst hz
          rw [← H242 _ rfl] at HK43
          exact q_wk (loc := [some (.inr (.inr (30, 7, 0))), some (.inl s24.1), some (.inl p37), some (.inl x38.1), none]) ⟨Or.inl rfl, ⟨Or.inl rfl, ⟨Or.inl rfl, ⟨Or.inl rfl, ⟨Or.inr ⟨rfl, fun _ h => by cases h⟩, trivial⟩⟩⟩⟩⟩ (hP44 (s40.2) HK43)
        · rw [if_neg c51] at HF
          obtain ⟨g50, HF⟩ := q_gF HF
          refine q_gd (pc' := 125) (loc' := [some (.inr (.inr (30, 7, 0))), some (.inl s24.1), some (.inl p37), some (.inl x38.1), some (.inl s40.1)]) (stk' := [.inl (s40.2.1 36 0 7 s40.1.toNatClampNeg), .inr (.inr (30, 7, 0))]) (h' := s40.2) 5 (fun _ _ => rfl) g50 ?_
          obtain ⟨x48, hx49, HF⟩ := q_bind HF
          refine q_cll (m' := 188) (av := [.inr (.inr (30, 7, 0)), .inl (s40.2.1 36 0 7 s40.1.toNatClampNeg), .inl (0 : Int32), .inl (0 : Int32)]) (st' := []) (pc' := 130) (loc' := [some (.inr (.inr (30, 7, 0))), some (.inl s24.1), some (.inl p37), some (.inl x38.1), some (.inl s40.1)]) (h' := s40.2) 3 (fun _ _ => rfl) (eMo_sets (by omega) hx49) ?_
          refine q_blk (pc' := 111) (loc' := [some (.inr (.inr (30, 7, 0))), some (.inl s24.1), some (.inl p37), some (.inl x38.1), some (.inl (s40.1 + (1 : Int32)))]) (stk' := []) (h' := x48) 2 (fun _ _ => rfl) ?_
          have hz := Option.some.inj HF
          subst hz
          exact H141 ((s40.1 + (1 : Int32)), x48) rfl
      replace HF := HA33
      refine q_br (P := (s24.2.1 30 9 7 0) ≤ (s24.1 + (s24.2.1 31 0 7 1))) (pcT := 96) (pcF := 85) (loc' := [some (.inr (.inr (30, 7, 0))), some (.inl s24.1), none, none, none]) (stk' := []) (h' := s24.2) 9 (fun _ _ => rfl) (fun c36 => ?_) (fun c36 => ?_)
      · rw [if_pos c36] at HF
        refine q_blk (pc' := 100) (loc' := [some (.inr (.inr (30, 7, 0))), some (.inl s24.1), none, none, none]) (stk' := [.inl (s24.2.1 30 9 7 0)]) (h' := s24.2) 2 (fun _ _ => rfl) ?_
        have hz := Option.some.inj HF
        subst hz
        exact hP35 (s24.2.1 30 9 7 0) HK34
      · rw [if_neg c36] at HF
        refine q_blk (pc' := 100) (loc' := [some (.inr (.inr (30, 7, 0))), some (.inl s24.1), none, none, none]) (stk' := [.inl (s24.1 + (s24.2.1 31 0 7 1))]) (h' := s24.2) 7 (fun _ _ => rfl) ?_
        have hz := Option.some.inj HF
        subst hz
        exact hP35 (s24.1 + (s24.2.1 31 0 7 1)) HK34
  refine q_lpE (E := fun s1 => q_E d q_K221 7 [some (.inr (.inr (30, 7, 0))), some (.inl s1.1), none, none, none] [] s1.2 (none, r)) r6 (fun s1 z8 HF H12 H23 => ?_) _ _ hl7
  refine q_br (P := (60 : Int32) ≤ s1.1) (pcT := 60) (pcF := 13) (loc' := [some (.inr (.inr (30, 7, 0))), some (.inl s1.1), none, none, none]) (stk' := []) (h' := s1.2) 3 (fun _ _ => rfl) (fun c22 => ?_) (fun c22 => ?_)
  · rw [if_pos c22] at HF
    have hz := Option.some.inj HF
    subst hz
    rw [← H23 _ rfl] at HK4
    exact q_wk (loc := [some (.inr (.inr (30, 7, 0))), none, none, none, none]) ⟨Or.inl rfl, ⟨Or.inr ⟨rfl, fun _ h => by cases h⟩, ⟨Or.inl rfl, ⟨Or.inl rfl, ⟨Or.inl rfl, trivial⟩⟩⟩⟩⟩ (hP5 (s1.2) HK4)
  · rw [if_neg c22] at HF
    obtain ⟨x9, hx10, HF⟩ := q_bind HF
    refine q_cll (m' := 190) (av := [.inr (.inr (30, 7, 0)), .inl s1.1]) (st' := []) (pc' := 18) (loc' := [some (.inr (.inr (30, 7, 0))), some (.inl s1.1), none, none, none]) (h' := s1.2) 3 (fun _ _ => rfl) (eMo_isSlot (by omega) hx10) ?_
    obtain ⟨z11, HA12, HK13⟩ := q_bind HF
    have hP14 : ∀ p20 : q_H, (some (.inl ((s1.1 + (1 : Int32)), p20)) : Option ((Int32 × q_H) ⊕ (q_H))) = some z8 → q_E d q_K221 54 [some (.inr (.inr (30, 7, 0))), some (.inl s1.1), none, none, none] [] p20 (none, r) := by
      intro p20 HF
      refine q_blk (pc' := 7) (loc' := [some (.inr (.inr (30, 7, 0))), some (.inl (s1.1 + (1 : Int32))), none, none, none]) (stk' := []) (h' := p20) 2 (fun _ _ => rfl) ?_
      have hz := Option.some.inj HF
      subst hz
      exact H12 ((s1.1 + (1 : Int32)), p20) rfl
    replace HF := HA12
    refine q_br (P := x9 = 0) (pcT := 54) (pcF := 21) (loc' := [some (.inr (.inr (30, 7, 0))), some (.inl s1.1), none, none, none]) (stk' := []) (h' := s1.2) 1 (fun _ _ => rfl) (fun c19 => ?_) (fun c19 => ?_)
    · rw [if_pos c19] at HF
      have hz := Option.some.inj HF
      subst hz
      exact hP14 (s1.2) HK13
    · rw [if_neg c19] at HF
      obtain ⟨x15, hx16, HF⟩ := q_bind HF
      refine q_cll (m' := 187) (av := [.inr (.inr (30, 7, 0)), .inl s1.1, .inl (0 : Int32)]) (st' := []) (pc' := 27) (loc' := [some (.inr (.inr (30, 7, 0))), some (.inl s1.1), none, none, none]) (h' := s1.2) 4 (fun _ _ => rfl) (eMo_of (by omega) hx16) ?_
      refine q_br (P := x15 = (3 : Int32)) (pcT := 34) (pcF := 31) (loc' := [some (.inr (.inr (30, 7, 0))), some (.inl s1.1), none, none, none]) (stk' := []) (h' := s1.2) 2 (fun _ _ => rfl) (fun c18 => ?_) (fun c18 => ?_)
      · rw [if_pos c18] at HF
        obtain ⟨g17, HF⟩ := q_gF HF
        refine q_gd (pc' := 44) (loc' := [some (.inr (.inr (30, 7, 0))), some (.inl s1.1), none, none, none]) (stk' := []) (h' := (q_si s1.2 36 0 7 (s1.2.1 30 9 7 0).toNatClampNeg s1.1)) 6 (fun _ _ => rfl) g17 ?_
        refine q_blk (pc' := 54) (loc' := [some (.inr (.inr (30, 7, 0))), some (.inl s1.1), none, none, none]) (stk' := []) (h' := (q_si (q_si s1.2 36 0 7 (s1.2.1 30 9 7 0).toNatClampNeg s1.1) 30 9 7 0 (((q_si s1.2 36 0 7 (s1.2.1 30 9 7 0).toNatClampNeg s1.1).1 30 9 7 0) + (1 : Int32)))) 6 (fun _ _ => rfl) ?_
        have hz := Option.some.inj HF
        subst hz
        exact hP14 (q_si (q_si s1.2 36 0 7 (s1.2.1 30 9 7 0).toNatClampNeg s1.1) 30 9 7 0 (((q_si s1.2 36 0 7 (s1.2.1 30 9 7 0).toNatClampNeg s1.1).1 30 9 7 0) + (1 : Int32))) HK13
      · rw [if_neg c18] at HF
        refine q_blk (pc' := 54) (loc' := [some (.inr (.inr (30, 7, 0))), some (.inl s1.1), none, none, none]) (stk' := []) (h' := s1.2) 1 (fun _ _ => rfl) ?_
        have hz := Option.some.inj HF
        subst hz
        exact hP14 (s1.2) HK13
def Mo_freezes (a1 : Int32) (h : q_H) : Option q_H :=
  (q_lp (fun s1 : Int32 × q_H => (if (60 : Int32) ≤ s1.1 then (some (.inr (s1.2))) else ((Mo_isVersion s1.1 s1.2).bind fun x9 => Option.bind (α := q_H) (if x9 = 0 then (some (s1.2)) else ((Mo_of s1.1 (11 : Int32) s1.2).bind fun x15 => if x15 = (1 : Int32) then (some (s1.2)) else ((Mo_of s1.1 (6 : Int32) s1.2).bind fun x17 => (Mo_stateOf x17 s1.2).bind fun x19 => if ¬ x19 = (1 : Int32) then (some (s1.2)) else ((Mo_of s1.1 (6 : Int32) s1.2).bind fun x21 => if (s1.2.1 31 0 7 2) < (a1 - x21) then ((Mo_sets s1.1 (11 : Int32) (1 : Int32) s1.2).bind fun x23 => (Mo_of s1.1 (2 : Int32) (q_si x23 31 0 7 14 ((x23.1 31 0 7 14) + (1 : Int32)))).bind fun x25 => (Mo_tellsOf (5 : Int32) x25 (q_si x23 31 0 7 14 ((x23.1 31 0 7 14) + (1 : Int32)))).bind fun x27 => some (x27)) else (some (s1.2)))))) (fun p33 => some (.inl ((s1.1 + (1 : Int32)), p33)))) : Option ((Int32 × q_H) ⊕ q_H))) q_fu (((0 : Int32), h) : Int32 × q_H)).bind fun z8 => some z8
set_option maxRecDepth 100000 in
set_option maxHeartbeats 4000000 in
theorem eMo_freezes {d : Nat} (hd : 4 ≤ d) {a1 : Int32} {h : q_H} {r : q_H} (HF : Mo_freezes a1 h = some r) : q_T d 222 [.inr (.inr (30, 7, 0)), .inl a1] h (none, r) := by
  obtain ⟨d, rfl⟩ : ∃ d', d = d' + 1 := ⟨d - 1, by omega⟩
  refine q_ent q_K222 rfl rfl rfl ?_
  unfold Mo_freezes at HF
  refine q_blk (pc' := 2) (loc' := [some (.inr (.inr (30, 7, 0))), some (.inl a1), some (.inl (0 : Int32))]) (stk' := []) (h' := h) 2 (fun _ _ => rfl) ?_
  obtain ⟨r6, hl7, HK4⟩ := q_bind HF
  refine q_lpE (E := fun s1 => q_E d q_K222 2 [some (.inr (.inr (30, 7, 0))), some (.inl a1), some (.inl s1.1)] [] s1.2 (none, r)) r6 (fun s1 z8 HF H12 H23 => ?_) _ _ hl7
  refine q_br (P := (60 : Int32) ≤ s1.1) (pcT := 99) (pcF := 8) (loc' := [some (.inr (.inr (30, 7, 0))), some (.inl a1), some (.inl s1.1)]) (stk' := []) (h' := s1.2) 3 (fun _ _ => rfl) (fun c35 => ?_) (fun c35 => ?_)
  · rw [if_pos c35] at HF
    have hz := Option.some.inj HF
    subst hz
    replace HF := HK4
    rw [← H23 _ rfl] at HF
    have hz := Option.some.inj HF
    subst hz
    exact q_rtn 1 (fun _ _ => rfl)
  · rw [if_neg c35] at HF
    obtain ⟨x9, hx10, HF⟩ := q_bind HF
    refine q_cll (m' := 191) (av := [.inr (.inr (30, 7, 0)), .inl s1.1]) (st' := []) (pc' := 13) (loc' := [some (.inr (.inr (30, 7, 0))), some (.inl a1), some (.inl s1.1)]) (h' := s1.2) 3 (fun _ _ => rfl) (eMo_isVersion (by omega) hx10) ?_
    obtain ⟨z11, HA12, HK13⟩ := q_bind HF
    have hP14 : ∀ p33 : q_H, (some (.inl ((s1.1 + (1 : Int32)), p33)) : Option ((Int32 × q_H) ⊕ q_H)) = some z8 → q_E d q_K222 93 [some (.inr (.inr (30, 7, 0))), some (.inl a1), some (.inl s1.1)] [] p33 (none, r) := by
      intro p33 HF
      refine q_blk (pc' := 2) (loc' := [some (.inr (.inr (30, 7, 0))), some (.inl a1), some (.inl (s1.1 + (1 : Int32)))]) (stk' := []) (h' := p33) 2 (fun _ _ => rfl) ?_
      have hz := Option.some.inj HF
      subst hz
      exact H12 ((s1.1 + (1 : Int32)), p33) rfl
    replace HF := HA12
    refine q_br (P := x9 = 0) (pcT := 93) (pcF := 16) (loc' := [some (.inr (.inr (30, 7, 0))), some (.inl a1), some (.inl s1.1)]) (stk' := []) (h' := s1.2) 1 (fun _ _ => rfl) (fun c32 => ?_) (fun c32 => ?_)
    · rw [if_pos c32] at HF
      have hz := Option.some.inj HF
      subst hz
      exact hP14 (s1.2) HK13
    · rw [if_neg c32] at HF
      obtain ⟨x15, hx16, HF⟩ := q_bind HF
      refine q_cll (m' := 187) (av := [.inr (.inr (30, 7, 0)), .inl s1.1, .inl (11 : Int32)]) (st' := []) (pc' := 23) (loc' := [some (.inr (.inr (30, 7, 0))), some (.inl a1), some (.inl s1.1)]) (h' := s1.2) 4 (fun _ _ => rfl) (eMo_of (by omega) hx16) ?_
      refine q_br (P := x15 = (1 : Int32)) (pcT := 93) (pcF := 27) (loc' := [some (.inr (.inr (30, 7, 0))), some (.inl a1), some (.inl s1.1)]) (stk' := []) (h' := s1.2) 2 (fun _ _ => rfl) (fun c31 => ?_) (fun c31 => ?_)
      · rw [if_pos c31] at HF
        have hz := Option.some.inj HF
        subst hz
        exact hP14 (s1.2) HK13
      · rw [if_neg c31] at HF
        obtain ⟨x17, hx18, HF⟩ := q_bind HF
        refine q_cll (m' := 187) (av := [.inr (.inr (30, 7, 0)), .inl s1.1, .inl (6 : Int32)]) (st' := [.inr (.inr (30, 7, 0))]) (pc' := 35) (loc' := [some (.inr (.inr (30, 7, 0))), some (.inl a1), some (.inl s1.1)]) (h' := s1.2) 5 (fun _ _ => rfl) (eMo_of (by omega) hx18) ?_
        obtain ⟨x19, hx20, HF⟩ := q_bind HF
        refine q_cll (m' := 196) (av := [.inr (.inr (30, 7, 0)), .inl x17]) (st' := []) (pc' := 38) (loc' := [some (.inr (.inr (30, 7, 0))), some (.inl a1), some (.inl s1.1)]) (h' := s1.2) 1 (fun _ _ => rfl) (eMo_stateOf (by omega) hx20) ?_
        refine q_br (P := ¬ x19 = (1 : Int32)) (pcT := 93) (pcF := 42) (loc' := [some (.inr (.inr (30, 7, 0))), some (.inl a1), some (.inl s1.1)]) (stk' := []) (h' := s1.2) 2 (fun _ _ => rfl) (fun c30 => ?_) (fun c30 => ?_)
        · rw [if_pos c30] at HF
          have hz := Option.some.inj HF
          subst hz
          exact hP14 (s1.2) HK13
        · rw [if_neg c30] at HF
          obtain ⟨x21, hx22, HF⟩ := q_bind HF
          refine q_cll (m' := 187) (av := [.inr (.inr (30, 7, 0)), .inl s1.1, .inl (6 : Int32)]) (st' := [.inl a1]) (pc' := 50) (loc' := [some (.inr (.inr (30, 7, 0))), some (.inl a1), some (.inl s1.1)]) (h' := s1.2) 5 (fun _ _ => rfl) (eMo_of (by omega) hx22) ?_
          refine q_br (P := (s1.2.1 31 0 7 2) < (a1 - x21)) (pcT := 63) (pcF := 60) (loc' := [some (.inr (.inr (30, 7, 0))), some (.inl a1), some (.inl s1.1)]) (stk' := []) (h' := s1.2) 6 (fun _ _ => rfl) (fun c29 => ?_) (fun c29 => ?_)
          · rw [if_pos c29] at HF
            obtain ⟨x23, hx24, HF⟩ := q_bind HF
            refine q_cll (m' := 188) (av := [.inr (.inr (30, 7, 0)), .inl s1.1, .inl (11 : Int32), .inl (1 : Int32)]) (st' := []) (pc' := 71) (loc' := [some (.inr (.inr (30, 7, 0))), some (.inl a1), some (.inl s1.1)]) (h' := s1.2) 5 (fun _ _ => rfl) (eMo_sets (by omega) hx24) ?_
            obtain ⟨x25, hx26, HF⟩ := q_bind HF
            refine q_cll (m' := 187) (av := [.inr (.inr (30, 7, 0)), .inl s1.1, .inl (2 : Int32)]) (st' := [.inl (5 : Int32), .inr (.inr (30, 7, 0))]) (pc' := 90) (loc' := [some (.inr (.inr (30, 7, 0))), some (.inl a1), some (.inl s1.1)]) (h' := (q_si x23 31 0 7 14 ((x23.1 31 0 7 14) + (1 : Int32)))) 14 (fun _ _ => rfl) (eMo_of (by omega) hx26) ?_
            obtain ⟨x27, hx28, HF⟩ := q_bind HF
            refine q_cll (m' := 212) (av := [.inr (.inr (30, 7, 0)), .inl (5 : Int32), .inl x25]) (st' := []) (pc' := 93) (loc' := [some (.inr (.inr (30, 7, 0))), some (.inl a1), some (.inl s1.1)]) (h' := (q_si x23 31 0 7 14 ((x23.1 31 0 7 14) + (1 : Int32)))) 1 (fun _ _ => rfl) (eMo_tellsOf (by omega) hx28) ?_
            have hz := Option.some.inj HF
            subst hz
            exact hP14 (x27) HK13
          · rw [if_neg c29] at HF
            refine q_blk (pc' := 93) (loc' := [some (.inr (.inr (30, 7, 0))), some (.inl a1), some (.inl s1.1)]) (stk' := []) (h' := s1.2) 1 (fun _ _ => rfl) ?_
            have hz := Option.some.inj HF
            subst hz
            exact hP14 (s1.2) HK13
def Mo_seenOf (a1 : Int32) (a2 : Int32) (h : q_H) : Option Int32 :=
  (q_lp (fun s1 : Int32 => (if (60 : Int32) ≤ s1 then (some (.inr ((-1 : Int32)))) else ((Mo_isVersion s1 h).bind fun x9 => Option.bind (α := (Unit) ⊕ ((Int32) ⊕ Int32)) (if x9 = 0 then (some (.inl ())) else ((Mo_of s1 (2 : Int32) h).bind fun x15 => if ¬ x15 = a2 then (some (.inl ())) else ((Mo_isSeen a1 s1 h).bind fun x17 => if x17 = 0 then (some (.inl ())) else (some (.inr (.inr (s1))))))) (fun z11 => match z11 with | .inl p22 => some (.inl (s1 + (1 : Int32))) | .inr z11 => some z11)) : Option ((Int32) ⊕ Int32))) q_fu ((0 : Int32) : Int32)).bind fun z8 => some z8
set_option maxRecDepth 100000 in
set_option maxHeartbeats 4000000 in
theorem eMo_seenOf {d : Nat} (hd : 4 ≤ d) {a1 : Int32} {a2 : Int32} {h : q_H} {r : Int32} (HF : Mo_seenOf a1 a2 h = some r) : q_T d 225 [.inr (.inr (30, 7, 0)), .inl a1, .inl a2] h (some (.inl r), h) := by
  obtain ⟨d, rfl⟩ : ∃ d', d = d' + 1 := ⟨d - 1, by omega⟩
  refine q_ent q_K225 rfl rfl rfl ?_
  unfold Mo_seenOf at HF
  refine q_blk (pc' := 2) (loc' := [some (.inr (.inr (30, 7, 0))), some (.inl a1), some (.inl a2), some (.inl (0 : Int32))]) (stk' := []) (h' := h) 2 (fun _ _ => rfl) ?_
  obtain ⟨r6, hl7, HK4⟩ := q_bind HF
  refine q_lpE (E := fun s1 => q_E d q_K225 2 [some (.inr (.inr (30, 7, 0))), some (.inl a1), some (.inl a2), some (.inl s1)] [] h (some (.inl r), h)) r6 (fun s1 z8 HF H12 H23 => ?_) _ _ hl7
  refine q_br (P := (60 : Int32) ≤ s1) (pcT := 43) (pcF := 8) (loc' := [some (.inr (.inr (30, 7, 0))), some (.inl a1), some (.inl a2), some (.inl s1)]) (stk' := []) (h' := h) 3 (fun _ _ => rfl) (fun c24 => ?_) (fun c24 => ?_)
  · rw [if_pos c24] at HF
    have hz := Option.some.inj HF
    subst hz
    replace HF := HK4
    rw [← H23 _ rfl] at HF
    have hz := Option.some.inj HF
    subst hz
    exact q_rtn 2 (fun _ _ => rfl)
  · rw [if_neg c24] at HF
    obtain ⟨x9, hx10, HF⟩ := q_bind HF
    refine q_cll (m' := 191) (av := [.inr (.inr (30, 7, 0)), .inl s1]) (st' := []) (pc' := 13) (loc' := [some (.inr (.inr (30, 7, 0))), some (.inl a1), some (.inl a2), some (.inl s1)]) (h' := h) 3 (fun _ _ => rfl) (eMo_isVersion (by omega) hx10) ?_
    obtain ⟨z11, HA12, HK13⟩ := q_bind HF
    have hP14 : ∀ p22 : Unit, (some (.inl (s1 + (1 : Int32))) : Option ((Int32) ⊕ Int32)) = some z8 → q_E d q_K225 37 [some (.inr (.inr (30, 7, 0))), some (.inl a1), some (.inl a2), some (.inl s1)] [] h (some (.inl r), h) := by
      intro p22 HF
      refine q_blk (pc' := 2) (loc' := [some (.inr (.inr (30, 7, 0))), some (.inl a1), some (.inl a2), some (.inl (s1 + (1 : Int32)))]) (stk' := []) (h' := h) 2 (fun _ _ => rfl) ?_
      have hz := Option.some.inj HF
      subst hz
      exact H12 (s1 + (1 : Int32)) rfl
    replace HF := HA12
    refine q_br (P := x9 = 0) (pcT := 37) (pcF := 16) (loc' := [some (.inr (.inr (30, 7, 0))), some (.inl a1), some (.inl a2), some (.inl s1)]) (stk' := []) (h' := h) 1 (fun _ _ => rfl) (fun c21 => ?_) (fun c21 => ?_)
    · rw [if_pos c21] at HF
      have hz := Option.some.inj HF
      subst hz
      exact hP14 () HK13
    · rw [if_neg c21] at HF
      obtain ⟨x15, hx16, HF⟩ := q_bind HF
      refine q_cll (m' := 187) (av := [.inr (.inr (30, 7, 0)), .inl s1, .inl (2 : Int32)]) (st' := []) (pc' := 22) (loc' := [some (.inr (.inr (30, 7, 0))), some (.inl a1), some (.inl a2), some (.inl s1)]) (h' := h) 4 (fun _ _ => rfl) (eMo_of (by omega) hx16) ?_
      refine q_br (P := ¬ x15 = a2) (pcT := 37) (pcF := 26) (loc' := [some (.inr (.inr (30, 7, 0))), some (.inl a1), some (.inl a2), some (.inl s1)]) (stk' := []) (h' := h) 2 (fun _ _ => rfl) (fun c20 => ?_) (fun c20 => ?_)
      · rw [if_pos c20] at HF
        have hz := Option.some.inj HF
        subst hz
        exact hP14 () HK13
      · rw [if_neg c20] at HF
        obtain ⟨x17, hx18, HF⟩ := q_bind HF
        refine q_cll (m' := 202) (av := [.inr (.inr (30, 7, 0)), .inl a1, .inl s1]) (st' := []) (pc' := 32) (loc' := [some (.inr (.inr (30, 7, 0))), some (.inl a1), some (.inl a2), some (.inl s1)]) (h' := h) 4 (fun _ _ => rfl) (eMo_isSeen (by omega) hx18) ?_
        refine q_br (P := x17 = 0) (pcT := 37) (pcF := 35) (loc' := [some (.inr (.inr (30, 7, 0))), some (.inl a1), some (.inl a2), some (.inl s1)]) (stk' := []) (h' := h) 1 (fun _ _ => rfl) (fun c19 => ?_) (fun c19 => ?_)
        · rw [if_pos c19] at HF
          have hz := Option.some.inj HF
          subst hz
          exact hP14 () HK13
        · rw [if_neg c19] at HF
          have hz := Option.some.inj HF
          subst hz
          replace HF := HK13
          have hz := Option.some.inj HF
          subst hz
          replace HF := HK4
          rw [← H23 _ rfl] at HF
          have hz := Option.some.inj HF
          subst hz
          exact q_rtn 2 (fun _ _ => rfl)
def Mo_versionsOf (a1 : Int32) (h : q_H) : Option Int32 :=
  (q_lp (fun s1 : Int32 × Int32 => (if (60 : Int32) ≤ s1.2 then (some (.inr (s1.1))) else ((Mo_isVersion s1.2 h).bind fun x9 => Option.bind (α := Int32) (if x9 = 0 then (some ((0 : Int32))) else ((Mo_of s1.2 (2 : Int32) h).bind fun x15 => if ¬ x15 = a1 then (some ((0 : Int32))) else (some ((1 : Int32))))) (fun p19 => some (.inl ((s1.1 + p19), (s1.2 + (1 : Int32)))))) : Option ((Int32 × Int32) ⊕ Int32))) q_fu (((0 : Int32), (0 : Int32)) : Int32 × Int32)).bind fun z8 => some z8
set_option maxRecDepth 100000 in
set_option maxHeartbeats 4000000 in
theorem eMo_versionsOf {d : Nat} (hd : 4 ≤ d) {a1 : Int32} {h : q_H} {r : Int32} (HF : Mo_versionsOf a1 h = some r) : q_T d 234 [.inr (.inr (30, 7, 0)), .inl a1] h (some (.inl r), h) := by
  obtain ⟨d, rfl⟩ : ∃ d', d = d' + 1 := ⟨d - 1, by omega⟩
  refine q_ent q_K234 rfl rfl rfl ?_
  unfold Mo_versionsOf at HF
  refine q_blk (pc' := 4) (loc' := [some (.inr (.inr (30, 7, 0))), some (.inl a1), some (.inl (0 : Int32)), some (.inl (0 : Int32))]) (stk' := []) (h' := h) 4 (fun _ _ => rfl) ?_
  obtain ⟨r6, hl7, HK4⟩ := q_bind HF
  refine q_lpE (E := fun s1 => q_E d q_K234 4 [some (.inr (.inr (30, 7, 0))), some (.inl a1), some (.inl s1.1), some (.inl s1.2)] [] h (some (.inl r), h)) r6 (fun s1 z8 HF H12 H23 => ?_) _ _ hl7
  refine q_br (P := (60 : Int32) ≤ s1.2) (pcT := 42) (pcF := 10) (loc' := [some (.inr (.inr (30, 7, 0))), some (.inl a1), some (.inl s1.1), some (.inl s1.2)]) (stk' := []) (h' := h) 3 (fun _ _ => rfl) (fun c21 => ?_) (fun c21 => ?_)
  · rw [if_pos c21] at HF
    have hz := Option.some.inj HF
    subst hz
    replace HF := HK4
    rw [← H23 _ rfl] at HF
    have hz := Option.some.inj HF
    subst hz
    exact q_rtn 2 (fun _ _ => rfl)
  · rw [if_neg c21] at HF
    obtain ⟨x9, hx10, HF⟩ := q_bind HF
    refine q_cll (m' := 191) (av := [.inr (.inr (30, 7, 0)), .inl s1.2]) (st' := [.inl s1.1]) (pc' := 16) (loc' := [some (.inr (.inr (30, 7, 0))), some (.inl a1), some (.inl s1.1), some (.inl s1.2)]) (h' := h) 4 (fun _ _ => rfl) (eMo_isVersion (by omega) hx10) ?_
    obtain ⟨z11, HA12, HK13⟩ := q_bind HF
    have hP14 : ∀ p19 : Int32, (some (.inl ((s1.1 + p19), (s1.2 + (1 : Int32)))) : Option ((Int32 × Int32) ⊕ Int32)) = some z8 → q_E d q_K234 34 [some (.inr (.inr (30, 7, 0))), some (.inl a1), some (.inl s1.1), some (.inl s1.2)] [.inl p19, .inl s1.1] h (some (.inl r), h) := by
      intro p19 HF
      refine q_blk (pc' := 4) (loc' := [some (.inr (.inr (30, 7, 0))), some (.inl a1), some (.inl (s1.1 + p19)), some (.inl (s1.2 + (1 : Int32)))]) (stk' := []) (h' := h) 4 (fun _ _ => rfl) ?_
      have hz := Option.some.inj HF
      subst hz
      exact H12 ((s1.1 + p19), (s1.2 + (1 : Int32))) rfl
    replace HF := HA12
    refine q_br (P := x9 = 0) (pcT := 33) (pcF := 19) (loc' := [some (.inr (.inr (30, 7, 0))), some (.inl a1), some (.inl s1.1), some (.inl s1.2)]) (stk' := [.inl s1.1]) (h' := h) 1 (fun _ _ => rfl) (fun c18 => ?_) (fun c18 => ?_)
    · rw [if_pos c18] at HF
      refine q_blk (pc' := 34) (loc' := [some (.inr (.inr (30, 7, 0))), some (.inl a1), some (.inl s1.1), some (.inl s1.2)]) (stk' := [.inl (0 : Int32), .inl s1.1]) (h' := h) 1 (fun _ _ => rfl) ?_
      have hz := Option.some.inj HF
      subst hz
      exact hP14 (0 : Int32) HK13
    · rw [if_neg c18] at HF
      obtain ⟨x15, hx16, HF⟩ := q_bind HF
      refine q_cll (m' := 187) (av := [.inr (.inr (30, 7, 0)), .inl s1.2, .inl (2 : Int32)]) (st' := [.inl s1.1]) (pc' := 25) (loc' := [some (.inr (.inr (30, 7, 0))), some (.inl a1), some (.inl s1.1), some (.inl s1.2)]) (h' := h) 4 (fun _ _ => rfl) (eMo_of (by omega) hx16) ?_
      refine q_br (P := ¬ x15 = a1) (pcT := 33) (pcF := 29) (loc' := [some (.inr (.inr (30, 7, 0))), some (.inl a1), some (.inl s1.1), some (.inl s1.2)]) (stk' := [.inl s1.1]) (h' := h) 2 (fun _ _ => rfl) (fun c17 => ?_) (fun c17 => ?_)
      · rw [if_pos c17] at HF
        refine q_blk (pc' := 34) (loc' := [some (.inr (.inr (30, 7, 0))), some (.inl a1), some (.inl s1.1), some (.inl s1.2)]) (stk' := [.inl (0 : Int32), .inl s1.1]) (h' := h) 1 (fun _ _ => rfl) ?_
        have hz := Option.some.inj HF
        subst hz
        exact hP14 (0 : Int32) HK13
      · rw [if_neg c17] at HF
        refine q_blk (pc' := 34) (loc' := [some (.inr (.inr (30, 7, 0))), some (.inl a1), some (.inl s1.1), some (.inl s1.2)]) (stk' := [.inl (1 : Int32), .inl s1.1]) (h' := h) 2 (fun _ _ => rfl) ?_
        have hz := Option.some.inj HF
        subst hz
        exact hP14 (1 : Int32) HK13
def Mo_staying  (h : q_H) : Option (Int32 × q_H) :=
  (q_lp (fun s1 : Int32 × Int32 × q_H => (if (60 : Int32) ≤ s1.2.1 then (some (.inr ((s1.1, s1.2.2)))) else ((Mo_isVersion s1.2.1 s1.2.2).bind fun x9 => if x9 = 0 then (some (.inl (s1.1, (s1.2.1 + (1 : Int32)), s1.2.2))) else ((Mo_lives s1.2.1 s1.2.2).bind fun x11 => if ¬ x11 = 0 then ((q_lp (fun s13 : Int32 × q_H => (if s13.1 ≤ 0 then (some (.inr ((s13.1, s13.2)))) else (bif q_in (s13.1 - (1 : Int32)) 60 then ((Mo_isAhead s1.2.1 (s13.2.1 37 0 7 (s13.1 - (1 : Int32)).toNatClampNeg) s13.2).bind fun x21 => if x21 = 0 then (some (.inr ((s13.1, s13.2)))) else (bif q_in (s13.1 - (1 : Int32)) 60 then (bif q_in s13.1 60 then (some (.inl ((s13.1 + (-1 : Int32)), (q_si s13.2 37 0 7 s13.1.toNatClampNeg (s13.2.1 37 0 7 (s13.1 - (1 : Int32)).toNatClampNeg))))) else none) else none)) else none) : Option ((Int32 × q_H) ⊕ (Int32 × q_H)))) q_fu ((s1.1, s1.2.2) : Int32 × q_H)).bind fun p28 => bif q_in p28.1 60 then (some (.inl ((s1.1 + (1 : Int32)), (s1.2.1 + (1 : Int32)), (q_si p28.2 37 0 7 p28.1.toNatClampNeg s1.2.1)))) else none) else (some (.inl (s1.1, (s1.2.1 + (1 : Int32)), s1.2.2))))) : Option ((Int32 × Int32 × q_H) ⊕ (Int32 × q_H)))) q_fu (((0 : Int32), (0 : Int32), h) : Int32 × Int32 × q_H)).bind fun z8 => some z8
set_option maxRecDepth 100000 in
set_option maxHeartbeats 4000000 in
theorem eMo_staying {d : Nat} (hd : 4 ≤ d)  {h : q_H} {r : (Int32 × q_H)} (HF : Mo_staying  h = some r) : q_T d 247 [.inr (.inr (30, 7, 0))] h (some (.inl r.1), r.2) := by
  obtain ⟨d, rfl⟩ : ∃ d', d = d' + 1 := ⟨d - 1, by omega⟩
  refine q_ent q_K247 rfl rfl rfl ?_
  unfold Mo_staying at HF
  refine q_blk (pc' := 4) (loc' := [some (.inr (.inr (30, 7, 0))), some (.inl (0 : Int32)), some (.inl (0 : Int32)), none]) (stk' := []) (h' := h) 4 (fun _ _ => rfl) ?_
  obtain ⟨r6, hl7, HK4⟩ := q_bind HF
  refine q_lpE (E := fun s1 => q_E d q_K247 4 [some (.inr (.inr (30, 7, 0))), some (.inl s1.1), some (.inl s1.2.1), none] [] s1.2.2 (some (.inl r.1), r.2)) r6 (fun s1 z8 HF H12 H23 => ?_) _ _ hl7
  refine q_br (P := (60 : Int32) ≤ s1.2.1) (pcT := 87) (pcF := 10) (loc' := [some (.inr (.inr (30, 7, 0))), some (.inl s1.1), some (.inl s1.2.1), none]) (stk' := []) (h' := s1.2.2) 3 (fun _ _ => rfl) (fun c32 => ?_) (fun c32 => ?_)
  · rw [if_pos c32] at HF
    have hz := Option.some.inj HF
    subst hz
    replace HF := HK4
    rw [← H23 _ rfl] at HF
    have hz := Option.some.inj HF
    subst hz
    exact q_rtn 2 (fun _ _ => rfl)
  · rw [if_neg c32] at HF
    obtain ⟨x9, hx10, HF⟩ := q_bind HF
    refine q_cll (m' := 191) (av := [.inr (.inr (30, 7, 0)), .inl s1.2.1]) (st' := []) (pc' := 15) (loc' := [some (.inr (.inr (30, 7, 0))), some (.inl s1.1), some (.inl s1.2.1), none]) (h' := s1.2.2) 3 (fun _ _ => rfl) (eMo_isVersion (by omega) hx10) ?_
    refine q_br (P := x9 = 0) (pcT := 81) (pcF := 18) (loc' := [some (.inr (.inr (30, 7, 0))), some (.inl s1.1), some (.inl s1.2.1), none]) (stk' := []) (h' := s1.2.2) 1 (fun _ _ => rfl) (fun c31 => ?_) (fun c31 => ?_)
    · rw [if_pos c31] at HF
      refine q_blk (pc' := 4) (loc' := [some (.inr (.inr (30, 7, 0))), some (.inl s1.1), some (.inl (s1.2.1 + (1 : Int32))), none]) (stk' := []) (h' := s1.2.2) 2 (fun _ _ => rfl) ?_
      have hz := Option.some.inj HF
      subst hz
      exact H12 (s1.1, (s1.2.1 + (1 : Int32)), s1.2.2) rfl
    · rw [if_neg c31] at HF
      obtain ⟨x11, hx12, HF⟩ := q_bind HF
      refine q_cll (m' := 244) (av := [.inr (.inr (30, 7, 0)), .inl s1.2.1]) (st' := []) (pc' := 23) (loc' := [some (.inr (.inr (30, 7, 0))), some (.inl s1.1), some (.inl s1.2.1), none]) (h' := s1.2.2) 3 (fun _ _ => rfl) (eMo_lives (by omega) hx12) ?_
      refine q_br (P := ¬ x11 = 0) (pcT := 29) (pcF := 26) (loc' := [some (.inr (.inr (30, 7, 0))), some (.inl s1.1), some (.inl s1.2.1), none]) (stk' := []) (h' := s1.2.2) 1 (fun _ _ => rfl) (fun c30 => ?_) (fun c30 => ?_)
      · rw [if_pos c30] at HF
        refine q_blk (pc' := 31) (loc' := [some (.inr (.inr (30, 7, 0))), some (.inl s1.1), some (.inl s1.2.1), some (.inl s1.1)]) (stk' := []) (h' := s1.2.2) 2 (fun _ _ => rfl) ?_
        obtain ⟨r18, hl19, HK16⟩ := q_bind HF
        have hP17 : ∀ p28 : Int32 × q_H, (bif q_in p28.1 60 then (some (.inl ((s1.1 + (1 : Int32)), (s1.2.1 + (1 : Int32)), (q_si p28.2 37 0 7 p28.1.toNatClampNeg s1.2.1)))) else none : Option ((Int32 × Int32 × q_H) ⊕ (Int32 × q_H))) = some z8 → q_E d q_K247 71 [some (.inr (.inr (30, 7, 0))), some (.inl s1.1), some (.inl s1.2.1), some (.inl p28.1)] [] p28.2 (some (.inl r.1), r.2) := by
          intro p28 HF
          obtain ⟨g29, HF⟩ := q_gF HF
          refine q_gd (pc' := 78) (loc' := [some (.inr (.inr (30, 7, 0))), some (.inl s1.1), some (.inl s1.2.1), some (.inl p28.1)]) (stk' := []) (h' := (q_si p28.2 37 0 7 p28.1.toNatClampNeg s1.2.1)) 5 (fun _ _ => rfl) g29 ?_
          refine q_blk (pc' := 4) (loc' := [some (.inr (.inr (30, 7, 0))), some (.inl (s1.1 + (1 : Int32))), some (.inl (s1.2.1 + (1 : Int32))), some (.inl p28.1)]) (stk' := []) (h' := (q_si p28.2 37 0 7 p28.1.toNatClampNeg s1.2.1)) 3 (fun _ _ => rfl) ?_
          have hz := Option.some.inj HF
          subst hz
          exact q_wk (loc := [some (.inr (.inr (30, 7, 0))), some (.inl (s1.1 + (1 : Int32))), some (.inl (s1.2.1 + (1 : Int32))), none]) ⟨Or.inl rfl, ⟨Or.inl rfl, ⟨Or.inl rfl, ⟨Or.inr ⟨rfl, fun _ h => by cases h⟩, trivial⟩⟩⟩⟩ (H12 ((s1.1 + (1 : Int32)), (s1.2.1 + (1 : Int32)), (q_si p28.2 37 0 7 p28.1.toNatClampNeg s1.2.1)) rfl)
        refine q_lpE (E := fun s13 => q_E d q_K247 31 [some (.inr (.inr (30, 7, 0))), some (.inl s1.1), some (.inl s1.2.1), some (.inl s13.1)] [] s13.2 (some (.inl r.1), r.2)) r18 (fun s13 z20 HF H114 H215 => ?_) _ _ hl19
        refine q_br (P := s13.1 ≤ 0) (pcT := 71) (pcF := 35) (loc' := [some (.inr (.inr (30, 7, 0))), some (.inl s1.1), some (.inl s1.2.1), some (.inl s13.1)]) (stk' := []) (h' := s13.2) 2 (fun _ _ => rfl) (fun c27 => ?_) (fun c27 => ?_)
        · rw [if_pos c27] at HF
          have hz := Option.some.inj HF
          subst hz
          rw [← H215 _ rfl] at HK16
          exact hP17 (s13.1, s13.2) HK16
        · rw [if_neg c27] at HF
          obtain ⟨g26, HF⟩ := q_gF HF
          refine q_gd (pc' := 45) (loc' := [some (.inr (.inr (30, 7, 0))), some (.inl s1.1), some (.inl s1.2.1), some (.inl s13.1)]) (stk' := [.inl (s13.2.1 37 0 7 (s13.1 - (1 : Int32)).toNatClampNeg), .inl s1.2.1, .inr (.inr (30, 7, 0))]) (h' := s13.2) 8 (fun _ _ => rfl) g26 ?_
          obtain ⟨x21, hx22, HF⟩ := q_bind HF
          refine q_cll (m' := 246) (av := [.inr (.inr (30, 7, 0)), .inl s1.2.1, .inl (s13.2.1 37 0 7 (s13.1 - (1 : Int32)).toNatClampNeg)]) (st' := []) (pc' := 48) (loc' := [some (.inr (.inr (30, 7, 0))), some (.inl s1.1), some (.inl s1.2.1), some (.inl s13.1)]) (h' := s13.2) 1 (fun _ _ => rfl) (eMo_isAhead (by omega) hx22) ?_
          refine q_br (P := x21 = 0) (pcT := 71) (pcF := 51) (loc' := [some (.inr (.inr (30, 7, 0))), some (.inl s1.1), some (.inl s1.2.1), some (.inl s13.1)]) (stk' := []) (h' := s13.2) 1 (fun _ _ => rfl) (fun c25 => ?_) (fun c25 => ?_)
          · rw [if_pos c25] at HF
            have hz := Option.some.inj HF
            subst hz
            rw [← H215 _ rfl] at HK16
            exact hP17 (s13.1, s13.2) HK16
          · rw [if_neg c25] at HF
            obtain ⟨g24, HF⟩ := q_gF HF
            refine q_gd (pc' := 64) (loc' := [some (.inr (.inr (30, 7, 0))), some (.inl s1.1), some (.inl s1.2.1), some (.inl s13.1)]) (stk' := [.inl (s13.2.1 37 0 7 (s13.1 - (1 : Int32)).toNatClampNeg), .inl s13.1, .inr (.inr (37, 7, 0))]) (h' := s13.2) 9 (fun _ _ => rfl) g24 ?_
            obtain ⟨g23, HF⟩ := q_gF HF
            refine q_gd (pc' := 65) (loc' := [some (.inr (.inr (30, 7, 0))), some (.inl s1.1), some (.inl s1.2.1), some (.inl s13.1)]) (stk' := []) (h' := (q_si s13.2 37 0 7 s13.1.toNatClampNeg (s13.2.1 37 0 7 (s13.1 - (1 : Int32)).toNatClampNeg))) 1 (fun _ _ => rfl) g23 ?_
            refine q_blk (pc' := 31) (loc' := [some (.inr (.inr (30, 7, 0))), some (.inl s1.1), some (.inl s1.2.1), some (.inl (s13.1 + (-1 : Int32)))]) (stk' := []) (h' := (q_si s13.2 37 0 7 s13.1.toNatClampNeg (s13.2.1 37 0 7 (s13.1 - (1 : Int32)).toNatClampNeg))) 2 (fun _ _ => rfl) ?_
            have hz := Option.some.inj HF
            subst hz
            exact H114 ((s13.1 + (-1 : Int32)), (q_si s13.2 37 0 7 s13.1.toNatClampNeg (s13.2.1 37 0 7 (s13.1 - (1 : Int32)).toNatClampNeg))) rfl
      · rw [if_neg c30] at HF
        refine q_blk (pc' := 4) (loc' := [some (.inr (.inr (30, 7, 0))), some (.inl s1.1), some (.inl (s1.2.1 + (1 : Int32))), none]) (stk' := []) (h' := s1.2.2) 3 (fun _ _ => rfl) ?_
        have hz := Option.some.inj HF
        subst hz
        exact H12 (s1.1, (s1.2.1 + (1 : Int32)), s1.2.2) rfl
def Mo_takesNumbers (a1 : Int32) (h : q_H) : Option q_H :=
  (q_lp (fun s1 : Int32 × q_H => (bif q_in a1 14 then (if (s1.2.1 40 0 7 a1.toNatClampNeg) ≤ s1.1 then (some (.inr (s1.2))) else (if ¬ (s1.2.1 30 15 7 0) = 0 then (some (.inr (s1.2))) else (Option.bind (α := Int32) (if ¬ (s1.2.1 30 19 7 0) = (2 : Int32) then (some ((0 : Int32))) else (some ((1 : Int32)))) (fun p14 => (Mo_must p14 (2 : Int32) (s1.2.1 30 17 7 0) s1.2).bind fun x15 => Option.bind (α := Int32) (if ¬ a1 = 0 then (if ¬ a1 = (1 : Int32) then (if ¬ a1 = (2 : Int32) then (if (3 : Int32) < a1 then (some ((1 : Int32))) else (if ¬ s1.1 = 0 then (if s1.1 = (1 : Int32) then (some ((1 : Int32))) else ((Mo_isIn (x15.1 30 20 7 0) (1 : Int32) (20 : Int32) x15).bind fun x21 => if x21 = 0 then (some ((0 : Int32))) else (some ((1 : Int32))))) else (if (99 : Int32) < (x15.1 30 20 7 0) then (some ((0 : Int32))) else (some ((1 : Int32)))))) else (if (30 : Int32) < (x15.1 30 20 7 0) then (some ((0 : Int32))) else (some ((1 : Int32))))) else ((Mo_isIn (x15.1 30 20 7 0) (1 : Int32) (8 : Int32) x15).bind fun x30 => some (x30))) else ((Mo_isIn (x15.1 30 20 7 0) (32 : Int32) (96 : Int32) x15).bind fun x33 => some (x33))) (fun p36 => (Mo_must p36 (4 : Int32) (x15.1 30 17 7 0) x15).bind fun x37 => bif q_in s1.1 5 then (Option.bind (α := q_H) (if ¬ ((q_si x37 41 0 7 s1.1.toNatClampNeg (x37.1 30 20 7 0)).1 30 15 7 0) = 0 then (some ((q_si x37 41 0 7 s1.1.toNatClampNeg (x37.1 30 20 7 0)))) else ((Mo_reads (q_si x37 41 0 7 s1.1.toNatClampNeg (x37.1 30 20 7 0))).bind fun x43 => some (x43))) (fun p46 => some (.inl ((s1.1 + (1 : Int32)), p46)))) else none))))) else none : Option ((Int32 × q_H) ⊕ q_H))) q_fu (((0 : Int32), h) : Int32 × q_H)).bind fun z8 => some z8
set_option maxRecDepth 100000 in
set_option maxHeartbeats 4000000 in
theorem eMo_takesNumbers {d : Nat} (hd : 4 ≤ d) {a1 : Int32} {h : q_H} {r : q_H} (HF : Mo_takesNumbers a1 h = some r) : q_T d 255 [.inr (.inr (30, 7, 0)), .inl a1] h (none, r) := by
  obtain ⟨d, rfl⟩ : ∃ d', d = d' + 1 := ⟨d - 1, by omega⟩
  refine q_ent q_K255 rfl rfl rfl ?_
  unfold Mo_takesNumbers at HF
  refine q_blk (pc' := 2) (loc' := [some (.inr (.inr (30, 7, 0))), some (.inl a1), some (.inl (0 : Int32)), none]) (stk' := []) (h' := h) 2 (fun _ _ => rfl) ?_
  obtain ⟨r6, hl7, HK4⟩ := q_bind HF
  refine q_lpE (E := fun s1 => q_E d q_K255 2 [some (.inr (.inr (30, 7, 0))), some (.inl a1), some (.inl s1.1), none] [] s1.2 (none, r)) r6 (fun s1 z8 HF H12 H23 => ?_) _ _ hl7
  obtain ⟨g53, HF⟩ := q_gF HF
  refine q_gd (pc' := 9) (loc' := [some (.inr (.inr (30, 7, 0))), some (.inl a1), some (.inl s1.1), none]) (stk' := [.inl (s1.2.1 40 0 7 a1.toNatClampNeg), .inl s1.1]) (h' := s1.2) 5 (fun _ _ => rfl) g53 ?_
  refine q_br (P := (s1.2.1 40 0 7 a1.toNatClampNeg) ≤ s1.1) (pcT := 181) (pcF := 12) (loc' := [some (.inr (.inr (30, 7, 0))), some (.inl a1), some (.inl s1.1), none]) (stk' := []) (h' := s1.2) 1 (fun _ _ => rfl) (fun c52 => ?_) (fun c52 => ?_)
  · rw [if_pos c52] at HF
    have hz := Option.some.inj HF
    subst hz
    replace HF := HK4
    rw [← H23 _ rfl] at HF
    have hz := Option.some.inj HF
    subst hz
    exact q_rtn 1 (fun _ _ => rfl)
  · rw [if_neg c52] at HF
    refine q_br (P := ¬ (s1.2.1 30 15 7 0) = 0) (pcT := 181) (pcF := 19) (loc' := [some (.inr (.inr (30, 7, 0))), some (.inl a1), some (.inl s1.1), none]) (stk' := []) (h' := s1.2) 3 (fun _ _ => rfl) (fun c51 => ?_) (fun c51 => ?_)
    · rw [if_pos c51] at HF
      have hz := Option.some.inj HF
      subst hz
      replace HF := HK4
      rw [← H23 _ rfl] at HF
      have hz := Option.some.inj HF
      subst hz
      exact q_rtn 1 (fun _ _ => rfl)
    · rw [if_neg c51] at HF
      obtain ⟨z9, HA10, HK11⟩ := q_bind HF
      have hP12 : ∀ p14 : Int32, ((Mo_must p14 (2 : Int32) (s1.2.1 30 17 7 0) s1.2).bind fun x15 => Option.bind (α := Int32) (if ¬ a1 = 0 then (if ¬ a1 = (1 : Int32) then (if ¬ a1 = (2 : Int32) then (if (3 : Int32) < a1 then (some ((1 : Int32))) else (if ¬ s1.1 = 0 then (if s1.1 = (1 : Int32) then (some ((1 : Int32))) else ((Mo_isIn (x15.1 30 20 7 0) (1 : Int32) (20 : Int32) x15).bind fun x21 => if x21 = 0 then (some ((0 : Int32))) else (some ((1 : Int32))))) else (if (99 : Int32) < (x15.1 30 20 7 0) then (some ((0 : Int32))) else (some ((1 : Int32)))))) else (if (30 : Int32) < (x15.1 30 20 7 0) then (some ((0 : Int32))) else (some ((1 : Int32))))) else ((Mo_isIn (x15.1 30 20 7 0) (1 : Int32) (8 : Int32) x15).bind fun x30 => some (x30))) else ((Mo_isIn (x15.1 30 20 7 0) (32 : Int32) (96 : Int32) x15).bind fun x33 => some (x33))) (fun p36 => (Mo_must p36 (4 : Int32) (x15.1 30 17 7 0) x15).bind fun x37 => bif q_in s1.1 5 then (Option.bind (α := q_H) (if ¬ ((q_si x37 41 0 7 s1.1.toNatClampNeg (x37.1 30 20 7 0)).1 30 15 7 0) = 0 then (some ((q_si x37 41 0 7 s1.1.toNatClampNeg (x37.1 30 20 7 0)))) else ((Mo_reads (q_si x37 41 0 7 s1.1.toNatClampNeg (x37.1 30 20 7 0))).bind fun x43 => some (x43))) (fun p46 => some (.inl ((s1.1 + (1 : Int32)), p46)))) else none) : Option ((Int32 × q_H) ⊕ q_H)) = some z8 → q_E d q_K255 33 [some (.inr (.inr (30, 7, 0))), some (.inl a1), some (.inl s1.1), none] [.inl p14, .inr (.inr (30, 7, 0))] s1.2 (none, r) := by
        intro p14 HF
        obtain ⟨x15, hx16, HF⟩ := q_bind HF
        refine q_cll (m' := 253) (av := [.inr (.inr (30, 7, 0)), .inl p14, .inl (2 : Int32), .inl (s1.2.1 30 17 7 0)]) (st' := []) (pc' := 41) (loc' := [some (.inr (.inr (30, 7, 0))), some (.inl a1), some (.inl s1.1), none]) (h' := s1.2) 4 (fun _ _ => rfl) (eMo_must (by omega) hx16) ?_
        obtain ⟨z17, HA18, HK19⟩ := q_bind HF
        have hP20 : ∀ p36 : Int32, ((Mo_must p36 (4 : Int32) (x15.1 30 17 7 0) x15).bind fun x37 => bif q_in s1.1 5 then (Option.bind (α := q_H) (if ¬ ((q_si x37 41 0 7 s1.1.toNatClampNeg (x37.1 30 20 7 0)).1 30 15 7 0) = 0 then (some ((q_si x37 41 0 7 s1.1.toNatClampNeg (x37.1 30 20 7 0)))) else ((Mo_reads (q_si x37 41 0 7 s1.1.toNatClampNeg (x37.1 30 20 7 0))).bind fun x43 => some (x43))) (fun p46 => some (.inl ((s1.1 + (1 : Int32)), p46)))) else none : Option ((Int32 × q_H) ⊕ q_H)) = some z8 → q_E d q_K255 143 [some (.inr (.inr (30, 7, 0))), some (.inl a1), some (.inl s1.1), none] [.inl p36] x15 (none, r) := by
          intro p36 HF
          obtain ⟨x37, hx38, HF⟩ := q_bind HF
          refine q_cll (m' := 253) (av := [.inr (.inr (30, 7, 0)), .inl p36, .inl (4 : Int32), .inl (x15.1 30 17 7 0)]) (st' := []) (pc' := 154) (loc' := [some (.inr (.inr (30, 7, 0))), some (.inl a1), some (.inl s1.1), some (.inl p36)]) (h' := x15) 7 (fun _ _ => rfl) (eMo_must (by omega) hx38) ?_
          obtain ⟨g48, HF⟩ := q_gF HF
          refine q_gd (pc' := 164) (loc' := [some (.inr (.inr (30, 7, 0))), some (.inl a1), some (.inl s1.1), some (.inl p36)]) (stk' := []) (h' := (q_si x37 41 0 7 s1.1.toNatClampNeg (x37.1 30 20 7 0))) 6 (fun _ _ => rfl) g48 ?_
          obtain ⟨z39, HA40, HK41⟩ := q_bind HF
          have hP42 : ∀ p46 : q_H, (some (.inl ((s1.1 + (1 : Int32)), p46)) : Option ((Int32 × q_H) ⊕ q_H)) = some z8 → q_E d q_K255 175 [some (.inr (.inr (30, 7, 0))), some (.inl a1), some (.inl s1.1), some (.inl p36)] [] p46 (none, r) := by
            intro p46 HF
            refine q_blk (pc' := 2) (loc' := [some (.inr (.inr (30, 7, 0))), some (.inl a1), some (.inl (s1.1 + (1 : Int32))), some (.inl p36)]) (stk' := []) (h' := p46) 2 (fun _ _ => rfl) ?_
            have hz := Option.some.inj HF
            subst hz
            exact q_wk (loc := [some (.inr (.inr (30, 7, 0))), some (.inl a1), some (.inl (s1.1 + (1 : Int32))), none]) ⟨Or.inl rfl, ⟨Or.inl rfl, ⟨Or.inl rfl, ⟨Or.inr ⟨rfl, fun _ h => by cases h⟩, trivial⟩⟩⟩⟩ (H12 ((s1.1 + (1 : Int32)), p46) rfl)
          replace HF := HA40
          refine q_br (P := ¬ ((q_si x37 41 0 7 s1.1.toNatClampNeg (x37.1 30 20 7 0)).1 30 15 7 0) = 0) (pcT := 175) (pcF := 171) (loc' := [some (.inr (.inr (30, 7, 0))), some (.inl a1), some (.inl s1.1), some (.inl p36)]) (stk' := []) (h' := (q_si x37 41 0 7 s1.1.toNatClampNeg (x37.1 30 20 7 0))) 3 (fun _ _ => rfl) (fun c45 => ?_) (fun c45 => ?_)
          · rw [if_pos c45] at HF
            have hz := Option.some.inj HF
            subst hz
            exact hP42 (q_si x37 41 0 7 s1.1.toNatClampNeg (x37.1 30 20 7 0)) HK41
          · rw [if_neg c45] at HF
            obtain ⟨x43, hx44, HF⟩ := q_bind HF
            refine q_cll (m' := 252) (av := [.inr (.inr (30, 7, 0))]) (st' := []) (pc' := 175) (loc' := [some (.inr (.inr (30, 7, 0))), some (.inl a1), some (.inl s1.1), some (.inl p36)]) (h' := (q_si x37 41 0 7 s1.1.toNatClampNeg (x37.1 30 20 7 0))) 2 (fun _ _ => rfl) (eMo_reads (by omega) hx44) ?_
            have hz := Option.some.inj HF
            subst hz
            exact hP42 (x43) HK41
        replace HF := HA18
        refine q_br (P := ¬ a1 = 0) (pcT := 59) (pcF := 45) (loc' := [some (.inr (.inr (30, 7, 0))), some (.inl a1), some (.inl s1.1), none]) (stk' := []) (h' := x15) 2 (fun _ _ => rfl) (fun c35 => ?_) (fun c35 => ?_)
        · rw [if_pos c35] at HF
          refine q_br (P := ¬ a1 = (1 : Int32)) (pcT := 77) (pcF := 64) (loc' := [some (.inr (.inr (30, 7, 0))), some (.inl a1), some (.inl s1.1), none]) (stk' := []) (h' := x15) 3 (fun _ _ => rfl) (fun c32 => ?_) (fun c32 => ?_)
          · rw [if_pos c32] at HF
            refine q_br (P := ¬ a1 = (2 : Int32)) (pcT := 99) (pcF := 82) (loc' := [some (.inr (.inr (30, 7, 0))), some (.inl a1), some (.inl s1.1), none]) (stk' := []) (h' := x15) 3 (fun _ _ => rfl) (fun c29 => ?_) (fun c29 => ?_)
            · rw [if_pos c29] at HF
              refine q_br (P := (3 : Int32) < a1) (pcT := 138) (pcF := 104) (loc' := [some (.inr (.inr (30, 7, 0))), some (.inl a1), some (.inl s1.1), none]) (stk' := []) (h' := x15) 3 (fun _ _ => rfl) (fun c27 => ?_) (fun c27 => ?_)
              · rw [if_pos c27] at HF
                refine q_blk (pc' := 143) (loc' := [some (.inr (.inr (30, 7, 0))), some (.inl a1), some (.inl s1.1), none]) (stk' := [.inl (1 : Int32)]) (h' := x15) 2 (fun _ _ => rfl) ?_
                have hz := Option.some.inj HF
                subst hz
                exact hP20 (1 : Int32) HK19
              · rw [if_neg c27] at HF
                refine q_br (P := ¬ s1.1 = 0) (pcT := 120) (pcF := 108) (loc' := [some (.inr (.inr (30, 7, 0))), some (.inl a1), some (.inl s1.1), none]) (stk' := []) (h' := x15) 2 (fun _ _ => rfl) (fun c26 => ?_) (fun c26 => ?_)
                · rw [if_pos c26] at HF
                  refine q_br (P := s1.1 = (1 : Int32)) (pcT := 138) (pcF := 125) (loc' := [some (.inr (.inr (30, 7, 0))), some (.inl a1), some (.inl s1.1), none]) (stk' := []) (h' := x15) 3 (fun _ _ => rfl) (fun c24 => ?_) (fun c24 => ?_)
                  · rw [if_pos c24] at HF
                    refine q_blk (pc' := 143) (loc' := [some (.inr (.inr (30, 7, 0))), some (.inl a1), some (.inl s1.1), none]) (stk' := [.inl (1 : Int32)]) (h' := x15) 2 (fun _ _ => rfl) ?_
                    have hz := Option.some.inj HF
                    subst hz
                    exact hP20 (1 : Int32) HK19
                  · rw [if_neg c24] at HF
                    obtain ⟨x21, hx22, HF⟩ := q_bind HF
                    refine q_cll (m' := 184) (av := [.inl (x15.1 30 20 7 0), .inl (1 : Int32), .inl (20 : Int32)]) (st' := []) (pc' := 135) (loc' := [some (.inr (.inr (30, 7, 0))), some (.inl a1), some (.inl s1.1), none]) (h' := x15) 5 (fun _ _ => rfl) (eMo_isIn (by omega) hx22) ?_
                    refine q_br (P := x21 = 0) (pcT := 142) (pcF := 138) (loc' := [some (.inr (.inr (30, 7, 0))), some (.inl a1), some (.inl s1.1), none]) (stk' := []) (h' := x15) 1 (fun _ _ => rfl) (fun c23 => ?_) (fun c23 => ?_)
                    · rw [if_pos c23] at HF
                      refine q_blk (pc' := 143) (loc' := [some (.inr (.inr (30, 7, 0))), some (.inl a1), some (.inl s1.1), none]) (stk' := [.inl (0 : Int32)]) (h' := x15) 1 (fun _ _ => rfl) ?_
                      have hz := Option.some.inj HF
                      subst hz
                      exact hP20 (0 : Int32) HK19
                    · rw [if_neg c23] at HF
                      refine q_blk (pc' := 143) (loc' := [some (.inr (.inr (30, 7, 0))), some (.inl a1), some (.inl s1.1), none]) (stk' := [.inl (1 : Int32)]) (h' := x15) 2 (fun _ _ => rfl) ?_
                      have hz := Option.some.inj HF
                      subst hz
                      exact hP20 (1 : Int32) HK19
                · rw [if_neg c26] at HF
                  refine q_br (P := (99 : Int32) < (x15.1 30 20 7 0)) (pcT := 142) (pcF := 117) (loc' := [some (.inr (.inr (30, 7, 0))), some (.inl a1), some (.inl s1.1), none]) (stk' := []) (h' := x15) 4 (fun _ _ => rfl) (fun c25 => ?_) (fun c25 => ?_)
                  · rw [if_pos c25] at HF
                    refine q_blk (pc' := 143) (loc' := [some (.inr (.inr (30, 7, 0))), some (.inl a1), some (.inl s1.1), none]) (stk' := [.inl (0 : Int32)]) (h' := x15) 1 (fun _ _ => rfl) ?_
                    have hz := Option.some.inj HF
                    subst hz
                    exact hP20 (0 : Int32) HK19
                  · rw [if_neg c25] at HF
                    refine q_blk (pc' := 143) (loc' := [some (.inr (.inr (30, 7, 0))), some (.inl a1), some (.inl s1.1), none]) (stk' := [.inl (1 : Int32)]) (h' := x15) 3 (fun _ _ => rfl) ?_
                    have hz := Option.some.inj HF
                    subst hz
                    exact hP20 (1 : Int32) HK19
            · rw [if_neg c29] at HF
              refine q_br (P := (30 : Int32) < (x15.1 30 20 7 0)) (pcT := 95) (pcF := 91) (loc' := [some (.inr (.inr (30, 7, 0))), some (.inl a1), some (.inl s1.1), none]) (stk' := []) (h' := x15) 4 (fun _ _ => rfl) (fun c28 => ?_) (fun c28 => ?_)
              · rw [if_pos c28] at HF
                refine q_blk (pc' := 143) (loc' := [some (.inr (.inr (30, 7, 0))), some (.inl a1), some (.inl s1.1), none]) (stk' := [.inl (0 : Int32)]) (h' := x15) 2 (fun _ _ => rfl) ?_
                have hz := Option.some.inj HF
                subst hz
                exact hP20 (0 : Int32) HK19
              · rw [if_neg c28] at HF
                refine q_blk (pc' := 143) (loc' := [some (.inr (.inr (30, 7, 0))), some (.inl a1), some (.inl s1.1), none]) (stk' := [.inl (1 : Int32)]) (h' := x15) 2 (fun _ _ => rfl) ?_
                have hz := Option.some.inj HF
                subst hz
                exact hP20 (1 : Int32) HK19
          · rw [if_neg c32] at HF
            obtain ⟨x30, hx31, HF⟩ := q_bind HF
            refine q_cll (m' := 184) (av := [.inl (x15.1 30 20 7 0), .inl (1 : Int32), .inl (8 : Int32)]) (st' := []) (pc' := 74) (loc' := [some (.inr (.inr (30, 7, 0))), some (.inl a1), some (.inl s1.1), none]) (h' := x15) 5 (fun _ _ => rfl) (eMo_isIn (by omega) hx31) ?_
            refine q_blk (pc' := 143) (loc' := [some (.inr (.inr (30, 7, 0))), some (.inl a1), some (.inl s1.1), none]) (stk' := [.inl x30]) (h' := x15) 1 (fun _ _ => rfl) ?_
            have hz := Option.some.inj HF
            subst hz
            exact hP20 (x30) HK19
        · rw [if_neg c35] at HF
          obtain ⟨x33, hx34, HF⟩ := q_bind HF
          refine q_cll (m' := 184) (av := [.inl (x15.1 30 20 7 0), .inl (32 : Int32), .inl (96 : Int32)]) (st' := []) (pc' := 56) (loc' := [some (.inr (.inr (30, 7, 0))), some (.inl a1), some (.inl s1.1), none]) (h' := x15) 5 (fun _ _ => rfl) (eMo_isIn (by omega) hx34) ?_
          refine q_blk (pc' := 143) (loc' := [some (.inr (.inr (30, 7, 0))), some (.inl a1), some (.inl s1.1), none]) (stk' := [.inl x33]) (h' := x15) 1 (fun _ _ => rfl) ?_
          have hz := Option.some.inj HF
          subst hz
          exact hP20 (x33) HK19
      replace HF := HA10
      refine q_br (P := ¬ (s1.2.1 30 19 7 0) = (2 : Int32)) (pcT := 32) (pcF := 28) (loc' := [some (.inr (.inr (30, 7, 0))), some (.inl a1), some (.inl s1.1), none]) (stk' := [.inr (.inr (30, 7, 0))]) (h' := s1.2) 5 (fun _ _ => rfl) (fun c13 => ?_) (fun c13 => ?_)
      · rw [if_pos c13] at HF
        refine q_blk (pc' := 33) (loc' := [some (.inr (.inr (30, 7, 0))), some (.inl a1), some (.inl s1.1), none]) (stk' := [.inl (0 : Int32), .inr (.inr (30, 7, 0))]) (h' := s1.2) 1 (fun _ _ => rfl) ?_
        have hz := Option.some.inj HF
        subst hz
        exact hP12 (0 : Int32) HK11
      · rw [if_neg c13] at HF
        refine q_blk (pc' := 33) (loc' := [some (.inr (.inr (30, 7, 0))), some (.inl a1), some (.inl s1.1), none]) (stk' := [.inl (1 : Int32), .inr (.inr (30, 7, 0))]) (h' := s1.2) 2 (fun _ _ => rfl) ?_
        have hz := Option.some.inj HF
        subst hz
        exact hP12 (1 : Int32) HK11
def Mo_deadUnits (a1 : Int32) (a2 : Int32) (a3 : Int32) (h : q_H) : Option Int32 :=
  (q_lp (fun s1 : Int32 × Int32 => (if ((10 : Int32) * a2) ≤ s1.2 then (some (.inr (s1.1))) else ((Mo_isVersion s1.2 h).bind fun x9 => Option.bind (α := Int32) (if x9 = 0 then (some ((0 : Int32))) else ((Mo_isDead s1.2 a3 h).bind fun x15 => if x15 = 0 then (some ((0 : Int32))) else ((Mo_of s1.2 (5 : Int32) h).bind fun x17 => some (x17)))) (fun p21 => some (.inl ((s1.1 + p21), (s1.2 + (1 : Int32)))))) : Option ((Int32 × Int32) ⊕ Int32))) q_fu (((0 : Int32), ((10 : Int32) * a1)) : Int32 × Int32)).bind fun z8 => some z8
set_option maxRecDepth 100000 in
set_option maxHeartbeats 4000000 in
theorem eMo_deadUnits {d : Nat} (hd : 4 ≤ d) {a1 : Int32} {a2 : Int32} {a3 : Int32} {h : q_H} {r : Int32} (HF : Mo_deadUnits a1 a2 a3 h = some r) : q_T d 266 [.inr (.inr (30, 7, 0)), .inl a1, .inl a2, .inl a3] h (some (.inl r), h) := by
  obtain ⟨d, rfl⟩ : ∃ d', d = d' + 1 := ⟨d - 1, by omega⟩
  refine q_ent q_K266 rfl rfl rfl ?_
  unfold Mo_deadUnits at HF
  refine q_blk (pc' := 9) (loc' := [some (.inr (.inr (30, 7, 0))), some (.inl a1), some (.inl a2), some (.inl a3), some (.inl (0 : Int32)), some (.inl ((10 : Int32) * a1))]) (stk' := []) (h' := h) 6 (fun _ _ => rfl) ?_
  obtain ⟨r6, hl7, HK4⟩ := q_bind HF
  refine q_lpE (E := fun s1 => q_E d q_K266 9 [some (.inr (.inr (30, 7, 0))), some (.inl a1), some (.inl a2), some (.inl a3), some (.inl s1.1), some (.inl s1.2)] [] h (some (.inl r), h)) r6 (fun s1 z8 HF H12 H23 => ?_) _ _ hl7
  refine q_br (P := ((10 : Int32) * a2) ≤ s1.2) (pcT := 59) (pcF := 18) (loc' := [some (.inr (.inr (30, 7, 0))), some (.inl a1), some (.inl a2), some (.inl a3), some (.inl s1.1), some (.inl s1.2)]) (stk' := []) (h' := h) 5 (fun _ _ => rfl) (fun c23 => ?_) (fun c23 => ?_)
  · rw [if_pos c23] at HF
    have hz := Option.some.inj HF
    subst hz
    replace HF := HK4
    rw [← H23 _ rfl] at HF
    have hz := Option.some.inj HF
    subst hz
    exact q_rtn 2 (fun _ _ => rfl)
  · rw [if_neg c23] at HF
    obtain ⟨x9, hx10, HF⟩ := q_bind HF
    refine q_cll (m' := 191) (av := [.inr (.inr (30, 7, 0)), .inl s1.2]) (st' := [.inl s1.1]) (pc' := 26) (loc' := [some (.inr (.inr (30, 7, 0))), some (.inl a1), some (.inl a2), some (.inl a3), some (.inl s1.1), some (.inl s1.2)]) (h' := h) 4 (fun _ _ => rfl) (eMo_isVersion (by omega) hx10) ?_
    obtain ⟨z11, HA12, HK13⟩ := q_bind HF
    have hP14 : ∀ p21 : Int32, (some (.inl ((s1.1 + p21), (s1.2 + (1 : Int32)))) : Option ((Int32 × Int32) ⊕ Int32)) = some z8 → q_E d q_K266 50 [some (.inr (.inr (30, 7, 0))), some (.inl a1), some (.inl a2), some (.inl a3), some (.inl s1.1), some (.inl s1.2)] [.inl p21, .inl s1.1] h (some (.inl r), h) := by
      intro p21 HF
      refine q_blk (pc' := 9) (loc' := [some (.inr (.inr (30, 7, 0))), some (.inl a1), some (.inl a2), some (.inl a3), some (.inl (s1.1 + p21)), some (.inl (s1.2 + (1 : Int32)))]) (stk' := []) (h' := h) 4 (fun _ _ => rfl) ?_
      have hz := Option.some.inj HF
      subst hz
      exact H12 ((s1.1 + p21), (s1.2 + (1 : Int32))) rfl
    replace HF := HA12
    refine q_br (P := x9 = 0) (pcT := 49) (pcF := 29) (loc' := [some (.inr (.inr (30, 7, 0))), some (.inl a1), some (.inl a2), some (.inl a3), some (.inl s1.1), some (.inl s1.2)]) (stk' := [.inl s1.1]) (h' := h) 1 (fun _ _ => rfl) (fun c20 => ?_) (fun c20 => ?_)
    · rw [if_pos c20] at HF
      refine q_blk (pc' := 50) (loc' := [some (.inr (.inr (30, 7, 0))), some (.inl a1), some (.inl a2), some (.inl a3), some (.inl s1.1), some (.inl s1.2)]) (stk' := [.inl (0 : Int32), .inl s1.1]) (h' := h) 1 (fun _ _ => rfl) ?_
      have hz := Option.some.inj HF
      subst hz
      exact hP14 (0 : Int32) HK13
    · rw [if_neg c20] at HF
      obtain ⟨x15, hx16, HF⟩ := q_bind HF
      refine q_cll (m' := 207) (av := [.inr (.inr (30, 7, 0)), .inl s1.2, .inl a3]) (st' := [.inl s1.1]) (pc' := 36) (loc' := [some (.inr (.inr (30, 7, 0))), some (.inl a1), some (.inl a2), some (.inl a3), some (.inl s1.1), some (.inl s1.2)]) (h' := h) 4 (fun _ _ => rfl) (eMo_isDead (by omega) hx16) ?_
      refine q_br (P := x15 = 0) (pcT := 49) (pcF := 39) (loc' := [some (.inr (.inr (30, 7, 0))), some (.inl a1), some (.inl a2), some (.inl a3), some (.inl s1.1), some (.inl s1.2)]) (stk' := [.inl s1.1]) (h' := h) 1 (fun _ _ => rfl) (fun c19 => ?_) (fun c19 => ?_)
      · rw [if_pos c19] at HF
        refine q_blk (pc' := 50) (loc' := [some (.inr (.inr (30, 7, 0))), some (.inl a1), some (.inl a2), some (.inl a3), some (.inl s1.1), some (.inl s1.2)]) (stk' := [.inl (0 : Int32), .inl s1.1]) (h' := h) 1 (fun _ _ => rfl) ?_
        have hz := Option.some.inj HF
        subst hz
        exact hP14 (0 : Int32) HK13
      · rw [if_neg c19] at HF
        obtain ⟨x17, hx18, HF⟩ := q_bind HF
        refine q_cll (m' := 187) (av := [.inr (.inr (30, 7, 0)), .inl s1.2, .inl (5 : Int32)]) (st' := [.inl s1.1]) (pc' := 46) (loc' := [some (.inr (.inr (30, 7, 0))), some (.inl a1), some (.inl a2), some (.inl a3), some (.inl s1.1), some (.inl s1.2)]) (h' := h) 4 (fun _ _ => rfl) (eMo_of (by omega) hx18) ?_
        refine q_blk (pc' := 50) (loc' := [some (.inr (.inr (30, 7, 0))), some (.inl a1), some (.inl a2), some (.inl a3), some (.inl s1.1), some (.inl s1.2)]) (stk' := [.inl x17, .inl s1.1]) (h' := h) 1 (fun _ _ => rfl) ?_
        have hz := Option.some.inj HF
        subst hz
        exact hP14 (x17) HK13
