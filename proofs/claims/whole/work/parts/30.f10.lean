def Mo_madeAs (a1 : Int32) (a2 : Int32) (h : q_H) : Option Int32 :=
  (q_lp (fun s1 : Int32 => (if (60 : Int32) ≤ s1 then (some (.inr ((-1 : Int32)))) else ((Mo_isVersion s1 h).bind fun x9 => if x9 = 0 then (some (.inl (s1 + (1 : Int32)))) else ((Mo_of s1 (2 : Int32) h).bind fun x11 => if x11 = a1 then ((q_lp (fun s13 : Int32 × Int32 => (if (60 : Int32) ≤ s13.2 then (some (.inr (s13.1))) else ((Mo_isVersion s13.2 h).bind fun x21 => Option.bind (α := Int32) (if x21 = 0 then (some ((0 : Int32))) else ((Mo_of s13.2 (2 : Int32) h).bind fun x27 => if ¬ x27 = a1 then (some ((0 : Int32))) else ((Mo_of s13.2 (12 : Int32) h).bind fun x29 => (Mo_of s1 (12 : Int32) h).bind fun x31 => if x31 ≤ x29 then (some ((0 : Int32))) else (some ((1 : Int32)))))) (fun p36 => some (.inl ((s13.1 + p36), (s13.2 + (1 : Int32)))))) : Option ((Int32 × Int32) ⊕ (Int32)))) q_fu (((0 : Int32), (0 : Int32)) : Int32 × Int32)).bind fun p39 => if ¬ p39 = a2 then (some (.inl (s1 + (1 : Int32)))) else (some (.inr (s1)))) else (some (.inl (s1 + (1 : Int32)))))) : Option ((Int32) ⊕ Int32))) q_fu ((0 : Int32) : Int32)).bind fun z8 => some z8
set_option maxRecDepth 100000 in
set_option maxHeartbeats 4000000 in
theorem eMo_madeAs {d : Nat} (hd : 4 ≤ d) {a1 : Int32} {a2 : Int32} {h : q_H} {r : Int32} (HF : Mo_madeAs a1 a2 h = some r) : q_T d 278 [.inr (.inr (30, 7, 0)), .inl a1, .inl a2] h (some (.inl r), h) := by
  obtain ⟨d, rfl⟩ : ∃ d', d = d' + 1 := ⟨d - 1, by omega⟩
  refine q_ent q_K278 rfl rfl rfl ?_
  unfold Mo_madeAs at HF
  refine q_blk (pc' := 2) (loc' := [some (.inr (.inr (30, 7, 0))), some (.inl a1), some (.inl a2), some (.inl (0 : Int32)), none, none]) (stk' := []) (h' := h) 2 (fun _ _ => rfl) ?_
  obtain ⟨r6, hl7, HK4⟩ := q_bind HF
  refine q_lpE (E := fun s1 => q_E d q_K278 2 [some (.inr (.inr (30, 7, 0))), some (.inl a1), some (.inl a2), some (.inl s1), none, none] [] h (some (.inl r), h)) r6 (fun s1 z8 HF H12 H23 => ?_) _ _ hl7
  refine q_br (P := (60 : Int32) ≤ s1) (pcT := 110) (pcF := 8) (loc' := [some (.inr (.inr (30, 7, 0))), some (.inl a1), some (.inl a2), some (.inl s1), none, none]) (stk' := []) (h' := h) 3 (fun _ _ => rfl) (fun c43 => ?_) (fun c43 => ?_)
  · rw [if_pos c43] at HF
    have hz := Option.some.inj HF
    subst hz
    replace HF := HK4
    rw [← H23 _ rfl] at HF
    have hz := Option.some.inj HF
    subst hz
    exact q_rtn 2 (fun _ _ => rfl)
  · rw [if_neg c43] at HF
    obtain ⟨x9, hx10, HF⟩ := q_bind HF
    refine q_cll (m' := 191) (av := [.inr (.inr (30, 7, 0)), .inl s1]) (st' := []) (pc' := 13) (loc' := [some (.inr (.inr (30, 7, 0))), some (.inl a1), some (.inl a2), some (.inl s1), none, none]) (h' := h) 3 (fun _ _ => rfl) (eMo_isVersion (by omega) hx10) ?_
    refine q_br (P := x9 = 0) (pcT := 104) (pcF := 16) (loc' := [some (.inr (.inr (30, 7, 0))), some (.inl a1), some (.inl a2), some (.inl s1), none, none]) (stk' := []) (h' := h) 1 (fun _ _ => rfl) (fun c42 => ?_) (fun c42 => ?_)
    · rw [if_pos c42] at HF
      refine q_blk (pc' := 2) (loc' := [some (.inr (.inr (30, 7, 0))), some (.inl a1), some (.inl a2), some (.inl (s1 + (1 : Int32))), none, none]) (stk' := []) (h' := h) 2 (fun _ _ => rfl) ?_
      have hz := Option.some.inj HF
      subst hz
      exact H12 (s1 + (1 : Int32)) rfl
    · rw [if_neg c42] at HF
      obtain ⟨x11, hx12, HF⟩ := q_bind HF
      refine q_cll (m' := 187) (av := [.inr (.inr (30, 7, 0)), .inl s1, .inl (2 : Int32)]) (st' := []) (pc' := 22) (loc' := [some (.inr (.inr (30, 7, 0))), some (.inl a1), some (.inl a2), some (.inl s1), none, none]) (h' := h) 4 (fun _ _ => rfl) (eMo_of (by omega) hx12) ?_
      refine q_br (P := x11 = a1) (pcT := 29) (pcF := 26) (loc' := [some (.inr (.inr (30, 7, 0))), some (.inl a1), some (.inl a2), some (.inl s1), none, none]) (stk' := []) (h' := h) 2 (fun _ _ => rfl) (fun c41 => ?_) (fun c41 => ?_)
      · rw [if_pos c41] at HF
        refine q_blk (pc' := 35) (loc' := [some (.inr (.inr (30, 7, 0))), some (.inl a1), some (.inl a2), some (.inl s1), some (.inl (0 : Int32)), some (.inl (0 : Int32))]) (stk' := []) (h' := h) 4 (fun _ _ => rfl) ?_
        obtain ⟨r18, hl19, HK16⟩ := q_bind HF
        have hP17 : ∀ p39 : Int32, (if ¬ p39 = a2 then (some (.inl (s1 + (1 : Int32)))) else (some (.inr (s1))) : Option ((Int32) ⊕ Int32)) = some z8 → q_E d q_K278 96 [some (.inr (.inr (30, 7, 0))), some (.inl a1), some (.inl a2), some (.inl s1), some (.inl p39), none] [] h (some (.inl r), h) := by
          intro p39 HF
          refine q_br (P := ¬ p39 = a2) (pcT := 104) (pcF := 102) (loc' := [some (.inr (.inr (30, 7, 0))), some (.inl a1), some (.inl a2), some (.inl s1), some (.inl p39), none]) (stk' := []) (h' := h) 3 (fun _ _ => rfl) (fun c40 => ?_) (fun c40 => ?_)
          · rw [if_pos c40] at HF
            refine q_blk (pc' := 2) (loc' := [some (.inr (.inr (30, 7, 0))), some (.inl a1), some (.inl a2), some (.inl (s1 + (1 : Int32))), some (.inl p39), none]) (stk' := []) (h' := h) 2 (fun _ _ => rfl) ?_
            have hz := Option.some.inj HF
            subst hz
            exact q_wk (loc := [some (.inr (.inr (30, 7, 0))), some (.inl a1), some (.inl a2), some (.inl (s1 + (1 : Int32))), none, none]) ⟨Or.inl rfl, ⟨Or.inl rfl, ⟨Or.inl rfl, ⟨Or.inl rfl, ⟨Or.inr ⟨rfl, fun _ h => by cases h⟩, ⟨Or.inl rfl, trivial⟩⟩⟩⟩⟩⟩ (H12 (s1 + (1 : Int32)) rfl)
          · rw [if_neg c40] at HF
            have hz := Option.some.inj HF
            subst hz
            replace HF := HK4
            rw [← H23 _ rfl] at HF
            have hz := Option.some.inj HF
            subst hz
            exact q_rtn 2 (fun _ _ => rfl)
        refine q_lpE (E := fun s13 => q_E d q_K278 35 [some (.inr (.inr (30, 7, 0))), some (.inl a1), some (.inl a2), some (.inl s1), some (.inl s13.1), some (.inl s13.2)] [] h (some (.inl r), h)) r18 (fun s13 z20 HF H114 H215 => ?_) _ _ hl19
        refine q_br (P := (60 : Int32) ≤ s13.2) (pcT := 96) (pcF := 42) (loc' := [some (.inr (.inr (30, 7, 0))), some (.inl a1), some (.inl a2), some (.inl s1), some (.inl s13.1), some (.inl s13.2)]) (stk' := []) (h' := h) 3 (fun _ _ => rfl) (fun c38 => ?_) (fun c38 => ?_)
        · rw [if_pos c38] at HF
          have hz := Option.some.inj HF
          subst hz
          rw [← H215 _ rfl] at HK16
          exact q_wk (loc := [some (.inr (.inr (30, 7, 0))), some (.inl a1), some (.inl a2), some (.inl s1), some (.inl s13.1), none]) ⟨Or.inl rfl, ⟨Or.inl rfl, ⟨Or.inl rfl, ⟨Or.inl rfl, ⟨Or.inl rfl, ⟨Or.inr ⟨rfl, fun _ h => by cases h⟩, trivial⟩⟩⟩⟩⟩⟩ (hP17 (s13.1) HK16)
        · rw [if_neg c38] at HF
          obtain ⟨x21, hx22, HF⟩ := q_bind HF
          refine q_cll (m' := 191) (av := [.inr (.inr (30, 7, 0)), .inl s13.2]) (st' := [.inl s13.1]) (pc' := 50) (loc' := [some (.inr (.inr (30, 7, 0))), some (.inl a1), some (.inl a2), some (.inl s1), some (.inl s13.1), some (.inl s13.2)]) (h' := h) 4 (fun _ _ => rfl) (eMo_isVersion (by omega) hx22) ?_
          obtain ⟨z23, HA24, HK25⟩ := q_bind HF
          have hP26 : ∀ p36 : Int32, (some (.inl ((s13.1 + p36), (s13.2 + (1 : Int32)))) : Option ((Int32 × Int32) ⊕ (Int32))) = some z20 → q_E d q_K278 87 [some (.inr (.inr (30, 7, 0))), some (.inl a1), some (.inl a2), some (.inl s1), some (.inl s13.1), some (.inl s13.2)] [.inl p36, .inl s13.1] h (some (.inl r), h) := by
            intro p36 HF
            refine q_blk (pc' := 35) (loc' := [some (.inr (.inr (30, 7, 0))), some (.inl a1), some (.inl a2), some (.inl s1), some (.inl (s13.1 + p36)), some (.inl (s13.2 + (1 : Int32)))]) (stk' := []) (h' := h) 4 (fun _ _ => rfl) ?_
            have hz := Option.some.inj HF
            subst hz
            exact H114 ((s13.1 + p36), (s13.2 + (1 : Int32))) rfl
          replace HF := HA24
          refine q_br (P := x21 = 0) (pcT := 86) (pcF := 53) (loc' := [some (.inr (.inr (30, 7, 0))), some (.inl a1), some (.inl a2), some (.inl s1), some (.inl s13.1), some (.inl s13.2)]) (stk' := [.inl s13.1]) (h' := h) 1 (fun _ _ => rfl) (fun c35 => ?_) (fun c35 => ?_)
          · rw [if_pos c35] at HF
            refine q_blk (pc' := 87) (loc' := [some (.inr (.inr (30, 7, 0))), some (.inl a1), some (.inl a2), some (.inl s1), some (.inl s13.1), some (.inl s13.2)]) (stk' := [.inl (0 : Int32), .inl s13.1]) (h' := h) 1 (fun _ _ => rfl) ?_
            have hz := Option.some.inj HF
            subst hz
            exact hP26 (0 : Int32) HK25
          · rw [if_neg c35] at HF
            obtain ⟨x27, hx28, HF⟩ := q_bind HF
            refine q_cll (m' := 187) (av := [.inr (.inr (30, 7, 0)), .inl s13.2, .inl (2 : Int32)]) (st' := [.inl s13.1]) (pc' := 60) (loc' := [some (.inr (.inr (30, 7, 0))), some (.inl a1), some (.inl a2), some (.inl s1), some (.inl s13.1), some (.inl s13.2)]) (h' := h) 4 (fun _ _ => rfl) (eMo_of (by omega) hx28) ?_
            refine q_br (P := ¬ x27 = a1) (pcT := 86) (pcF := 64) (loc' := [some (.inr (.inr (30, 7, 0))), some (.inl a1), some (.inl a2), some (.inl s1), some (.inl s13.1), some (.inl s13.2)]) (stk' := [.inl s13.1]) (h' := h) 2 (fun _ _ => rfl) (fun c34 => ?_) (fun c34 => ?_)
            · rw [if_pos c34] at HF
              refine q_blk (pc' := 87) (loc' := [some (.inr (.inr (30, 7, 0))), some (.inl a1), some (.inl a2), some (.inl s1), some (.inl s13.1), some (.inl s13.2)]) (stk' := [.inl (0 : Int32), .inl s13.1]) (h' := h) 1 (fun _ _ => rfl) ?_
              have hz := Option.some.inj HF
              subst hz
              exact hP26 (0 : Int32) HK25
            · rw [if_neg c34] at HF
              obtain ⟨x29, hx30, HF⟩ := q_bind HF
              refine q_cll (m' := 187) (av := [.inr (.inr (30, 7, 0)), .inl s13.2, .inl (12 : Int32)]) (st' := [.inl s13.1]) (pc' := 72) (loc' := [some (.inr (.inr (30, 7, 0))), some (.inl a1), some (.inl a2), some (.inl s1), some (.inl s13.1), some (.inl s13.2)]) (h' := h) 4 (fun _ _ => rfl) (eMo_of (by omega) hx30) ?_
              obtain ⟨x31, hx32, HF⟩ := q_bind HF
              refine q_cll (m' := 187) (av := [.inr (.inr (30, 7, 0)), .inl s1, .inl (12 : Int32)]) (st' := [.inl x29, .inl s13.1]) (pc' := 79) (loc' := [some (.inr (.inr (30, 7, 0))), some (.inl a1), some (.inl a2), some (.inl s1), some (.inl s13.1), some (.inl s13.2)]) (h' := h) 4 (fun _ _ => rfl) (eMo_of (by omega) hx32) ?_
              refine q_br (P := x31 ≤ x29) (pcT := 86) (pcF := 82) (loc' := [some (.inr (.inr (30, 7, 0))), some (.inl a1), some (.inl a2), some (.inl s1), some (.inl s13.1), some (.inl s13.2)]) (stk' := [.inl s13.1]) (h' := h) 1 (fun _ _ => rfl) (fun c33 => ?_) (fun c33 => ?_)
              · rw [if_pos c33] at HF
                refine q_blk (pc' := 87) (loc' := [some (.inr (.inr (30, 7, 0))), some (.inl a1), some (.inl a2), some (.inl s1), some (.inl s13.1), some (.inl s13.2)]) (stk' := [.inl (0 : Int32), .inl s13.1]) (h' := h) 1 (fun _ _ => rfl) ?_
                have hz := Option.some.inj HF
                subst hz
                exact hP26 (0 : Int32) HK25
              · rw [if_neg c33] at HF
                refine q_blk (pc' := 87) (loc' := [some (.inr (.inr (30, 7, 0))), some (.inl a1), some (.inl a2), some (.inl s1), some (.inl s13.1), some (.inl s13.2)]) (stk' := [.inl (1 : Int32), .inl s13.1]) (h' := h) 2 (fun _ _ => rfl) ?_
                have hz := Option.some.inj HF
                subst hz
                exact hP26 (1 : Int32) HK25
      · rw [if_neg c41] at HF
        refine q_blk (pc' := 2) (loc' := [some (.inr (.inr (30, 7, 0))), some (.inl a1), some (.inl a2), some (.inl (s1 + (1 : Int32))), none, none]) (stk' := []) (h' := h) 3 (fun _ _ => rfl) ?_
        have hz := Option.some.inj HF
        subst hz
        exact H12 (s1 + (1 : Int32)) rfl
def Mo_begin  (h : q_H) : Option (Int32 × q_H) :=
  (Mo_is (0 : Int32) h).bind fun x1 => (Mo_beginNow x1.2).bind fun x3 => some ((x3.1, x3.2))
set_option maxRecDepth 100000 in
set_option maxHeartbeats 4000000 in
theorem eMo_begin {d : Nat} (hd : 4 ≤ d)  {h : q_H} {r : (Int32 × q_H)} (HF : Mo_begin  h = some r) : q_T d 281 [.inr (.inr (30, 7, 0))] h (some (.inl r.1), r.2) := by
  obtain ⟨d, rfl⟩ : ∃ d', d = d' + 1 := ⟨d - 1, by omega⟩
  refine q_ent q_K281 rfl rfl rfl ?_
  unfold Mo_begin at HF
  obtain ⟨x1, hx2, HF⟩ := q_bind HF
  refine q_cll (m' := 183) (av := [.inr (.inr (30, 7, 0)), .inl (0 : Int32)]) (st' := []) (pc' := 5) (loc' := [some (.inr (.inr (30, 7, 0)))]) (h' := h) 3 (fun _ _ => rfl) (eMo_is (by omega) hx2) ?_
  obtain ⟨x3, hx4, HF⟩ := q_bind HF
  refine q_cll (m' := 236) (av := [.inr (.inr (30, 7, 0))]) (st' := []) (pc' := 10) (loc' := [some (.inr (.inr (30, 7, 0)))]) (h' := x1.2) 3 (fun _ _ => rfl) (eMo_beginNow (by omega) hx4) ?_
  have hz := Option.some.inj HF
  subst hz
  exact q_rtn 1 (fun _ _ => rfl)
def Mo_without (a1 : Int32) (h : q_H) : Option (Int32 × q_H) :=
  (Mo_asksOpen a1 h).bind fun x1 => if x1.1 = 0 then (some (((-1 : Int32), x1.2))) else ((Mo_horizonBut a1 x1.2).bind fun x3 => some ((x3, x1.2)))
set_option maxRecDepth 100000 in
set_option maxHeartbeats 4000000 in
theorem eMo_without {d : Nat} (hd : 4 ≤ d) {a1 : Int32} {h : q_H} {r : (Int32 × q_H)} (HF : Mo_without a1 h = some r) : q_T d 296 [.inr (.inr (30, 7, 0)), .inl a1] h (some (.inl r.1), r.2) := by
  obtain ⟨d, rfl⟩ : ∃ d', d = d' + 1 := ⟨d - 1, by omega⟩
  refine q_ent q_K296 rfl rfl rfl ?_
  unfold Mo_without at HF
  obtain ⟨x1, hx2, HF⟩ := q_bind HF
  refine q_cll (m' := 295) (av := [.inr (.inr (30, 7, 0)), .inl a1]) (st' := []) (pc' := 5) (loc' := [some (.inr (.inr (30, 7, 0))), some (.inl a1)]) (h' := h) 3 (fun _ _ => rfl) (eMo_asksOpen (by omega) hx2) ?_
  refine q_br (P := x1.1 = 0) (pcT := 16) (pcF := 8) (loc' := [some (.inr (.inr (30, 7, 0))), some (.inl a1)]) (stk' := []) (h' := x1.2) 1 (fun _ _ => rfl) (fun c5 => ?_) (fun c5 => ?_)
  · rw [if_pos c5] at HF
    have hz := Option.some.inj HF
    subst hz
    exact q_rtn 2 (fun _ _ => rfl)
  · rw [if_neg c5] at HF
    obtain ⟨x3, hx4, HF⟩ := q_bind HF
    refine q_cll (m' := 204) (av := [.inr (.inr (30, 7, 0)), .inl a1]) (st' := []) (pc' := 13) (loc' := [some (.inr (.inr (30, 7, 0))), some (.inl a1)]) (h' := x1.2) 3 (fun _ _ => rfl) (eMo_horizonBut (by omega) hx4) ?_
    have hz := Option.some.inj HF
    subst hz
    exact q_rtn 2 (fun _ _ => rfl)
def Mo_blocks (a1 : Int32) (h : q_H) : Option (Int32 × q_H) :=
  (Mo_asksOpen a1 h).bind fun x1 => if ¬ x1.1 = 0 then ((q_lp (fun s3 : Int32 × Int32 => (if (x1.2.1 31 0 7 4) ≤ s3.2 then (some (.inr ((s3.1, x1.2)))) else (bif q_in ((1583 : Int32) + s3.2) 1644 then ((q_lp (fun s11 : Int32 => (if s11 ≤ 0 then (some (.inr (s11))) else (if s11 = a1 then (some (.inr (s11))) else (bif q_in ((1583 : Int32) + s11) 1644 then (some (.inl (x1.2.1 31 0 7 ((1583 : Int32) + s11).toNatClampNeg))) else none)) : Option ((Int32) ⊕ (Int32)))) q_fu ((x1.2.1 31 0 7 ((1583 : Int32) + s3.2).toNatClampNeg) : Int32)).bind fun p22 => Option.bind (α := Int32) (if ¬ p22 = a1 then (some ((0 : Int32))) else (some ((1 : Int32)))) (fun p28 => some (.inl ((s3.1 + p28), (s3.2 + (1 : Int32)))))) else none) : Option ((Int32 × Int32) ⊕ (Int32 × q_H)))) q_fu (((0 : Int32), (1 : Int32)) : Int32 × Int32)).bind fun z10 => some z10) else (some (((-1 : Int32), x1.2)))
set_option maxRecDepth 100000 in
set_option maxHeartbeats 4000000 in
theorem eMo_blocks {d : Nat} (hd : 4 ≤ d) {a1 : Int32} {h : q_H} {r : (Int32 × q_H)} (HF : Mo_blocks a1 h = some r) : q_T d 301 [.inr (.inr (30, 7, 0)), .inl a1] h (some (.inl r.1), r.2) := by
  obtain ⟨d, rfl⟩ : ∃ d', d = d' + 1 := ⟨d - 1, by omega⟩
  refine q_ent q_K301 rfl rfl rfl ?_
  unfold Mo_blocks at HF
  obtain ⟨x1, hx2, HF⟩ := q_bind HF
  refine q_cll (m' := 295) (av := [.inr (.inr (30, 7, 0)), .inl a1]) (st' := []) (pc' := 5) (loc' := [some (.inr (.inr (30, 7, 0))), some (.inl a1), none, none, none]) (h' := h) 3 (fun _ _ => rfl) (eMo_asksOpen (by omega) hx2) ?_
  refine q_br (P := ¬ x1.1 = 0) (pcT := 10) (pcF := 8) (loc' := [some (.inr (.inr (30, 7, 0))), some (.inl a1), none, none, none]) (stk' := []) (h' := x1.2) 1 (fun _ _ => rfl) (fun c32 => ?_) (fun c32 => ?_)
  · rw [if_pos c32] at HF
    refine q_blk (pc' := 14) (loc' := [some (.inr (.inr (30, 7, 0))), some (.inl a1), some (.inl (0 : Int32)), some (.inl (1 : Int32)), none]) (stk' := []) (h' := x1.2) 4 (fun _ _ => rfl) ?_
    obtain ⟨r8, hl9, HK6⟩ := q_bind HF
    refine q_lpE (E := fun s3 => q_E d q_K301 14 [some (.inr (.inr (30, 7, 0))), some (.inl a1), some (.inl s3.1), some (.inl s3.2), none] [] x1.2 (some (.inl r.1), r.2)) r8 (fun s3 z10 HF H14 H25 => ?_) _ _ hl9
    refine q_br (P := (x1.2.1 31 0 7 4) ≤ s3.2) (pcT := 83) (pcF := 24) (loc' := [some (.inr (.inr (30, 7, 0))), some (.inl a1), some (.inl s3.1), some (.inl s3.2), none]) (stk' := []) (h' := x1.2) 6 (fun _ _ => rfl) (fun c31 => ?_) (fun c31 => ?_)
    · rw [if_pos c31] at HF
      have hz := Option.some.inj HF
      subst hz
      replace HF := HK6
      rw [← H25 _ rfl] at HF
      have hz := Option.some.inj HF
      subst hz
      exact q_rtn 2 (fun _ _ => rfl)
    · rw [if_neg c31] at HF
      obtain ⟨g30, HF⟩ := q_gF HF
      refine q_gd (pc' := 34) (loc' := [some (.inr (.inr (30, 7, 0))), some (.inl a1), some (.inl s3.1), some (.inl s3.2), none]) (stk' := [.inl (x1.2.1 31 0 7 ((1583 : Int32) + s3.2).toNatClampNeg)]) (h' := x1.2) 6 (fun _ _ => rfl) g30 ?_
      refine q_blk (pc' := 36) (loc' := [some (.inr (.inr (30, 7, 0))), some (.inl a1), some (.inl s3.1), some (.inl s3.2), some (.inl (x1.2.1 31 0 7 ((1583 : Int32) + s3.2).toNatClampNeg))]) (stk' := []) (h' := x1.2) 1 (fun _ _ => rfl) ?_
      obtain ⟨r16, hl17, HK14⟩ := q_bind HF
      have hP15 : ∀ p22 : Int32, (Option.bind (α := Int32) (if ¬ p22 = a1 then (some ((0 : Int32))) else (some ((1 : Int32)))) (fun p28 => some (.inl ((s3.1 + p28), (s3.2 + (1 : Int32))))) : Option ((Int32 × Int32) ⊕ (Int32 × q_H))) = some z10 → q_E d q_K301 63 [some (.inr (.inr (30, 7, 0))), some (.inl a1), some (.inl s3.1), some (.inl s3.2), some (.inl p22)] [] x1.2 (some (.inl r.1), r.2) := by
        intro p22 HF
        obtain ⟨z23, HA24, HK25⟩ := q_bind HF
        have hP26 : ∀ p28 : Int32, (some (.inl ((s3.1 + p28), (s3.2 + (1 : Int32)))) : Option ((Int32 × Int32) ⊕ (Int32 × q_H))) = some z10 → q_E d q_K301 75 [some (.inr (.inr (30, 7, 0))), some (.inl a1), some (.inl s3.1), some (.inl s3.2), some (.inl p22)] [.inl p28, .inl s3.1] x1.2 (some (.inl r.1), r.2) := by
          intro p28 HF
          refine q_blk (pc' := 14) (loc' := [some (.inr (.inr (30, 7, 0))), some (.inl a1), some (.inl (s3.1 + p28)), some (.inl (s3.2 + (1 : Int32))), some (.inl p22)]) (stk' := []) (h' := x1.2) 4 (fun _ _ => rfl) ?_
          have hz := Option.some.inj HF
          subst hz
          exact q_wk (loc := [some (.inr (.inr (30, 7, 0))), some (.inl a1), some (.inl (s3.1 + p28)), some (.inl (s3.2 + (1 : Int32))), none]) ⟨Or.inl rfl, ⟨Or.inl rfl, ⟨Or.inl rfl, ⟨Or.inl rfl, ⟨Or.inr ⟨rfl, fun _ h => by cases h⟩, trivial⟩⟩⟩⟩⟩ (H14 ((s3.1 + p28), (s3.2 + (1 : Int32))) rfl)
        replace HF := HA24
        refine q_br (P := ¬ p22 = a1) (pcT := 74) (pcF := 70) (loc' := [some (.inr (.inr (30, 7, 0))), some (.inl a1), some (.inl s3.1), some (.inl s3.2), some (.inl p22)]) (stk' := [.inl s3.1]) (h' := x1.2) 4 (fun _ _ => rfl) (fun c27 => ?_) (fun c27 => ?_)
        · rw [if_pos c27] at HF
          refine q_blk (pc' := 75) (loc' := [some (.inr (.inr (30, 7, 0))), some (.inl a1), some (.inl s3.1), some (.inl s3.2), some (.inl p22)]) (stk' := [.inl (0 : Int32), .inl s3.1]) (h' := x1.2) 1 (fun _ _ => rfl) ?_
          have hz := Option.some.inj HF
          subst hz
          exact hP26 (0 : Int32) HK25
        · rw [if_neg c27] at HF
          refine q_blk (pc' := 75) (loc' := [some (.inr (.inr (30, 7, 0))), some (.inl a1), some (.inl s3.1), some (.inl s3.2), some (.inl p22)]) (stk' := [.inl (1 : Int32), .inl s3.1]) (h' := x1.2) 2 (fun _ _ => rfl) ?_
          have hz := Option.some.inj HF
          subst hz
          exact hP26 (1 : Int32) HK25
      refine q_lpE (E := fun s11 => q_E d q_K301 36 [some (.inr (.inr (30, 7, 0))), some (.inl a1), some (.inl s3.1), some (.inl s3.2), some (.inl s11)] [] x1.2 (some (.inl r.1), r.2)) r16 (fun s11 z18 HF H112 H213 => ?_) _ _ hl17
      refine q_br (P := s11 ≤ 0) (pcT := 63) (pcF := 41) (loc' := [some (.inr (.inr (30, 7, 0))), some (.inl a1), some (.inl s3.1), some (.inl s3.2), some (.inl s11)]) (stk' := []) (h' := x1.2) 2 (fun _ _ => rfl) (fun c21 => ?_) (fun c21 => ?_)
      · rw [if_pos c21] at HF
        have hz := Option.some.inj HF
        subst hz
        rw [← H213 _ rfl] at HK14
        exact hP15 (s11) HK14
      · rw [if_neg c21] at HF
        refine q_br (P := s11 = a1) (pcT := 63) (pcF := 47) (loc' := [some (.inr (.inr (30, 7, 0))), some (.inl a1), some (.inl s3.1), some (.inl s3.2), some (.inl s11)]) (stk' := []) (h' := x1.2) 3 (fun _ _ => rfl) (fun c20 => ?_) (fun c20 => ?_)
        · rw [if_pos c20] at HF
          have hz := Option.some.inj HF
          subst hz
          rw [← H213 _ rfl] at HK14
          exact hP15 (s11) HK14
        · rw [if_neg c20] at HF
          obtain ⟨g19, HF⟩ := q_gF HF
          refine q_gd (pc' := 58) (loc' := [some (.inr (.inr (30, 7, 0))), some (.inl a1), some (.inl s3.1), some (.inl s3.2), some (.inl s11)]) (stk' := [.inl (x1.2.1 31 0 7 ((1583 : Int32) + s11).toNatClampNeg)]) (h' := x1.2) 6 (fun _ _ => rfl) g19 ?_
          refine q_blk (pc' := 36) (loc' := [some (.inr (.inr (30, 7, 0))), some (.inl a1), some (.inl s3.1), some (.inl s3.2), some (.inl (x1.2.1 31 0 7 ((1583 : Int32) + s11).toNatClampNeg))]) (stk' := []) (h' := x1.2) 2 (fun _ _ => rfl) ?_
          have hz := Option.some.inj HF
          subst hz
          exact H112 (x1.2.1 31 0 7 ((1583 : Int32) + s11).toNatClampNeg) rfl
  · rw [if_neg c32] at HF
    have hz := Option.some.inj HF
    subst hz
    exact q_rtn 2 (fun _ _ => rfl)
def Mo_allFree  (h : q_H) : Option Int32 :=
  (q_lp (fun s1 : Int32 × Int32 => (if (6 : Int32) ≤ s1.2 then (some (.inr (s1.1))) else ((Mo_freeIn s1.2 h).bind fun x9 => some (.inl ((s1.1 + x9), (s1.2 + (1 : Int32))))) : Option ((Int32 × Int32) ⊕ Int32))) q_fu (((0 : Int32), (0 : Int32)) : Int32 × Int32)).bind fun z8 => some z8
set_option maxRecDepth 100000 in
set_option maxHeartbeats 4000000 in
theorem eMo_allFree {d : Nat} (hd : 4 ≤ d)  {h : q_H} {r : Int32} (HF : Mo_allFree  h = some r) : q_T d 305 [.inr (.inr (30, 7, 0))] h (some (.inl r), h) := by
  obtain ⟨d, rfl⟩ : ∃ d', d = d' + 1 := ⟨d - 1, by omega⟩
  refine q_ent q_K305 rfl rfl rfl ?_
  unfold Mo_allFree at HF
  refine q_blk (pc' := 4) (loc' := [some (.inr (.inr (30, 7, 0))), some (.inl (0 : Int32)), some (.inl (0 : Int32))]) (stk' := []) (h' := h) 4 (fun _ _ => rfl) ?_
  obtain ⟨r6, hl7, HK4⟩ := q_bind HF
  refine q_lpE (E := fun s1 => q_E d q_K305 4 [some (.inr (.inr (30, 7, 0))), some (.inl s1.1), some (.inl s1.2)] [] h (some (.inl r), h)) r6 (fun s1 z8 HF H12 H23 => ?_) _ _ hl7
  refine q_br (P := (6 : Int32) ≤ s1.2) (pcT := 24) (pcF := 10) (loc' := [some (.inr (.inr (30, 7, 0))), some (.inl s1.1), some (.inl s1.2)]) (stk' := []) (h' := h) 3 (fun _ _ => rfl) (fun c11 => ?_) (fun c11 => ?_)
  · rw [if_pos c11] at HF
    have hz := Option.some.inj HF
    subst hz
    replace HF := HK4
    rw [← H23 _ rfl] at HF
    have hz := Option.some.inj HF
    subst hz
    exact q_rtn 2 (fun _ _ => rfl)
  · rw [if_neg c11] at HF
    obtain ⟨x9, hx10, HF⟩ := q_bind HF
    refine q_cll (m' := 192) (av := [.inr (.inr (30, 7, 0)), .inl s1.2]) (st' := [.inl s1.1]) (pc' := 16) (loc' := [some (.inr (.inr (30, 7, 0))), some (.inl s1.1), some (.inl s1.2)]) (h' := h) 4 (fun _ _ => rfl) (eMo_freeIn (by omega) hx10) ?_
    refine q_blk (pc' := 4) (loc' := [some (.inr (.inr (30, 7, 0))), some (.inl (s1.1 + x9)), some (.inl (s1.2 + (1 : Int32)))]) (stk' := []) (h' := h) 4 (fun _ _ => rfl) ?_
    have hz := Option.some.inj HF
    subst hz
    exact H12 ((s1.1 + x9), (s1.2 + (1 : Int32))) rfl
def Rp_version (a1 : Int32) (a2 : Int32) (a3 : Int32) (h : q_H) : Option (Int32 × q_H) :=
  if a3 < 0 then ((Rp_refuse (1 : Int32) h).bind fun x1 => some ((x1.1, x1.2))) else (if a3 ≤ (11 : Int32) then ((Pg_hasSlot 0 a1 a2 h).bind fun x3 => if ¬ x3 = 0 then ((Pg_at 0 ((a1 * (10 : Int32)) + a2) h).bind fun x5 => if (h.1 3 0 0 x5) = (1 : Int32) then (if (8 : Int32) ≤ a3 then ((St_isSuch 0 0 x5 a3 h).bind fun x7 => if x7 = 0 then ((Rp_answer (0 : Int32) h).bind fun x9 => some ((x9.1, x9.2))) else ((Rp_answer (1 : Int32) h).bind fun x11 => some ((x11.1, x11.2)))) else ((Sl_stamp 0 x5 a3 h).bind fun x14 => (Rp_answer x14 h).bind fun x16 => some ((x16.1, x16.2)))) else ((Rp_refuse (5 : Int32) h).bind fun x19 => some ((x19.1, x19.2)))) else ((Rp_refuse (2 : Int32) h).bind fun x22 => some ((x22.1, x22.2)))) else ((Rp_refuse (1 : Int32) h).bind fun x25 => some ((x25.1, x25.2))))
set_option maxRecDepth 100000 in
set_option maxHeartbeats 4000000 in
theorem eRp_version {d : Nat} (hd : 5 ≤ d) {a1 : Int32} {a2 : Int32} {a3 : Int32} {h : q_H} {r : (Int32 × q_H)} (HF : Rp_version a1 a2 a3 h = some r) : q_T d 13 [.inr (.inr (24, 6, 0)), .inl a1, .inl a2, .inl a3] h (some (.inl r.1), r.2) := by
  obtain ⟨d, rfl⟩ : ∃ d', d = d' + 1 := ⟨d - 1, by omega⟩
  refine q_ent q_K13 rfl rfl rfl ?_
  unfold Rp_version at HF
  refine q_br (P := a3 < 0) (pcT := 10) (pcF := 4) (loc' := [some (.inr (.inr (24, 6, 0))), some (.inl a1), some (.inl a2), some (.inl a3), none]) (stk' := []) (h' := h) 2 (fun _ _ => rfl) (fun c28 => ?_) (fun c28 => ?_)
  · rw [if_pos c28] at HF
    obtain ⟨x1, hx2, HF⟩ := q_bind HF
    refine q_cll (m' := 46) (av := [.inr (.inr (24, 6, 0)), .inl (1 : Int32)]) (st' := []) (pc' := 15) (loc' := [some (.inr (.inr (24, 6, 0))), some (.inl a1), some (.inl a2), some (.inl a3), none]) (h' := h) 3 (fun _ _ => rfl) (eRp_refuse (by omega) hx2) ?_
    have hz := Option.some.inj HF
    subst hz
    exact q_rtn 1 (fun _ _ => rfl)
  · rw [if_neg c28] at HF
    refine q_br (P := a3 ≤ (11 : Int32)) (pcT := 16) (pcF := 10) (loc' := [some (.inr (.inr (24, 6, 0))), some (.inl a1), some (.inl a2), some (.inl a3), none]) (stk' := []) (h' := h) 3 (fun _ _ => rfl) (fun c27 => ?_) (fun c27 => ?_)
    · rw [if_pos c27] at HF
      obtain ⟨x3, hx4, HF⟩ := q_bind HF
      refine q_cll (m' := 91) (av := [.inr (.inr (1, 0, 0)), .inl a1, .inl a2]) (st' := []) (pc' := 28) (loc' := [some (.inr (.inr (24, 6, 0))), some (.inl a1), some (.inl a2), some (.inl a3), none]) (h' := h) 6 (fun _ _ => rfl) (ePg_hasSlot (by omega) hx4) ?_
      refine q_br (P := ¬ x3 = 0) (pcT := 37) (pcF := 31) (loc' := [some (.inr (.inr (24, 6, 0))), some (.inl a1), some (.inl a2), some (.inl a3), none]) (stk' := []) (h' := h) 1 (fun _ _ => rfl) (fun c24 => ?_) (fun c24 => ?_)
      · rw [if_pos c24] at HF
        obtain ⟨x5, hx6, HF⟩ := q_bind HF
        refine q_cll (m' := 89) (av := [.inr (.inr (1, 0, 0)), .inl ((a1 * (10 : Int32)) + a2)]) (st' := []) (pc' := 53) (loc' := [some (.inr (.inr (24, 6, 0))), some (.inl a1), some (.inl a2), some (.inl a3), none]) (h' := h) 9 (fun _ _ => rfl) (ePg_at (by omega) hx6) ?_
        refine q_br (P := (h.1 3 0 0 x5) = (1 : Int32)) (pcT := 70) (pcF := 64) (loc' := [some (.inr (.inr (24, 6, 0))), some (.inl a1), some (.inl a2), some (.inl a3), some (.inr (.inr (3, 0, x5)))]) (stk' := []) (h' := h) 5 (fun _ _ => rfl) (fun c21 => ?_) (fun c21 => ?_)
        · rw [if_pos c21] at HF
          refine q_br (P := (8 : Int32) ≤ a3) (pcT := 86) (pcF := 77) (loc' := [some (.inr (.inr (24, 6, 0))), some (.inl a1), some (.inl a2), some (.inl a3), some (.inr (.inr (3, 0, x5)))]) (stk' := [.inr (.inr (24, 6, 0))]) (h' := h) 4 (fun _ _ => rfl) (fun c18 => ?_) (fun c18 => ?_)
          · rw [if_pos c18] at HF
            obtain ⟨x7, hx8, HF⟩ := q_bind HF
            refine q_cll (m' := 147) (av := [.inr (.inr (0, 0, 0)), .inr (.inr (3, 0, x5)), .inl a3]) (st' := [.inr (.inr (24, 6, 0))]) (pc' := 96) (loc' := [some (.inr (.inr (24, 6, 0))), some (.inl a1), some (.inl a2), some (.inl a3), some (.inr (.inr (3, 0, x5)))]) (h' := h) 5 (fun _ _ => rfl) (eSt_isSuch (by omega) hx8) ?_
            refine q_br (P := x7 = 0) (pcT := 103) (pcF := 99) (loc' := [some (.inr (.inr (24, 6, 0))), some (.inl a1), some (.inl a2), some (.inl a3), some (.inr (.inr (3, 0, x5)))]) (stk' := [.inr (.inr (24, 6, 0))]) (h' := h) 1 (fun _ _ => rfl) (fun c13 => ?_) (fun c13 => ?_)
            · rw [if_pos c13] at HF
              obtain ⟨x9, hx10, HF⟩ := q_bind HF
              refine q_cll (m' := 45) (av := [.inr (.inr (24, 6, 0)), .inl (0 : Int32)]) (st' := []) (pc' := 107) (loc' := [some (.inr (.inr (24, 6, 0))), some (.inl a1), some (.inl a2), some (.inl a3), some (.inr (.inr (3, 0, x5)))]) (h' := h) 2 (fun _ _ => rfl) (eRp_answer (by omega) hx10) ?_
              have hz := Option.some.inj HF
              subst hz
              exact q_rtn 1 (fun _ _ => rfl)
            · rw [if_neg c13] at HF
              obtain ⟨x11, hx12, HF⟩ := q_bind HF
              refine q_cll (m' := 45) (av := [.inr (.inr (24, 6, 0)), .inl (1 : Int32)]) (st' := []) (pc' := 107) (loc' := [some (.inr (.inr (24, 6, 0))), some (.inl a1), some (.inl a2), some (.inl a3), some (.inr (.inr (3, 0, x5)))]) (h' := h) 3 (fun _ _ => rfl) (eRp_answer (by omega) hx12) ?_
              have hz := Option.some.inj HF
              subst hz
              exact q_rtn 1 (fun _ _ => rfl)
          · rw [if_neg c18] at HF
            obtain ⟨x14, hx15, HF⟩ := q_bind HF
            refine q_cll (m' := 66) (av := [.inr (.inr (3, 0, x5)), .inl a3]) (st' := [.inr (.inr (24, 6, 0))]) (pc' := 83) (loc' := [some (.inr (.inr (24, 6, 0))), some (.inl a1), some (.inl a2), some (.inl a3), some (.inr (.inr (3, 0, x5)))]) (h' := h) 3 (fun _ _ => rfl) (eSl_stamp (by omega) hx15) ?_
            obtain ⟨x16, hx17, HF⟩ := q_bind HF
            refine q_cll (m' := 45) (av := [.inr (.inr (24, 6, 0)), .inl x14]) (st' := []) (pc' := 107) (loc' := [some (.inr (.inr (24, 6, 0))), some (.inl a1), some (.inl a2), some (.inl a3), some (.inr (.inr (3, 0, x5)))]) (h' := h) 2 (fun _ _ => rfl) (eRp_answer (by omega) hx17) ?_
            have hz := Option.some.inj HF
            subst hz
            exact q_rtn 1 (fun _ _ => rfl)
        · rw [if_neg c21] at HF
          obtain ⟨x19, hx20, HF⟩ := q_bind HF
          refine q_cll (m' := 46) (av := [.inr (.inr (24, 6, 0)), .inl (5 : Int32)]) (st' := []) (pc' := 69) (loc' := [some (.inr (.inr (24, 6, 0))), some (.inl a1), some (.inl a2), some (.inl a3), some (.inr (.inr (3, 0, x5)))]) (h' := h) 3 (fun _ _ => rfl) (eRp_refuse (by omega) hx20) ?_
          have hz := Option.some.inj HF
          subst hz
          exact q_rtn 1 (fun _ _ => rfl)
      · rw [if_neg c24] at HF
        obtain ⟨x22, hx23, HF⟩ := q_bind HF
        refine q_cll (m' := 46) (av := [.inr (.inr (24, 6, 0)), .inl (2 : Int32)]) (st' := []) (pc' := 36) (loc' := [some (.inr (.inr (24, 6, 0))), some (.inl a1), some (.inl a2), some (.inl a3), none]) (h' := h) 3 (fun _ _ => rfl) (eRp_refuse (by omega) hx23) ?_
        have hz := Option.some.inj HF
        subst hz
        exact q_rtn 1 (fun _ _ => rfl)
    · rw [if_neg c27] at HF
      obtain ⟨x25, hx26, HF⟩ := q_bind HF
      refine q_cll (m' := 46) (av := [.inr (.inr (24, 6, 0)), .inl (1 : Int32)]) (st' := []) (pc' := 15) (loc' := [some (.inr (.inr (24, 6, 0))), some (.inl a1), some (.inl a2), some (.inl a3), none]) (h' := h) 3 (fun _ _ => rfl) (eRp_refuse (by omega) hx26) ?_
      have hz := Option.some.inj HF
      subst hz
      exact q_rtn 1 (fun _ _ => rfl)
def Rp_begin  (h : q_H) : Option (Int32 × q_H) :=
  if (h.1 6 4 0 0) ≤ (60 : Int32) then ((Tn_open 0 h).bind fun x1 => (Rp_answer x1.1 x1.2).bind fun x3 => some ((x3.1, x3.2))) else ((Rp_refuse (3 : Int32) h).bind fun x5 => some ((x5.1, x5.2)))
set_option maxRecDepth 100000 in
set_option maxHeartbeats 4000000 in
theorem eRp_begin {d : Nat} (hd : 5 ≤ d)  {h : q_H} {r : (Int32 × q_H)} (HF : Rp_begin  h = some r) : q_T d 21 [.inr (.inr (24, 6, 0))] h (some (.inl r.1), r.2) := by
  obtain ⟨d, rfl⟩ : ∃ d', d = d' + 1 := ⟨d - 1, by omega⟩
  refine q_ent q_K21 rfl rfl rfl ?_
  unfold Rp_begin at HF
  refine q_br (P := (h.1 6 4 0 0) ≤ (60 : Int32)) (pcT := 21) (pcF := 15) (loc' := [some (.inr (.inr (24, 6, 0)))]) (stk' := []) (h' := h) 6 (fun _ _ => rfl) (fun c7 => ?_) (fun c7 => ?_)
  · rw [if_pos c7] at HF
    obtain ⟨x1, hx2, HF⟩ := q_bind HF
    refine q_cll (m' := 112) (av := [.inr (.inr (6, 0, 0))]) (st' := [.inr (.inr (24, 6, 0))]) (pc' := 32) (loc' := [some (.inr (.inr (24, 6, 0)))]) (h' := h) 5 (fun _ _ => rfl) (eTn_open (by omega) hx2) ?_
    obtain ⟨x3, hx4, HF⟩ := q_bind HF
    refine q_cll (m' := 45) (av := [.inr (.inr (24, 6, 0)), .inl x1.1]) (st' := []) (pc' := 35) (loc' := [some (.inr (.inr (24, 6, 0)))]) (h' := x1.2) 1 (fun _ _ => rfl) (eRp_answer (by omega) hx4) ?_
    have hz := Option.some.inj HF
    subst hz
    exact q_rtn 1 (fun _ _ => rfl)
  · rw [if_neg c7] at HF
    obtain ⟨x5, hx6, HF⟩ := q_bind HF
    refine q_cll (m' := 46) (av := [.inr (.inr (24, 6, 0)), .inl (3 : Int32)]) (st' := []) (pc' := 20) (loc' := [some (.inr (.inr (24, 6, 0)))]) (h' := h) 3 (fun _ _ => rfl) (eRp_refuse (by omega) hx6) ?_
    have hz := Option.some.inj HF
    subst hz
    exact q_rtn 1 (fun _ _ => rfl)
def Rp_commit (a1 : Int32) (h : q_H) : Option (Int32 × q_H) :=
  (Rp_asFree a1 h).bind fun x1 => if x1 = 0 then ((Tn_end 0 a1 (1 : Int32) h).bind fun x3 => (Lg_tell 0 (6 : Int32) a1 x3).bind fun x5 => (Rp_answer (x5.1 6 5 0 0) x5).bind fun x7 => some ((x7.1, x7.2))) else ((Rp_refuse x1 h).bind fun x9 => some ((x9.1, x9.2)))
set_option maxRecDepth 100000 in
set_option maxHeartbeats 4000000 in
theorem eRp_commit {d : Nat} (hd : 5 ≤ d) {a1 : Int32} {h : q_H} {r : (Int32 × q_H)} (HF : Rp_commit a1 h = some r) : q_T d 22 [.inr (.inr (24, 6, 0)), .inl a1] h (some (.inl r.1), r.2) := by
  obtain ⟨d, rfl⟩ : ∃ d', d = d' + 1 := ⟨d - 1, by omega⟩
  refine q_ent q_K22 rfl rfl rfl ?_
  unfold Rp_commit at HF
  obtain ⟨x1, hx2, HF⟩ := q_bind HF
  refine q_cll (m' := 48) (av := [.inr (.inr (24, 6, 0)), .inl a1]) (st' := []) (pc' := 5) (loc' := [some (.inr (.inr (24, 6, 0))), some (.inl a1), none]) (h' := h) 3 (fun _ _ => rfl) (eRp_asFree (by omega) hx2) ?_
  refine q_br (P := x1 = 0) (pcT := 16) (pcF := 10) (loc' := [some (.inr (.inr (24, 6, 0))), some (.inl a1), some (.inl x1)]) (stk' := []) (h' := h) 3 (fun _ _ => rfl) (fun c11 => ?_) (fun c11 => ?_)
  · rw [if_pos c11] at HF
    obtain ⟨x3, hx4, HF⟩ := q_bind HF
    refine q_cll (m' := 113) (av := [.inr (.inr (6, 0, 0)), .inl a1, .inl (1 : Int32)]) (st' := []) (pc' := 28) (loc' := [some (.inr (.inr (24, 6, 0))), some (.inl a1), some (.inl x1)]) (h' := h) 6 (fun _ _ => rfl) (eTn_end (by omega) hx4) ?_
    obtain ⟨x5, hx6, HF⟩ := q_bind HF
    refine q_cll (m' := 82) (av := [.inr (.inr (15, 0, 0)), .inl (6 : Int32), .inl a1]) (st' := []) (pc' := 41) (loc' := [some (.inr (.inr (24, 6, 0))), some (.inl a1), some (.inl x1)]) (h' := x3) 6 (fun _ _ => rfl) (eLg_tell (by omega) hx6) ?_
    obtain ⟨x7, hx8, HF⟩ := q_bind HF
    refine q_cll (m' := 45) (av := [.inr (.inr (24, 6, 0)), .inl (x5.1 6 5 0 0)]) (st' := []) (pc' := 55) (loc' := [some (.inr (.inr (24, 6, 0))), some (.inl a1), some (.inl x1)]) (h' := x5) 6 (fun _ _ => rfl) (eRp_answer (by omega) hx8) ?_
    have hz := Option.some.inj HF
    subst hz
    exact q_rtn 1 (fun _ _ => rfl)
  · rw [if_neg c11] at HF
    obtain ⟨x9, hx10, HF⟩ := q_bind HF
    refine q_cll (m' := 46) (av := [.inr (.inr (24, 6, 0)), .inl x1]) (st' := []) (pc' := 15) (loc' := [some (.inr (.inr (24, 6, 0))), some (.inl a1), some (.inl x1)]) (h' := h) 3 (fun _ _ => rfl) (eRp_refuse (by omega) hx10) ?_
    have hz := Option.some.inj HF
    subst hz
    exact q_rtn 1 (fun _ _ => rfl)
def Rp_abort (a1 : Int32) (h : q_H) : Option (Int32 × q_H) :=
  (Rp_asOpen a1 h).bind fun x1 => if x1 = 0 then ((Tn_end 0 a1 (2 : Int32) h).bind fun x3 => (Lg_tell 0 (7 : Int32) a1 x3).bind fun x5 => (Rp_answer (x5.1 6 5 0 0) x5).bind fun x7 => some ((x7.1, x7.2))) else ((Rp_refuse x1 h).bind fun x9 => some ((x9.1, x9.2)))
set_option maxRecDepth 100000 in
set_option maxHeartbeats 4000000 in
theorem eRp_abort {d : Nat} (hd : 5 ≤ d) {a1 : Int32} {h : q_H} {r : (Int32 × q_H)} (HF : Rp_abort a1 h = some r) : q_T d 23 [.inr (.inr (24, 6, 0)), .inl a1] h (some (.inl r.1), r.2) := by
  obtain ⟨d, rfl⟩ : ∃ d', d = d' + 1 := ⟨d - 1, by omega⟩
  refine q_ent q_K23 rfl rfl rfl ?_
  unfold Rp_abort at HF
  obtain ⟨x1, hx2, HF⟩ := q_bind HF
  refine q_cll (m' := 47) (av := [.inr (.inr (24, 6, 0)), .inl a1]) (st' := []) (pc' := 5) (loc' := [some (.inr (.inr (24, 6, 0))), some (.inl a1), none]) (h' := h) 3 (fun _ _ => rfl) (eRp_asOpen (by omega) hx2) ?_
  refine q_br (P := x1 = 0) (pcT := 16) (pcF := 10) (loc' := [some (.inr (.inr (24, 6, 0))), some (.inl a1), some (.inl x1)]) (stk' := []) (h' := h) 3 (fun _ _ => rfl) (fun c11 => ?_) (fun c11 => ?_)
  · rw [if_pos c11] at HF
    obtain ⟨x3, hx4, HF⟩ := q_bind HF
    refine q_cll (m' := 113) (av := [.inr (.inr (6, 0, 0)), .inl a1, .inl (2 : Int32)]) (st' := []) (pc' := 28) (loc' := [some (.inr (.inr (24, 6, 0))), some (.inl a1), some (.inl x1)]) (h' := h) 6 (fun _ _ => rfl) (eTn_end (by omega) hx4) ?_
    obtain ⟨x5, hx6, HF⟩ := q_bind HF
    refine q_cll (m' := 82) (av := [.inr (.inr (15, 0, 0)), .inl (7 : Int32), .inl a1]) (st' := []) (pc' := 41) (loc' := [some (.inr (.inr (24, 6, 0))), some (.inl a1), some (.inl x1)]) (h' := x3) 6 (fun _ _ => rfl) (eLg_tell (by omega) hx6) ?_
    obtain ⟨x7, hx8, HF⟩ := q_bind HF
    refine q_cll (m' := 45) (av := [.inr (.inr (24, 6, 0)), .inl (x5.1 6 5 0 0)]) (st' := []) (pc' := 55) (loc' := [some (.inr (.inr (24, 6, 0))), some (.inl a1), some (.inl x1)]) (h' := x5) 6 (fun _ _ => rfl) (eRp_answer (by omega) hx8) ?_
    have hz := Option.some.inj HF
    subst hz
    exact q_rtn 1 (fun _ _ => rfl)
  · rw [if_neg c11] at HF
    obtain ⟨x9, hx10, HF⟩ := q_bind HF
    refine q_cll (m' := 46) (av := [.inr (.inr (24, 6, 0)), .inl x1]) (st' := []) (pc' := 15) (loc' := [some (.inr (.inr (24, 6, 0))), some (.inl a1), some (.inl x1)]) (h' := h) 3 (fun _ _ => rfl) (eRp_refuse (by omega) hx10) ?_
    have hz := Option.some.inj HF
    subst hz
    exact q_rtn 1 (fun _ _ => rfl)
def Rp_await (a1 : Int32) (a2 : Int32) (h : q_H) : Option (Int32 × q_H) :=
  (Rp_asReader a1 a2 h).bind fun x1 => if x1 = 0 then ((Rp_openEnder a1 a2 h).bind fun x3 => if ¬ x3 = (-1 : Int32) then ((Tn_ringLength 0 a1 x3 h).bind fun x5 => if x5 ≤ 0 then ((Tn_letWait 0 a1 x3 h).bind fun x7 => (Rp_answer x3 x7).bind fun x9 => some ((x9.1, x9.2))) else ((Rp_refuse (12 : Int32) h).bind fun x11 => some ((x11.1, x11.2)))) else ((Rp_refuse (5 : Int32) h).bind fun x14 => some ((x14.1, x14.2)))) else ((Rp_refuse x1 h).bind fun x17 => some ((x17.1, x17.2)))
set_option maxRecDepth 100000 in
set_option maxHeartbeats 4000000 in
theorem eRp_await {d : Nat} (hd : 5 ≤ d) {a1 : Int32} {a2 : Int32} {h : q_H} {r : (Int32 × q_H)} (HF : Rp_await a1 a2 h = some r) : q_T d 27 [.inr (.inr (24, 6, 0)), .inl a1, .inl a2] h (some (.inl r.1), r.2) := by
  obtain ⟨d, rfl⟩ : ∃ d', d = d' + 1 := ⟨d - 1, by omega⟩
  refine q_ent q_K27 rfl rfl rfl ?_
  unfold Rp_await at HF
  obtain ⟨x1, hx2, HF⟩ := q_bind HF
  refine q_cll (m' := 49) (av := [.inr (.inr (24, 6, 0)), .inl a1, .inl a2]) (st' := []) (pc' := 6) (loc' := [some (.inr (.inr (24, 6, 0))), some (.inl a1), some (.inl a2), none, none]) (h' := h) 4 (fun _ _ => rfl) (eRp_asReader (by omega) hx2) ?_
  refine q_br (P := x1 = 0) (pcT := 17) (pcF := 11) (loc' := [some (.inr (.inr (24, 6, 0))), some (.inl a1), some (.inl a2), some (.inl x1), none]) (stk' := []) (h' := h) 3 (fun _ _ => rfl) (fun c19 => ?_) (fun c19 => ?_)
  · rw [if_pos c19] at HF
    obtain ⟨x3, hx4, HF⟩ := q_bind HF
    refine q_cll (m' := 51) (av := [.inr (.inr (24, 6, 0)), .inl a1, .inl a2]) (st' := []) (pc' := 23) (loc' := [some (.inr (.inr (24, 6, 0))), some (.inl a1), some (.inl a2), some (.inl x1), none]) (h' := h) 4 (fun _ _ => rfl) (eRp_openEnder (by omega) hx4) ?_
    refine q_br (P := ¬ x3 = (-1 : Int32)) (pcT := 37) (pcF := 31) (loc' := [some (.inr (.inr (24, 6, 0))), some (.inl a1), some (.inl a2), some (.inl x1), some (.inl x3)]) (stk' := []) (h' := h) 4 (fun _ _ => rfl) (fun c16 => ?_) (fun c16 => ?_)
    · rw [if_pos c16] at HF
      obtain ⟨x5, hx6, HF⟩ := q_bind HF
      refine q_cll (m' := 120) (av := [.inr (.inr (6, 0, 0)), .inl a1, .inl x3]) (st' := []) (pc' := 50) (loc' := [some (.inr (.inr (24, 6, 0))), some (.inl a1), some (.inl a2), some (.inl x1), some (.inl x3)]) (h' := h) 6 (fun _ _ => rfl) (eTn_ringLength (by omega) hx6) ?_
      refine q_br (P := x5 ≤ 0) (pcT := 60) (pcF := 53) (loc' := [some (.inr (.inr (24, 6, 0))), some (.inl a1), some (.inl a2), some (.inl x1), some (.inl x3)]) (stk' := []) (h' := h) 1 (fun _ _ => rfl) (fun c13 => ?_) (fun c13 => ?_)
      · rw [if_pos c13] at HF
        obtain ⟨x7, hx8, HF⟩ := q_bind HF
        refine q_cll (m' := 119) (av := [.inr (.inr (6, 0, 0)), .inl a1, .inl x3]) (st' := []) (pc' := 73) (loc' := [some (.inr (.inr (24, 6, 0))), some (.inl a1), some (.inl a2), some (.inl x1), some (.inl x3)]) (h' := h) 6 (fun _ _ => rfl) (eTn_letWait (by omega) hx8) ?_
        obtain ⟨x9, hx10, HF⟩ := q_bind HF
        refine q_cll (m' := 45) (av := [.inr (.inr (24, 6, 0)), .inl x3]) (st' := []) (pc' := 79) (loc' := [some (.inr (.inr (24, 6, 0))), some (.inl a1), some (.inl a2), some (.inl x1), some (.inl x3)]) (h' := x7) 3 (fun _ _ => rfl) (eRp_answer (by omega) hx10) ?_
        have hz := Option.some.inj HF
        subst hz
        exact q_rtn 1 (fun _ _ => rfl)
      · rw [if_neg c13] at HF
        obtain ⟨x11, hx12, HF⟩ := q_bind HF
        refine q_cll (m' := 46) (av := [.inr (.inr (24, 6, 0)), .inl (12 : Int32)]) (st' := []) (pc' := 59) (loc' := [some (.inr (.inr (24, 6, 0))), some (.inl a1), some (.inl a2), some (.inl x1), some (.inl x3)]) (h' := h) 3 (fun _ _ => rfl) (eRp_refuse (by omega) hx12) ?_
        have hz := Option.some.inj HF
        subst hz
        exact q_rtn 1 (fun _ _ => rfl)
    · rw [if_neg c16] at HF
      obtain ⟨x14, hx15, HF⟩ := q_bind HF
      refine q_cll (m' := 46) (av := [.inr (.inr (24, 6, 0)), .inl (5 : Int32)]) (st' := []) (pc' := 36) (loc' := [some (.inr (.inr (24, 6, 0))), some (.inl a1), some (.inl a2), some (.inl x1), some (.inl x3)]) (h' := h) 3 (fun _ _ => rfl) (eRp_refuse (by omega) hx15) ?_
      have hz := Option.some.inj HF
      subst hz
      exact q_rtn 1 (fun _ _ => rfl)
  · rw [if_neg c19] at HF
    obtain ⟨x17, hx18, HF⟩ := q_bind HF
    refine q_cll (m' := 46) (av := [.inr (.inr (24, 6, 0)), .inl x1]) (st' := []) (pc' := 16) (loc' := [some (.inr (.inr (24, 6, 0))), some (.inl a1), some (.inl a2), some (.inl x1), none]) (h' := h) 3 (fun _ _ => rfl) (eRp_refuse (by omega) hx18) ?_
    have hz := Option.some.inj HF
    subst hz
    exact q_rtn 1 (fun _ _ => rfl)
def Rp_prune (a1 : Int32) (h : q_H) : Option (Int32 × q_H) :=
  (Rp_isPage a1 h).bind fun x1 => if x1 = 0 then ((Rp_refuse (2 : Int32) h).bind fun x3 => some ((x3.1, x3.2))) else ((St_prunePage 0 a1 h).bind fun x5 => (Rp_answer x5.1 x5.2).bind fun x7 => some ((x7.1, x7.2)))
set_option maxRecDepth 100000 in
set_option maxHeartbeats 4000000 in
theorem eRp_prune {d : Nat} (hd : 5 ≤ d) {a1 : Int32} {h : q_H} {r : (Int32 × q_H)} (HF : Rp_prune a1 h = some r) : q_T d 28 [.inr (.inr (24, 6, 0)), .inl a1] h (some (.inl r.1), r.2) := by
  obtain ⟨d, rfl⟩ : ∃ d', d = d' + 1 := ⟨d - 1, by omega⟩
  refine q_ent q_K28 rfl rfl rfl ?_
  unfold Rp_prune at HF
  obtain ⟨x1, hx2, HF⟩ := q_bind HF
  refine q_cll (m' := 56) (av := [.inl a1]) (st' := []) (pc' := 4) (loc' := [some (.inr (.inr (24, 6, 0))), some (.inl a1)]) (h' := h) 2 (fun _ _ => rfl) (eRp_isPage (by omega) hx2) ?_
  refine q_br (P := x1 = 0) (pcT := 22) (pcF := 7) (loc' := [some (.inr (.inr (24, 6, 0))), some (.inl a1)]) (stk' := []) (h' := h) 1 (fun _ _ => rfl) (fun c9 => ?_) (fun c9 => ?_)
  · rw [if_pos c9] at HF
    obtain ⟨x3, hx4, HF⟩ := q_bind HF
    refine q_cll (m' := 46) (av := [.inr (.inr (24, 6, 0)), .inl (2 : Int32)]) (st' := []) (pc' := 27) (loc' := [some (.inr (.inr (24, 6, 0))), some (.inl a1)]) (h' := h) 3 (fun _ _ => rfl) (eRp_refuse (by omega) hx4) ?_
    have hz := Option.some.inj HF
    subst hz
    exact q_rtn 1 (fun _ _ => rfl)
  · rw [if_neg c9] at HF
    obtain ⟨x5, hx6, HF⟩ := q_bind HF
    refine q_cll (m' := 164) (av := [.inr (.inr (0, 0, 0)), .inl a1]) (st' := [.inr (.inr (24, 6, 0))]) (pc' := 16) (loc' := [some (.inr (.inr (24, 6, 0))), some (.inl a1)]) (h' := h) 5 (fun _ _ => rfl) (eSt_prunePage (by omega) hx6) ?_
    obtain ⟨x7, hx8, HF⟩ := q_bind HF
    refine q_cll (m' := 45) (av := [.inr (.inr (24, 6, 0)), .inl x5.1]) (st' := []) (pc' := 19) (loc' := [some (.inr (.inr (24, 6, 0))), some (.inl a1)]) (h' := x5.2) 1 (fun _ _ => rfl) (eRp_answer (by omega) hx8) ?_
    have hz := Option.some.inj HF
    subst hz
    exact q_rtn 2 (fun _ _ => rfl)
def Rp_look (a1 : Int32) (a2 : Int32) (h : q_H) : Option (Int32 × q_H) :=
  (Rp_isWithin a2 (0 : Int32) (99 : Int32) h).bind fun x1 => if ¬ x1 = 0 then ((Rp_asFree a1 h).bind fun x3 => if x3 = 0 then ((St_lookFor 0 a1 a2 h).bind fun x5 => (Rp_answer x5.1 x5.2).bind fun x7 => some ((x7.1, x7.2))) else ((Rp_refuse x3 h).bind fun x9 => some ((x9.1, x9.2)))) else ((Rp_refuse (1 : Int32) h).bind fun x12 => some ((x12.1, x12.2)))
set_option maxRecDepth 100000 in
set_option maxHeartbeats 4000000 in
theorem eRp_look {d : Nat} (hd : 5 ≤ d) {a1 : Int32} {a2 : Int32} {h : q_H} {r : (Int32 × q_H)} (HF : Rp_look a1 a2 h = some r) : q_T d 30 [.inr (.inr (24, 6, 0)), .inl a1, .inl a2] h (some (.inl r.1), r.2) := by
  obtain ⟨d, rfl⟩ : ∃ d', d = d' + 1 := ⟨d - 1, by omega⟩
  refine q_ent q_K30 rfl rfl rfl ?_
  unfold Rp_look at HF
  obtain ⟨x1, hx2, HF⟩ := q_bind HF
  refine q_cll (m' := 55) (av := [.inl a2, .inl (0 : Int32), .inl (99 : Int32)]) (st' := []) (pc' := 7) (loc' := [some (.inr (.inr (24, 6, 0))), some (.inl a1), some (.inl a2), none]) (h' := h) 4 (fun _ _ => rfl) (eRp_isWithin (by omega) hx2) ?_
  refine q_br (P := ¬ x1 = 0) (pcT := 16) (pcF := 10) (loc' := [some (.inr (.inr (24, 6, 0))), some (.inl a1), some (.inl a2), none]) (stk' := []) (h' := h) 1 (fun _ _ => rfl) (fun c14 => ?_) (fun c14 => ?_)
  · rw [if_pos c14] at HF
    obtain ⟨x3, hx4, HF⟩ := q_bind HF
    refine q_cll (m' := 48) (av := [.inr (.inr (24, 6, 0)), .inl a1]) (st' := []) (pc' := 21) (loc' := [some (.inr (.inr (24, 6, 0))), some (.inl a1), some (.inl a2), none]) (h' := h) 3 (fun _ _ => rfl) (eRp_asFree (by omega) hx4) ?_
    refine q_br (P := x3 = 0) (pcT := 32) (pcF := 26) (loc' := [some (.inr (.inr (24, 6, 0))), some (.inl a1), some (.inl a2), some (.inl x3)]) (stk' := []) (h' := h) 3 (fun _ _ => rfl) (fun c11 => ?_) (fun c11 => ?_)
    · rw [if_pos c11] at HF
      obtain ⟨x5, hx6, HF⟩ := q_bind HF
      refine q_cll (m' := 173) (av := [.inr (.inr (0, 0, 0)), .inl a1, .inl a2]) (st' := [.inr (.inr (24, 6, 0))]) (pc' := 42) (loc' := [some (.inr (.inr (24, 6, 0))), some (.inl a1), some (.inl a2), some (.inl x3)]) (h' := h) 6 (fun _ _ => rfl) (eSt_lookFor (by omega) hx6) ?_
      obtain ⟨x7, hx8, HF⟩ := q_bind HF
      refine q_cll (m' := 45) (av := [.inr (.inr (24, 6, 0)), .inl x5.1]) (st' := []) (pc' := 45) (loc' := [some (.inr (.inr (24, 6, 0))), some (.inl a1), some (.inl a2), some (.inl x3)]) (h' := x5.2) 1 (fun _ _ => rfl) (eRp_answer (by omega) hx8) ?_
      have hz := Option.some.inj HF
      subst hz
      exact q_rtn 1 (fun _ _ => rfl)
    · rw [if_neg c11] at HF
      obtain ⟨x9, hx10, HF⟩ := q_bind HF
      refine q_cll (m' := 46) (av := [.inr (.inr (24, 6, 0)), .inl x3]) (st' := []) (pc' := 31) (loc' := [some (.inr (.inr (24, 6, 0))), some (.inl a1), some (.inl a2), some (.inl x3)]) (h' := h) 3 (fun _ _ => rfl) (eRp_refuse (by omega) hx10) ?_
      have hz := Option.some.inj HF
      subst hz
      exact q_rtn 1 (fun _ _ => rfl)
  · rw [if_neg c14] at HF
    obtain ⟨x12, hx13, HF⟩ := q_bind HF
    refine q_cll (m' := 46) (av := [.inr (.inr (24, 6, 0)), .inl (1 : Int32)]) (st' := []) (pc' := 15) (loc' := [some (.inr (.inr (24, 6, 0))), some (.inl a1), some (.inl a2), none]) (h' := h) 3 (fun _ _ => rfl) (eRp_refuse (by omega) hx13) ?_
    have hz := Option.some.inj HF
    subst hz
    exact q_rtn 1 (fun _ _ => rfl)
def Rp_mark  (h : q_H) : Option (Int32 × q_H) :=
  if (h.1 24 5 6 0) < 0 then ((Rp_refuse (3 : Int32) h).bind fun x1 => some ((x1.1, x1.2))) else (if (3 : Int32) ≤ (h.1 24 5 6 0) then ((Rp_refuse (3 : Int32) h).bind fun x3 => some ((x3.1, x3.2))) else (bif q_in (h.1 24 5 6 0) 3 then (bif q_in (h.1 24 5 6 0) 3 then ((St_copyFrom (3 + (h.1 24 5 6 0).toNatClampNeg) 0 h).bind fun x5 => (Rp_answer ((q_si x5 24 5 6 0 ((x5.1 24 5 6 0) + (1 : Int32))).1 24 5 6 0) (q_si x5 24 5 6 0 ((x5.1 24 5 6 0) + (1 : Int32)))).bind fun x7 => some ((x7.1, x7.2))) else none) else none))
set_option maxRecDepth 100000 in
set_option maxHeartbeats 4000000 in
theorem eRp_mark {d : Nat} (hd : 5 ≤ d)  {h : q_H} {r : (Int32 × q_H)} (HF : Rp_mark  h = some r) : q_T d 34 [.inr (.inr (24, 6, 0))] h (some (.inl r.1), r.2) := by
  obtain ⟨d, rfl⟩ : ∃ d', d = d' + 1 := ⟨d - 1, by omega⟩
  refine q_ent q_K34 rfl rfl rfl ?_
  unfold Rp_mark at HF
  refine q_br (P := (h.1 24 5 6 0) < 0) (pcT := 31) (pcF := 7) (loc' := [some (.inr (.inr (24, 6, 0)))]) (stk' := []) (h' := h) 3 (fun _ _ => rfl) (fun c12 => ?_) (fun c12 => ?_)
  · rw [if_pos c12] at HF
    obtain ⟨x1, hx2, HF⟩ := q_bind HF
    refine q_cll (m' := 46) (av := [.inr (.inr (24, 6, 0)), .inl (3 : Int32)]) (st' := []) (pc' := 36) (loc' := [some (.inr (.inr (24, 6, 0)))]) (h' := h) 3 (fun _ _ => rfl) (eRp_refuse (by omega) hx2) ?_
    have hz := Option.some.inj HF
    subst hz
    exact q_rtn 1 (fun _ _ => rfl)
  · rw [if_neg c12] at HF
    refine q_br (P := (3 : Int32) ≤ (h.1 24 5 6 0)) (pcT := 31) (pcF := 19) (loc' := [some (.inr (.inr (24, 6, 0)))]) (stk' := []) (h' := h) 6 (fun _ _ => rfl) (fun c11 => ?_) (fun c11 => ?_)
    · rw [if_pos c11] at HF
      obtain ⟨x3, hx4, HF⟩ := q_bind HF
      refine q_cll (m' := 46) (av := [.inr (.inr (24, 6, 0)), .inl (3 : Int32)]) (st' := []) (pc' := 36) (loc' := [some (.inr (.inr (24, 6, 0)))]) (h' := h) 3 (fun _ _ => rfl) (eRp_refuse (by omega) hx4) ?_
      have hz := Option.some.inj HF
      subst hz
      exact q_rtn 1 (fun _ _ => rfl)
    · rw [if_neg c11] at HF
      obtain ⟨g10, HF⟩ := q_gF HF
      refine q_gd (pc' := 28) (loc' := [some (.inr (.inr (24, 6, 0)))]) (stk' := [.inr (.inr (0, (3 + (h.1 24 5 6 0).toNatClampNeg), 0))]) (h' := h) 5 (fun _ _ => rfl) g10 ?_
      obtain ⟨g9, HF⟩ := q_gF HF
      refine q_gd (pc' := 46) (loc' := [some (.inr (.inr (24, 6, 0)))]) (stk' := [.inr (.inr (0, (3 + (h.1 24 5 6 0).toNatClampNeg), 0))]) (h' := h) 6 (fun _ _ => rfl) g9 ?_
      obtain ⟨x5, hx6, HF⟩ := q_bind HF
      refine q_cll (m' := 142) (av := [.inr (.inr (0, (3 + (h.1 24 5 6 0).toNatClampNeg), 0)), .inr (.inr (0, 0, 0))]) (st' := []) (pc' := 53) (loc' := [some (.inr (.inr (24, 6, 0)))]) (h' := h) 3 (fun _ _ => rfl) (eSt_copyFrom (by omega) hx6) ?_
      obtain ⟨x7, hx8, HF⟩ := q_bind HF
      refine q_cll (m' := 45) (av := [.inr (.inr (24, 6, 0)), .inl ((q_si x5 24 5 6 0 ((x5.1 24 5 6 0) + (1 : Int32))).1 24 5 6 0)]) (st' := []) (pc' := 71) (loc' := [some (.inr (.inr (24, 6, 0)))]) (h' := (q_si x5 24 5 6 0 ((x5.1 24 5 6 0) + (1 : Int32)))) 10 (fun _ _ => rfl) (eRp_answer (by omega) hx8) ?_
      have hz := Option.some.inj HF
      subst hz
      exact q_rtn 1 (fun _ _ => rfl)
def Rp_back  (h : q_H) : Option (Int32 × q_H) :=
  if ((h.1 24 5 6 0) - (1 : Int32)) < 0 then ((Rp_refuse (5 : Int32) h).bind fun x1 => some ((x1.1, x1.2))) else (if (3 : Int32) ≤ ((h.1 24 5 6 0) - (1 : Int32)) then ((Rp_refuse (5 : Int32) h).bind fun x3 => some ((x3.1, x3.2))) else (bif q_in ((h.1 24 5 6 0) - (1 : Int32)) 3 then (bif q_in ((h.1 24 5 6 0) - (1 : Int32)) 3 then ((St_copyFrom 0 (3 + ((h.1 24 5 6 0) - (1 : Int32)).toNatClampNeg) h).bind fun x5 => (Rp_answer ((q_si x5 24 5 6 0 ((h.1 24 5 6 0) - (1 : Int32))).1 24 5 6 0) (q_si x5 24 5 6 0 ((h.1 24 5 6 0) - (1 : Int32)))).bind fun x7 => some ((x7.1, x7.2))) else none) else none))
set_option maxRecDepth 100000 in
set_option maxHeartbeats 4000000 in
theorem eRp_back {d : Nat} (hd : 5 ≤ d)  {h : q_H} {r : (Int32 × q_H)} (HF : Rp_back  h = some r) : q_T d 35 [.inr (.inr (24, 6, 0))] h (some (.inl r.1), r.2) := by
  obtain ⟨d, rfl⟩ : ∃ d', d = d' + 1 := ⟨d - 1, by omega⟩
  refine q_ent q_K35 rfl rfl rfl ?_
  unfold Rp_back at HF
  refine q_br (P := ((h.1 24 5 6 0) - (1 : Int32)) < 0) (pcT := 29) (pcF := 11) (loc' := [some (.inr (.inr (24, 6, 0))), some (.inl ((h.1 24 5 6 0) - (1 : Int32)))]) (stk' := []) (h' := h) 7 (fun _ _ => rfl) (fun c12 => ?_) (fun c12 => ?_)
  · rw [if_pos c12] at HF
    obtain ⟨x1, hx2, HF⟩ := q_bind HF
    refine q_cll (m' := 46) (av := [.inr (.inr (24, 6, 0)), .inl (5 : Int32)]) (st' := []) (pc' := 34) (loc' := [some (.inr (.inr (24, 6, 0))), some (.inl ((h.1 24 5 6 0) - (1 : Int32)))]) (h' := h) 3 (fun _ _ => rfl) (eRp_refuse (by omega) hx2) ?_
    have hz := Option.some.inj HF
    subst hz
    exact q_rtn 1 (fun _ _ => rfl)
  · rw [if_neg c12] at HF
    refine q_br (P := (3 : Int32) ≤ ((h.1 24 5 6 0) - (1 : Int32))) (pcT := 29) (pcF := 20) (loc' := [some (.inr (.inr (24, 6, 0))), some (.inl ((h.1 24 5 6 0) - (1 : Int32)))]) (stk' := []) (h' := h) 5 (fun _ _ => rfl) (fun c11 => ?_) (fun c11 => ?_)
    · rw [if_pos c11] at HF
      obtain ⟨x3, hx4, HF⟩ := q_bind HF
      refine q_cll (m' := 46) (av := [.inr (.inr (24, 6, 0)), .inl (5 : Int32)]) (st' := []) (pc' := 34) (loc' := [some (.inr (.inr (24, 6, 0))), some (.inl ((h.1 24 5 6 0) - (1 : Int32)))]) (h' := h) 3 (fun _ _ => rfl) (eRp_refuse (by omega) hx4) ?_
      have hz := Option.some.inj HF
      subst hz
      exact q_rtn 1 (fun _ _ => rfl)
    · rw [if_neg c11] at HF
      obtain ⟨g10, HF⟩ := q_gF HF
      refine q_gd (pc' := 26) (loc' := [some (.inr (.inr (24, 6, 0))), some (.inl ((h.1 24 5 6 0) - (1 : Int32)))]) (stk' := [.inr (.inr (0, (3 + ((h.1 24 5 6 0) - (1 : Int32)).toNatClampNeg), 0))]) (h' := h) 4 (fun _ _ => rfl) g10 ?_
      obtain ⟨g9, HF⟩ := q_gF HF
      refine q_gd (pc' := 45) (loc' := [some (.inr (.inr (24, 6, 0))), some (.inl ((h.1 24 5 6 0) - (1 : Int32)))]) (stk' := [.inr (.inr (0, (3 + ((h.1 24 5 6 0) - (1 : Int32)).toNatClampNeg), 0)), .inr (.inr (0, 0, 0))]) (h' := h) 7 (fun _ _ => rfl) g9 ?_
      obtain ⟨x5, hx6, HF⟩ := q_bind HF
      refine q_cll (m' := 142) (av := [.inr (.inr (0, 0, 0)), .inr (.inr (0, (3 + ((h.1 24 5 6 0) - (1 : Int32)).toNatClampNeg), 0))]) (st' := []) (pc' := 48) (loc' := [some (.inr (.inr (24, 6, 0))), some (.inl ((h.1 24 5 6 0) - (1 : Int32)))]) (h' := h) 1 (fun _ _ => rfl) (eSt_copyFrom (by omega) hx6) ?_
      obtain ⟨x7, hx8, HF⟩ := q_bind HF
      refine q_cll (m' := 45) (av := [.inr (.inr (24, 6, 0)), .inl ((q_si x5 24 5 6 0 ((h.1 24 5 6 0) - (1 : Int32))).1 24 5 6 0)]) (st' := []) (pc' := 61) (loc' := [some (.inr (.inr (24, 6, 0))), some (.inl ((h.1 24 5 6 0) - (1 : Int32)))]) (h' := (q_si x5 24 5 6 0 ((h.1 24 5 6 0) - (1 : Int32)))) 7 (fun _ _ => rfl) (eRp_answer (by omega) hx8) ?_
      have hz := Option.some.inj HF
      subst hz
      exact q_rtn 1 (fun _ _ => rfl)
def Rp_ring (a1 : Int32) (a2 : Int32) (h : q_H) : Option (Int32 × q_H) :=
  (Rp_asReader a1 a2 h).bind fun x1 => if x1 = 0 then ((Rp_openEnder a1 a2 h).bind fun x3 => if ¬ x3 = (-1 : Int32) then ((Tn_ringLength 0 a1 x3 h).bind fun x5 => (Rp_answer x5 h).bind fun x7 => some ((x7.1, x7.2))) else ((Rp_refuse (5 : Int32) h).bind fun x9 => some ((x9.1, x9.2)))) else ((Rp_refuse x1 h).bind fun x12 => some ((x12.1, x12.2)))
set_option maxRecDepth 100000 in
set_option maxHeartbeats 4000000 in
theorem eRp_ring {d : Nat} (hd : 5 ≤ d) {a1 : Int32} {a2 : Int32} {h : q_H} {r : (Int32 × q_H)} (HF : Rp_ring a1 a2 h = some r) : q_T d 37 [.inr (.inr (24, 6, 0)), .inl a1, .inl a2] h (some (.inl r.1), r.2) := by
  obtain ⟨d, rfl⟩ : ∃ d', d = d' + 1 := ⟨d - 1, by omega⟩
  refine q_ent q_K37 rfl rfl rfl ?_
  unfold Rp_ring at HF
  obtain ⟨x1, hx2, HF⟩ := q_bind HF
  refine q_cll (m' := 49) (av := [.inr (.inr (24, 6, 0)), .inl a1, .inl a2]) (st' := []) (pc' := 6) (loc' := [some (.inr (.inr (24, 6, 0))), some (.inl a1), some (.inl a2), none, none]) (h' := h) 4 (fun _ _ => rfl) (eRp_asReader (by omega) hx2) ?_
  refine q_br (P := x1 = 0) (pcT := 17) (pcF := 11) (loc' := [some (.inr (.inr (24, 6, 0))), some (.inl a1), some (.inl a2), some (.inl x1), none]) (stk' := []) (h' := h) 3 (fun _ _ => rfl) (fun c14 => ?_) (fun c14 => ?_)
  · rw [if_pos c14] at HF
    obtain ⟨x3, hx4, HF⟩ := q_bind HF
    refine q_cll (m' := 51) (av := [.inr (.inr (24, 6, 0)), .inl a1, .inl a2]) (st' := []) (pc' := 23) (loc' := [some (.inr (.inr (24, 6, 0))), some (.inl a1), some (.inl a2), some (.inl x1), none]) (h' := h) 4 (fun _ _ => rfl) (eRp_openEnder (by omega) hx4) ?_
    refine q_br (P := ¬ x3 = (-1 : Int32)) (pcT := 39) (pcF := 31) (loc' := [some (.inr (.inr (24, 6, 0))), some (.inl a1), some (.inl a2), some (.inl x1), some (.inl x3)]) (stk' := []) (h' := h) 4 (fun _ _ => rfl) (fun c11 => ?_) (fun c11 => ?_)
    · rw [if_pos c11] at HF
      obtain ⟨x5, hx6, HF⟩ := q_bind HF
      refine q_cll (m' := 120) (av := [.inr (.inr (6, 0, 0)), .inl a1, .inl x3]) (st' := [.inr (.inr (24, 6, 0))]) (pc' := 53) (loc' := [some (.inr (.inr (24, 6, 0))), some (.inl a1), some (.inl a2), some (.inl x1), some (.inl x3)]) (h' := h) 7 (fun _ _ => rfl) (eTn_ringLength (by omega) hx6) ?_
      obtain ⟨x7, hx8, HF⟩ := q_bind HF
      refine q_cll (m' := 45) (av := [.inr (.inr (24, 6, 0)), .inl x5]) (st' := []) (pc' := 56) (loc' := [some (.inr (.inr (24, 6, 0))), some (.inl a1), some (.inl a2), some (.inl x1), some (.inl x3)]) (h' := h) 1 (fun _ _ => rfl) (eRp_answer (by omega) hx8) ?_
      have hz := Option.some.inj HF
      subst hz
      exact q_rtn 1 (fun _ _ => rfl)
    · rw [if_neg c11] at HF
      obtain ⟨x9, hx10, HF⟩ := q_bind HF
      refine q_cll (m' := 46) (av := [.inr (.inr (24, 6, 0)), .inl (5 : Int32)]) (st' := []) (pc' := 36) (loc' := [some (.inr (.inr (24, 6, 0))), some (.inl a1), some (.inl a2), some (.inl x1), some (.inl x3)]) (h' := h) 3 (fun _ _ => rfl) (eRp_refuse (by omega) hx10) ?_
      have hz := Option.some.inj HF
      subst hz
      exact q_rtn 2 (fun _ _ => rfl)
  · rw [if_neg c14] at HF
    obtain ⟨x12, hx13, HF⟩ := q_bind HF
    refine q_cll (m' := 46) (av := [.inr (.inr (24, 6, 0)), .inl x1]) (st' := []) (pc' := 16) (loc' := [some (.inr (.inr (24, 6, 0))), some (.inl a1), some (.inl a2), some (.inl x1), none]) (h' := h) 3 (fun _ _ => rfl) (eRp_refuse (by omega) hx13) ?_
    have hz := Option.some.inj HF
    subst hz
    exact q_rtn 1 (fun _ _ => rfl)
def Rp_blocks (a1 : Int32) (h : q_H) : Option (Int32 × q_H) :=
  (Rp_asOpen a1 h).bind fun x1 => if ¬ x1 = 0 then ((Rp_refuse x1 h).bind fun x3 => some ((x3.1, x3.2))) else ((Tn_howManyWaitFor 0 a1 h).bind fun x5 => (Rp_answer x5 h).bind fun x7 => some ((x7.1, x7.2)))
set_option maxRecDepth 100000 in
set_option maxHeartbeats 4000000 in
theorem eRp_blocks {d : Nat} (hd : 5 ≤ d) {a1 : Int32} {h : q_H} {r : (Int32 × q_H)} (HF : Rp_blocks a1 h = some r) : q_T d 38 [.inr (.inr (24, 6, 0)), .inl a1] h (some (.inl r.1), r.2) := by
  obtain ⟨d, rfl⟩ : ∃ d', d = d' + 1 := ⟨d - 1, by omega⟩
  refine q_ent q_K38 rfl rfl rfl ?_
  unfold Rp_blocks at HF
  obtain ⟨x1, hx2, HF⟩ := q_bind HF
  refine q_cll (m' := 47) (av := [.inr (.inr (24, 6, 0)), .inl a1]) (st' := []) (pc' := 5) (loc' := [some (.inr (.inr (24, 6, 0))), some (.inl a1), none]) (h' := h) 3 (fun _ _ => rfl) (eRp_asOpen (by omega) hx2) ?_
  refine q_br (P := ¬ x1 = 0) (pcT := 28) (pcF := 10) (loc' := [some (.inr (.inr (24, 6, 0))), some (.inl a1), some (.inl x1)]) (stk' := []) (h' := h) 3 (fun _ _ => rfl) (fun c9 => ?_) (fun c9 => ?_)
  · rw [if_pos c9] at HF
    obtain ⟨x3, hx4, HF⟩ := q_bind HF
    refine q_cll (m' := 46) (av := [.inr (.inr (24, 6, 0)), .inl x1]) (st' := []) (pc' := 33) (loc' := [some (.inr (.inr (24, 6, 0))), some (.inl a1), some (.inl x1)]) (h' := h) 3 (fun _ _ => rfl) (eRp_refuse (by omega) hx4) ?_
    have hz := Option.some.inj HF
    subst hz
    exact q_rtn 1 (fun _ _ => rfl)
  · rw [if_neg c9] at HF
    obtain ⟨x5, hx6, HF⟩ := q_bind HF
    refine q_cll (m' := 121) (av := [.inr (.inr (6, 0, 0)), .inl a1]) (st' := [.inr (.inr (24, 6, 0))]) (pc' := 22) (loc' := [some (.inr (.inr (24, 6, 0))), some (.inl a1), some (.inl x1)]) (h' := h) 6 (fun _ _ => rfl) (eTn_howManyWaitFor (by omega) hx6) ?_
    obtain ⟨x7, hx8, HF⟩ := q_bind HF
    refine q_cll (m' := 45) (av := [.inr (.inr (24, 6, 0)), .inl x5]) (st' := []) (pc' := 25) (loc' := [some (.inr (.inr (24, 6, 0))), some (.inl a1), some (.inl x1)]) (h' := h) 1 (fun _ _ => rfl) (eRp_answer (by omega) hx8) ?_
    have hz := Option.some.inj HF
    subst hz
    exact q_rtn 2 (fun _ _ => rfl)
def Rp_holds (a1 : Int32) (h : q_H) : Option (Int32 × q_H) :=
  (Rp_asOpen a1 h).bind fun x1 => if x1 = 0 then ((St_copyFrom 1 0 h).bind fun x3 => (Tn_end 1 a1 (1 : Int32) x3).bind fun x5 => (St_deadUnits 1 x5).bind fun x7 => (St_deadUnits 0 x5).bind fun x9 => (Rp_answer (x7 - x9) x5).bind fun x11 => some ((x11.1, x11.2))) else ((Rp_refuse x1 h).bind fun x13 => some ((x13.1, x13.2)))
set_option maxRecDepth 100000 in
set_option maxHeartbeats 4000000 in
theorem eRp_holds {d : Nat} (hd : 5 ≤ d) {a1 : Int32} {h : q_H} {r : (Int32 × q_H)} (HF : Rp_holds a1 h = some r) : q_T d 40 [.inr (.inr (24, 6, 0)), .inl a1] h (some (.inl r.1), r.2) := by
  obtain ⟨d, rfl⟩ : ∃ d', d = d' + 1 := ⟨d - 1, by omega⟩
  refine q_ent q_K40 rfl rfl rfl ?_
  unfold Rp_holds at HF
  obtain ⟨x1, hx2, HF⟩ := q_bind HF
  refine q_cll (m' := 47) (av := [.inr (.inr (24, 6, 0)), .inl a1]) (st' := []) (pc' := 5) (loc' := [some (.inr (.inr (24, 6, 0))), some (.inl a1), none]) (h' := h) 3 (fun _ _ => rfl) (eRp_asOpen (by omega) hx2) ?_
  refine q_br (P := x1 = 0) (pcT := 16) (pcF := 10) (loc' := [some (.inr (.inr (24, 6, 0))), some (.inl a1), some (.inl x1)]) (stk' := []) (h' := h) 3 (fun _ _ => rfl) (fun c15 => ?_) (fun c15 => ?_)
  · rw [if_pos c15] at HF
    obtain ⟨x3, hx4, HF⟩ := q_bind HF
    refine q_cll (m' := 142) (av := [.inr (.inr (0, 1, 0)), .inr (.inr (0, 0, 0))]) (st' := []) (pc' := 27) (loc' := [some (.inr (.inr (24, 6, 0))), some (.inl a1), some (.inl x1)]) (h' := h) 5 (fun _ _ => rfl) (eSt_copyFrom (by omega) hx4) ?_
    obtain ⟨x5, hx6, HF⟩ := q_bind HF
    refine q_cll (m' := 113) (av := [.inr (.inr (6, 1, 0)), .inl a1, .inl (1 : Int32)]) (st' := []) (pc' := 39) (loc' := [some (.inr (.inr (24, 6, 0))), some (.inl a1), some (.inl x1)]) (h' := x3) 6 (fun _ _ => rfl) (eTn_end (by omega) hx6) ?_
    obtain ⟨x7, hx8, HF⟩ := q_bind HF
    refine q_cll (m' := 154) (av := [.inr (.inr (0, 1, 0))]) (st' := [.inr (.inr (24, 6, 0))]) (pc' := 47) (loc' := [some (.inr (.inr (24, 6, 0))), some (.inl a1), some (.inl x1)]) (h' := x5) 4 (fun _ _ => rfl) (eSt_deadUnits (by omega) hx8) ?_
    obtain ⟨x9, hx10, HF⟩ := q_bind HF
    refine q_cll (m' := 154) (av := [.inr (.inr (0, 0, 0))]) (st' := [.inl x7, .inr (.inr (24, 6, 0))]) (pc' := 54) (loc' := [some (.inr (.inr (24, 6, 0))), some (.inl a1), some (.inl x1)]) (h' := x5) 3 (fun _ _ => rfl) (eSt_deadUnits (by omega) hx10) ?_
    obtain ⟨x11, hx12, HF⟩ := q_bind HF
    refine q_cll (m' := 45) (av := [.inr (.inr (24, 6, 0)), .inl (x7 - x9)]) (st' := []) (pc' := 58) (loc' := [some (.inr (.inr (24, 6, 0))), some (.inl a1), some (.inl x1)]) (h' := x5) 2 (fun _ _ => rfl) (eRp_answer (by omega) hx12) ?_
    have hz := Option.some.inj HF
    subst hz
    exact q_rtn 1 (fun _ _ => rfl)
  · rw [if_neg c15] at HF
    obtain ⟨x13, hx14, HF⟩ := q_bind HF
    refine q_cll (m' := 46) (av := [.inr (.inr (24, 6, 0)), .inl x1]) (st' := []) (pc' := 15) (loc' := [some (.inr (.inr (24, 6, 0))), some (.inl a1), some (.inl x1)]) (h' := h) 3 (fun _ _ => rfl) (eRp_refuse (by omega) hx14) ?_
    have hz := Option.some.inj HF
    subst hz
    exact q_rtn 1 (fun _ _ => rfl)
def Rp_best  (h : q_H) : Option (Int32 × q_H) :=
  (St_copyFrom 1 0 h).bind fun x1 => (q_lp (fun s3 : Int32 × Int32 × Int32 × q_H => (if (6 : Int32) ≤ s3.2.2.1 then (some (.inr ((s3.1, s3.2.2.2)))) else ((St_prunePage 1 s3.2.2.1 s3.2.2.2).bind fun x11 => (Pg_freeOf 1 s3.2.2.1 x11.2).bind fun x13 => (Pg_freeOf 0 s3.2.2.1 x11.2).bind fun x15 => Option.bind (α := Int32 × Int32) (if (x13 - x15) ≤ s3.2.1 then (some ((s3.1, s3.2.1))) else (some ((s3.2.2.1, (x13 - x15))))) (fun p22 => some (.inl (p22.1, p22.2, (s3.2.2.1 + (1 : Int32)), x11.2)))) : Option ((Int32 × Int32 × Int32 × q_H) ⊕ (Int32 × q_H)))) q_fu (((-1 : Int32), (0 : Int32), (0 : Int32), x1) : Int32 × Int32 × Int32 × q_H)).bind fun p25 => if ¬ p25.1 = (-1 : Int32) then ((Rp_answer p25.1 p25.2).bind fun x26 => some ((x26.1, x26.2))) else ((Rp_refuse (5 : Int32) p25.2).bind fun x28 => some ((x28.1, x28.2)))
set_option maxRecDepth 100000 in
set_option maxHeartbeats 4000000 in
theorem eRp_best {d : Nat} (hd : 5 ≤ d)  {h : q_H} {r : (Int32 × q_H)} (HF : Rp_best  h = some r) : q_T d 42 [.inr (.inr (24, 6, 0))] h (some (.inl r.1), r.2) := by
  obtain ⟨d, rfl⟩ : ∃ d', d = d' + 1 := ⟨d - 1, by omega⟩
  refine q_ent q_K42 rfl rfl rfl ?_
  unfold Rp_best at HF
  obtain ⟨x1, hx2, HF⟩ := q_bind HF
  refine q_cll (m' := 142) (av := [.inr (.inr (0, 1, 0)), .inr (.inr (0, 0, 0))]) (st' := []) (pc' := 11) (loc' := [some (.inr (.inr (24, 6, 0))), none, none, none, none]) (h' := h) 5 (fun _ _ => rfl) (eSt_copyFrom (by omega) hx2) ?_
  refine q_blk (pc' := 17) (loc' := [some (.inr (.inr (24, 6, 0))), some (.inl (-1 : Int32)), some (.inl (0 : Int32)), some (.inl (0 : Int32)), none]) (stk' := []) (h' := x1) 6 (fun _ _ => rfl) ?_
  obtain ⟨r8, hl9, HK6⟩ := q_bind HF
  have hP7 : ∀ p25 : Int32 × q_H, (if ¬ p25.1 = (-1 : Int32) then ((Rp_answer p25.1 p25.2).bind fun x26 => some ((x26.1, x26.2))) else ((Rp_refuse (5 : Int32) p25.2).bind fun x28 => some ((x28.1, x28.2))) : Option (Int32 × q_H)) = some r → q_E d q_K42 74 [some (.inr (.inr (24, 6, 0))), some (.inl p25.1), none, none, none] [] p25.2 (some (.inl r.1), r.2) := by
    intro p25 HF
    refine q_br (P := ¬ p25.1 = (-1 : Int32)) (pcT := 87) (pcF := 79) (loc' := [some (.inr (.inr (24, 6, 0))), some (.inl p25.1), none, none, none]) (stk' := []) (h' := p25.2) 3 (fun _ _ => rfl) (fun c30 => ?_) (fun c30 => ?_)
    · rw [if_pos c30] at HF
      obtain ⟨x26, hx27, HF⟩ := q_bind HF
      refine q_cll (m' := 45) (av := [.inr (.inr (24, 6, 0)), .inl p25.1]) (st' := []) (pc' := 92) (loc' := [some (.inr (.inr (24, 6, 0))), some (.inl p25.1), none, none, none]) (h' := p25.2) 3 (fun _ _ => rfl) (eRp_answer (by omega) hx27) ?_
      have hz := Option.some.inj HF
      subst hz
      exact q_rtn 1 (fun _ _ => rfl)
    · rw [if_neg c30] at HF
      obtain ⟨x28, hx29, HF⟩ := q_bind HF
      refine q_cll (m' := 46) (av := [.inr (.inr (24, 6, 0)), .inl (5 : Int32)]) (st' := []) (pc' := 84) (loc' := [some (.inr (.inr (24, 6, 0))), some (.inl p25.1), none, none, none]) (h' := p25.2) 3 (fun _ _ => rfl) (eRp_refuse (by omega) hx29) ?_
      have hz := Option.some.inj HF
      subst hz
      exact q_rtn 2 (fun _ _ => rfl)
  refine q_lpE (E := fun s3 => q_E d q_K42 17 [some (.inr (.inr (24, 6, 0))), some (.inl s3.1), some (.inl s3.2.1), some (.inl s3.2.2.1), none] [] s3.2.2.2 (some (.inl r.1), r.2)) r8 (fun s3 z10 HF H14 H25 => ?_) _ _ hl9
  refine q_br (P := (6 : Int32) ≤ s3.2.2.1) (pcT := 74) (pcF := 23) (loc' := [some (.inr (.inr (24, 6, 0))), some (.inl s3.1), some (.inl s3.2.1), some (.inl s3.2.2.1), none]) (stk' := []) (h' := s3.2.2.2) 3 (fun _ _ => rfl) (fun c24 => ?_) (fun c24 => ?_)
  · rw [if_pos c24] at HF
    have hz := Option.some.inj HF
    subst hz
    rw [← H25 _ rfl] at HK6
    exact q_wk (loc := [some (.inr (.inr (24, 6, 0))), some (.inl s3.1), none, none, none]) ⟨Or.inl rfl, ⟨Or.inl rfl, ⟨Or.inr ⟨rfl, fun _ h => by cases h⟩, ⟨Or.inr ⟨rfl, fun _ h => by cases h⟩, ⟨Or.inl rfl, trivial⟩⟩⟩⟩⟩ (hP7 (s3.1, s3.2.2.2) HK6)
  · rw [if_neg c24] at HF
    obtain ⟨x11, hx12, HF⟩ := q_bind HF
    refine q_cll (m' := 164) (av := [.inr (.inr (0, 1, 0)), .inl s3.2.2.1]) (st' := []) (pc' := 31) (loc' := [some (.inr (.inr (24, 6, 0))), some (.inl s3.1), some (.inl s3.2.1), some (.inl s3.2.2.1), none]) (h' := s3.2.2.2) 4 (fun _ _ => rfl) (eSt_prunePage (by omega) hx12) ?_
    obtain ⟨x13, hx14, HF⟩ := q_bind HF
    refine q_cll (m' := 94) (av := [.inr (.inr (1, 1, 0)), .inl s3.2.2.1]) (st' := []) (pc' := 43) (loc' := [some (.inr (.inr (24, 6, 0))), some (.inl s3.1), some (.inl s3.2.1), some (.inl s3.2.2.1), none]) (h' := x11.2) 6 (fun _ _ => rfl) (ePg_freeOf (by omega) hx14) ?_
    obtain ⟨x15, hx16, HF⟩ := q_bind HF
    refine q_cll (m' := 94) (av := [.inr (.inr (1, 0, 0)), .inl s3.2.2.1]) (st' := [.inl x13]) (pc' := 54) (loc' := [some (.inr (.inr (24, 6, 0))), some (.inl s3.1), some (.inl s3.2.1), some (.inl s3.2.2.1), none]) (h' := x11.2) 5 (fun _ _ => rfl) (ePg_freeOf (by omega) hx16) ?_
    obtain ⟨z17, HA18, HK19⟩ := q_bind HF
    have hP20 : ∀ p22 : Int32 × Int32, (some (.inl (p22.1, p22.2, (s3.2.2.1 + (1 : Int32)), x11.2)) : Option ((Int32 × Int32 × Int32 × q_H) ⊕ (Int32 × q_H))) = some z10 → q_E d q_K42 68 [some (.inr (.inr (24, 6, 0))), some (.inl p22.1), some (.inl p22.2), some (.inl s3.2.2.1), some (.inl (x13 - x15))] [] x11.2 (some (.inl r.1), r.2) := by
      intro p22 HF
      refine q_blk (pc' := 17) (loc' := [some (.inr (.inr (24, 6, 0))), some (.inl p22.1), some (.inl p22.2), some (.inl (s3.2.2.1 + (1 : Int32))), some (.inl (x13 - x15))]) (stk' := []) (h' := x11.2) 2 (fun _ _ => rfl) ?_
      have hz := Option.some.inj HF
      subst hz
      exact q_wk (loc := [some (.inr (.inr (24, 6, 0))), some (.inl p22.1), some (.inl p22.2), some (.inl (s3.2.2.1 + (1 : Int32))), none]) ⟨Or.inl rfl, ⟨Or.inl rfl, ⟨Or.inl rfl, ⟨Or.inl rfl, ⟨Or.inr ⟨rfl, fun _ h => by cases h⟩, trivial⟩⟩⟩⟩⟩ (H14 (p22.1, p22.2, (s3.2.2.1 + (1 : Int32)), x11.2) rfl)
    replace HF := HA18
    refine q_br (P := (x13 - x15) ≤ s3.2.1) (pcT := 68) (pcF := 63) (loc' := [some (.inr (.inr (24, 6, 0))), some (.inl s3.1), some (.inl s3.2.1), some (.inl s3.2.2.1), some (.inl (x13 - x15))]) (stk' := []) (h' := x11.2) 5 (fun _ _ => rfl) (fun c21 => ?_) (fun c21 => ?_)
    · rw [if_pos c21] at HF
      have hz := Option.some.inj HF
      subst hz
      exact hP20 (s3.1, s3.2.1) HK19
    · rw [if_neg c21] at HF
      refine q_blk (pc' := 68) (loc' := [some (.inr (.inr (24, 6, 0))), some (.inl s3.2.2.1), some (.inl (x13 - x15)), some (.inl s3.2.2.1), some (.inl (x13 - x15))]) (stk' := []) (h' := x11.2) 4 (fun _ _ => rfl) ?_
      have hz := Option.some.inj HF
      subst hz
      exact hP20 (s3.2.2.1, (x13 - x15)) HK19
def Rp_asChanger (a1 : Int32) (a2 : Int32) (h : q_H) : Option Int32 :=
  (Rp_asReader a1 a2 h).bind fun x1 => if x1 = 0 then ((St_seenPlace 0 a1 a2 h).bind fun x3 => (Pg_at 0 x3 h).bind fun x5 => (Tn_stateOf 0 (h.1 3 7 0 x5) h).bind fun x7 => if x7 = 0 then (some ((7 : Int32))) else (if x7 = 1 then (some ((8 : Int32))) else (some ((0 : Int32))))) else (some (x1))
set_option maxRecDepth 100000 in
set_option maxHeartbeats 4000000 in
theorem eRp_asChanger {d : Nat} (hd : 5 ≤ d) {a1 : Int32} {a2 : Int32} {h : q_H} {r : Int32} (HF : Rp_asChanger a1 a2 h = some r) : q_T d 50 [.inr (.inr (24, 6, 0)), .inl a1, .inl a2] h (some (.inl r), h) := by
  obtain ⟨d, rfl⟩ : ∃ d', d = d' + 1 := ⟨d - 1, by omega⟩
  refine q_ent q_K50 rfl rfl rfl ?_
  unfold Rp_asChanger at HF
  obtain ⟨x1, hx2, HF⟩ := q_bind HF
  refine q_cll (m' := 49) (av := [.inr (.inr (24, 6, 0)), .inl a1, .inl a2]) (st' := []) (pc' := 6) (loc' := [some (.inr (.inr (24, 6, 0))), some (.inl a1), some (.inl a2), none, none]) (h' := h) 4 (fun _ _ => rfl) (eRp_asReader (by omega) hx2) ?_
  refine q_br (P := x1 = 0) (pcT := 13) (pcF := 11) (loc' := [some (.inr (.inr (24, 6, 0))), some (.inl a1), some (.inl a2), some (.inl x1), none]) (stk' := []) (h' := h) 3 (fun _ _ => rfl) (fun c11 => ?_) (fun c11 => ?_)
  · rw [if_pos c11] at HF
    obtain ⟨x3, hx4, HF⟩ := q_bind HF
    refine q_cll (m' := 156) (av := [.inr (.inr (0, 0, 0)), .inl a1, .inl a2]) (st' := [.inr (.inr (1, 0, 0))]) (pc' := 29) (loc' := [some (.inr (.inr (24, 6, 0))), some (.inl a1), some (.inl a2), some (.inl x1), none]) (h' := h) 8 (fun _ _ => rfl) (eSt_seenPlace (by omega) hx4) ?_
    obtain ⟨x5, hx6, HF⟩ := q_bind HF
    refine q_cll (m' := 89) (av := [.inr (.inr (1, 0, 0)), .inl x3]) (st' := []) (pc' := 32) (loc' := [some (.inr (.inr (24, 6, 0))), some (.inl a1), some (.inl a2), some (.inl x1), none]) (h' := h) 1 (fun _ _ => rfl) (ePg_at (by omega) hx6) ?_
    obtain ⟨x7, hx8, HF⟩ := q_bind HF
    refine q_cll (m' := 106) (av := [.inr (.inr (6, 0, 0)), .inl (h.1 3 7 0 x5)]) (st' := []) (pc' := 49) (loc' := [some (.inr (.inr (24, 6, 0))), some (.inl a1), some (.inl a2), some (.inl x1), some (.inl (h.1 3 7 0 x5))]) (h' := h) 7 (fun _ _ => rfl) (eTn_stateOf (by omega) hx8) ?_
    by_cases c9 : x7 = 0
    · rw [if_pos c9] at HF
      refine q_lsw (a := x7) (o1 := 27) (pcx := 49) (pc' := 76) (loc' := [some (.inr (.inr (24, 6, 0))), some (.inl a1), some (.inl a2), some (.inl x1), some (.inl (h.1 3 7 0 x5))]) (stk' := []) (h' := h) 1 (fun _ _ => rfl) (by rw [c9]; rfl) rfl ?_
      have hz := Option.some.inj HF
      subst hz
      exact q_rtn 2 (fun _ _ => rfl)
    · rw [if_neg c9] at HF
      by_cases c10 : x7 = 1
      · rw [if_pos c10] at HF
        refine q_lsw (a := x7) (o1 := 30) (pcx := 49) (pc' := 79) (loc' := [some (.inr (.inr (24, 6, 0))), some (.inl a1), some (.inl a2), some (.inl x1), some (.inl (h.1 3 7 0 x5))]) (stk' := []) (h' := h) 1 (fun _ _ => rfl) (by rw [c10]; rfl) rfl ?_
        have hz := Option.some.inj HF
        subst hz
        exact q_rtn 2 (fun _ _ => rfl)
      · rw [if_neg c10] at HF
        refine q_lsw (a := x7) (o1 := 33) (pcx := 49) (pc' := 82) (loc' := [some (.inr (.inr (24, 6, 0))), some (.inl a1), some (.inl a2), some (.inl x1), some (.inl (h.1 3 7 0 x5))]) (stk' := []) (h' := h) 1 (fun _ _ => rfl) ((lv_osw c9 (a := 0) rfl).trans ((lv_osw c10 (a := 1) rfl).trans rfl)) rfl ?_
        have hz := Option.some.inj HF
        subst hz
        exact q_rtn 2 (fun _ _ => rfl)
  · rw [if_neg c11] at HF
    have hz := Option.some.inj HF
    subst hz
    exact q_rtn 2 (fun _ _ => rfl)
def Tn_endAll (k : Nat) (h : q_H) : Option q_H :=
  (q_lp (fun s1 : Int32 × q_H => (if (s1.2.1 6 4 k 0) ≤ s1.1 then (some (.inr (s1.2))) else ((Tn_stateOf k s1.1 s1.2).bind fun x9 => Option.bind (α := q_H) (if ¬ x9 = 0 then (some (s1.2)) else ((Tn_end k s1.1 (1 : Int32) s1.2).bind fun x15 => some (x15))) (fun p18 => some (.inl ((s1.1 + (1 : Int32)), p18)))) : Option ((Int32 × q_H) ⊕ q_H))) q_fu (((1 : Int32), h) : Int32 × q_H)).bind fun z8 => some z8
set_option maxRecDepth 100000 in
set_option maxHeartbeats 4000000 in
theorem eTn_endAll {d : Nat} (hd : 5 ≤ d) {k : Nat} {h : q_H} {r : q_H} (HF : Tn_endAll k h = some r) : q_T d 114 [.inr (.inr (6, k, 0))] h (none, r) := by
  obtain ⟨d, rfl⟩ : ∃ d', d = d' + 1 := ⟨d - 1, by omega⟩
  refine q_ent q_K114 rfl rfl rfl ?_
  unfold Tn_endAll at HF
  refine q_blk (pc' := 2) (loc' := [some (.inr (.inr (6, k, 0))), some (.inl (1 : Int32))]) (stk' := []) (h' := h) 2 (fun _ _ => rfl) ?_
  obtain ⟨r6, hl7, HK4⟩ := q_bind HF
  refine q_lpE (E := fun s1 => q_E d q_K114 2 [some (.inr (.inr (6, k, 0))), some (.inl s1.1)] [] s1.2 (none, r)) r6 (fun s1 z8 HF H12 H23 => ?_) _ _ hl7
  refine q_br (P := (s1.2.1 6 4 k 0) ≤ s1.1) (pcT := 30) (pcF := 10) (loc' := [some (.inr (.inr (6, k, 0))), some (.inl s1.1)]) (stk' := []) (h' := s1.2) 4 (fun _ _ => rfl) (fun c20 => ?_) (fun c20 => ?_)
  · rw [if_pos c20] at HF
    have hz := Option.some.inj HF
    subst hz
    replace HF := HK4
    rw [← H23 _ rfl] at HF
    have hz := Option.some.inj HF
    subst hz
    exact q_rtn 1 (fun _ _ => rfl)
  · rw [if_neg c20] at HF
    obtain ⟨x9, hx10, HF⟩ := q_bind HF
    refine q_cll (m' := 106) (av := [.inr (.inr (6, k, 0)), .inl s1.1]) (st' := []) (pc' := 15) (loc' := [some (.inr (.inr (6, k, 0))), some (.inl s1.1)]) (h' := s1.2) 3 (fun _ _ => rfl) (eTn_stateOf (by omega) hx10) ?_
    obtain ⟨z11, HA12, HK13⟩ := q_bind HF
    have hP14 : ∀ p18 : q_H, (some (.inl ((s1.1 + (1 : Int32)), p18)) : Option ((Int32 × q_H) ⊕ q_H)) = some z8 → q_E d q_K114 24 [some (.inr (.inr (6, k, 0))), some (.inl s1.1)] [] p18 (none, r) := by
      intro p18 HF
      refine q_blk (pc' := 2) (loc' := [some (.inr (.inr (6, k, 0))), some (.inl (s1.1 + (1 : Int32)))]) (stk' := []) (h' := p18) 2 (fun _ _ => rfl) ?_
      have hz := Option.some.inj HF
      subst hz
      exact H12 ((s1.1 + (1 : Int32)), p18) rfl
    replace HF := HA12
    refine q_br (P := ¬ x9 = 0) (pcT := 24) (pcF := 18) (loc' := [some (.inr (.inr (6, k, 0))), some (.inl s1.1)]) (stk' := []) (h' := s1.2) 1 (fun _ _ => rfl) (fun c17 => ?_) (fun c17 => ?_)
    · rw [if_pos c17] at HF
      have hz := Option.some.inj HF
      subst hz
      exact hP14 (s1.2) HK13
    · rw [if_neg c17] at HF
      obtain ⟨x15, hx16, HF⟩ := q_bind HF
      refine q_cll (m' := 113) (av := [.inr (.inr (6, k, 0)), .inl s1.1, .inl (1 : Int32)]) (st' := []) (pc' := 24) (loc' := [some (.inr (.inr (6, k, 0))), some (.inl s1.1)]) (h' := s1.2) 4 (fun _ _ => rfl) (eTn_end (by omega) hx16) ?_
      have hz := Option.some.inj HF
      subst hz
      exact hP14 (x15) HK13
def Tx_readKind (a1 : Int32) (h : q_H) : Option (Int32 × q_H) :=
  (Tx_readToken h).bind fun x1 => (Tx_isGood a1 x1).bind fun x3 => bif q_01 x3.1 then some ((x3.1, x3.2)) else none
set_option maxRecDepth 100000 in
set_option maxHeartbeats 4000000 in
theorem eTx_readKind {d : Nat} (hd : 5 ≤ d) {a1 : Int32} {h : q_H} {r : (Int32 × q_H)} (HF : Tx_readKind a1 h = some r) : q_T d 132 [.inr (.inr (25, 6, 0)), .inl a1] h (some (.inl r.1), r.2) := by
  obtain ⟨d, rfl⟩ : ∃ d', d = d' + 1 := ⟨d - 1, by omega⟩
  refine q_ent q_K132 rfl rfl rfl ?_
  unfold Tx_readKind at HF
  obtain ⟨x1, hx2, HF⟩ := q_bind HF
  refine q_cll (m' := 135) (av := [.inr (.inr (25, 6, 0))]) (st' := []) (pc' := 4) (loc' := [some (.inr (.inr (25, 6, 0))), some (.inl a1)]) (h' := h) 2 (fun _ _ => rfl) (eTx_readToken (by omega) hx2) ?_
  obtain ⟨x3, hx4, HF⟩ := q_bind HF
  refine q_cll (m' := 133) (av := [.inr (.inr (25, 6, 0)), .inl a1]) (st' := []) (pc' := 9) (loc' := [some (.inr (.inr (25, 6, 0))), some (.inl a1)]) (h' := x1) 3 (fun _ _ => rfl) (eTx_isGood (by omega) hx4) ?_
  obtain ⟨g5, HF⟩ := q_gF HF
  have hz := Option.some.inj HF
  subst hz
  exact q_rtz 1 (fun _ _ => rfl) g5
def St_versionsThatAre (k : Nat) (a1 : Int32) (h : q_H) : Option Int32 :=
  (q_lp (fun s1 : Int32 × Int32 => (if (60 : Int32) ≤ s1.2 then (some (.inr (s1.1))) else ((Pg_at k s1.2 h).bind fun x9 => Option.bind (α := Int32) (if ¬ (h.1 3 0 k x9) = (1 : Int32) then (some (s1.1)) else ((St_isCounted k k x9 a1 h).bind fun x15 => if x15 = 0 then (some (s1.1)) else (some ((s1.1 + (1 : Int32)))))) (fun p19 => some (.inl (p19, (s1.2 + (1 : Int32)))))) : Option ((Int32 × Int32) ⊕ Int32))) q_fu (((0 : Int32), (0 : Int32)) : Int32 × Int32)).bind fun z8 => some z8
set_option maxRecDepth 100000 in
set_option maxHeartbeats 4000000 in
theorem eSt_versionsThatAre {d : Nat} (hd : 5 ≤ d) {k : Nat} {a1 : Int32} {h : q_H} {r : Int32} (HF : St_versionsThatAre k a1 h = some r) : q_T d 148 [.inr (.inr (0, k, 0)), .inl a1] h (some (.inl r), h) := by
  obtain ⟨d, rfl⟩ : ∃ d', d = d' + 1 := ⟨d - 1, by omega⟩
  refine q_ent q_K148 rfl rfl rfl ?_
  unfold St_versionsThatAre at HF
  refine q_blk (pc' := 4) (loc' := [some (.inr (.inr (0, k, 0))), some (.inl a1), some (.inl (0 : Int32)), some (.inl (0 : Int32)), none]) (stk' := []) (h' := h) 4 (fun _ _ => rfl) ?_
  obtain ⟨r6, hl7, HK4⟩ := q_bind HF
  refine q_lpE (E := fun s1 => q_E d q_K148 4 [some (.inr (.inr (0, k, 0))), some (.inl a1), some (.inl s1.1), some (.inl s1.2), none] [] h (some (.inl r), h)) r6 (fun s1 z8 HF H12 H23 => ?_) _ _ hl7
  refine q_br (P := (60 : Int32) ≤ s1.2) (pcT := 48) (pcF := 10) (loc' := [some (.inr (.inr (0, k, 0))), some (.inl a1), some (.inl s1.1), some (.inl s1.2), none]) (stk' := []) (h' := h) 3 (fun _ _ => rfl) (fun c21 => ?_) (fun c21 => ?_)
  · rw [if_pos c21] at HF
    have hz := Option.some.inj HF
    subst hz
    replace HF := HK4
    rw [← H23 _ rfl] at HF
    have hz := Option.some.inj HF
    subst hz
    exact q_rtn 2 (fun _ _ => rfl)
  · rw [if_neg c21] at HF
    obtain ⟨x9, hx10, HF⟩ := q_bind HF
    refine q_cll (m' := 89) (av := [.inr (.inr (1, k, 0)), .inl s1.2]) (st' := []) (pc' := 18) (loc' := [some (.inr (.inr (0, k, 0))), some (.inl a1), some (.inl s1.1), some (.inl s1.2), none]) (h' := h) 4 (fun _ _ => rfl) (ePg_at (by omega) hx10) ?_
    obtain ⟨z11, HA12, HK13⟩ := q_bind HF
    have hP14 : ∀ p19 : Int32, (some (.inl (p19, (s1.2 + (1 : Int32)))) : Option ((Int32 × Int32) ⊕ Int32)) = some z8 → q_E d q_K148 42 [some (.inr (.inr (0, k, 0))), some (.inl a1), some (.inl p19), some (.inl s1.2), some (.inr (.inr (3, k, x9)))] [] h (some (.inl r), h) := by
      intro p19 HF
      refine q_blk (pc' := 4) (loc' := [some (.inr (.inr (0, k, 0))), some (.inl a1), some (.inl p19), some (.inl (s1.2 + (1 : Int32))), some (.inr (.inr (3, k, x9)))]) (stk' := []) (h' := h) 2 (fun _ _ => rfl) ?_
      have hz := Option.some.inj HF
      subst hz
      exact q_wk (loc := [some (.inr (.inr (0, k, 0))), some (.inl a1), some (.inl p19), some (.inl (s1.2 + (1 : Int32))), none]) ⟨Or.inl rfl, ⟨Or.inl rfl, ⟨Or.inl rfl, ⟨Or.inl rfl, ⟨Or.inr ⟨rfl, fun _ h => by cases h⟩, trivial⟩⟩⟩⟩⟩ (H12 (p19, (s1.2 + (1 : Int32))) rfl)
    replace HF := HA12
    refine q_br (P := ¬ (h.1 3 0 k x9) = (1 : Int32)) (pcT := 42) (pcF := 29) (loc' := [some (.inr (.inr (0, k, 0))), some (.inl a1), some (.inl s1.1), some (.inl s1.2), some (.inr (.inr (3, k, x9)))]) (stk' := []) (h' := h) 5 (fun _ _ => rfl) (fun c18 => ?_) (fun c18 => ?_)
    · rw [if_pos c18] at HF
      have hz := Option.some.inj HF
      subst hz
      exact hP14 (s1.1) HK13
    · rw [if_neg c18] at HF
      obtain ⟨x15, hx16, HF⟩ := q_bind HF
      refine q_cll (m' := 149) (av := [.inr (.inr (0, k, 0)), .inr (.inr (3, k, x9)), .inl a1]) (st' := []) (pc' := 36) (loc' := [some (.inr (.inr (0, k, 0))), some (.inl a1), some (.inl s1.1), some (.inl s1.2), some (.inr (.inr (3, k, x9)))]) (h' := h) 4 (fun _ _ => rfl) (eSt_isCounted (by omega) hx16) ?_
      refine q_br (P := x15 = 0) (pcT := 42) (pcF := 39) (loc' := [some (.inr (.inr (0, k, 0))), some (.inl a1), some (.inl s1.1), some (.inl s1.2), some (.inr (.inr (3, k, x9)))]) (stk' := []) (h' := h) 1 (fun _ _ => rfl) (fun c17 => ?_) (fun c17 => ?_)
      · rw [if_pos c17] at HF
        have hz := Option.some.inj HF
        subst hz
        exact hP14 (s1.1) HK13
      · rw [if_neg c17] at HF
        refine q_blk (pc' := 42) (loc' := [some (.inr (.inr (0, k, 0))), some (.inl a1), some (.inl (s1.1 + (1 : Int32))), some (.inl s1.2), some (.inr (.inr (3, k, x9)))]) (stk' := []) (h' := h) 1 (fun _ _ => rfl) ?_
        have hz := Option.some.inj HF
        subst hz
        exact hP14 (s1.1 + (1 : Int32)) HK13
def St_addRow (k : Nat) (a1 : Int32) (a2 : Int32) (a3 : Int32) (a4 : Int32) (a5 : Int32) (h : q_H) : Option (Int32 × q_H) :=
  (St_addVersion k a1 (h.1 0 7 k 0) a2 a3 a4 a5 (0 : Int32) (q_si h 0 7 k 0 ((h.1 0 7 k 0) + (1 : Int32)))).bind fun x1 => some (((h.1 0 7 k 0), x1))
set_option maxRecDepth 100000 in
set_option maxHeartbeats 4000000 in
theorem eSt_addRow {d : Nat} (hd : 5 ≤ d) {k : Nat} {a1 : Int32} {a2 : Int32} {a3 : Int32} {a4 : Int32} {a5 : Int32} {h : q_H} {r : (Int32 × q_H)} (HF : St_addRow k a1 a2 a3 a4 a5 h = some r) : q_T d 160 [.inr (.inr (0, k, 0)), .inl a1, .inl a2, .inl a3, .inl a4, .inl a5] h (some (.inl r.1), r.2) := by
  obtain ⟨d, rfl⟩ : ∃ d', d = d' + 1 := ⟨d - 1, by omega⟩
  refine q_ent q_K160 rfl rfl rfl ?_
  unfold St_addRow at HF
  obtain ⟨x1, hx2, HF⟩ := q_bind HF
  refine q_cll (m' := 161) (av := [.inr (.inr (0, k, 0)), .inl a1, .inl (h.1 0 7 k 0), .inl a2, .inl a3, .inl a4, .inl a5, .inl (0 : Int32)]) (st' := []) (pc' := 30) (loc' := [some (.inr (.inr (0, k, 0))), some (.inl a1), some (.inl a2), some (.inl a3), some (.inl a4), some (.inl a5), some (.inl (h.1 0 7 k 0))]) (h' := (q_si h 0 7 k 0 ((h.1 0 7 k 0) + (1 : Int32)))) 18 (fun _ _ => rfl) (eSt_addVersion (by omega) hx2) ?_
  have hz := Option.some.inj HF
  subst hz
  exact q_rtn 2 (fun _ _ => rfl)
def St_placeBehind (k : Nat) (a1 : Int32) (a2 : Int32) (h : q_H) : Option (Int32 × q_H) :=
  (Rp_pageOf a1 h).bind fun x1 => (Pg_placeIn k x1 a2 h).bind fun x3 => if x3 = (-1 : Int32) then ((St_prunePage k x1 h).bind fun x5 => (Pg_placeIn k x1 a2 x5.2).bind fun x7 => if x7 = (-1 : Int32) then ((Pg_firstPlace k a2 x5.2).bind fun x9 => some ((x9, x5.2))) else (some ((x7, x5.2)))) else (some ((x3, h)))
set_option maxRecDepth 100000 in
set_option maxHeartbeats 4000000 in
theorem eSt_placeBehind {d : Nat} (hd : 5 ≤ d) {k : Nat} {a1 : Int32} {a2 : Int32} {h : q_H} {r : (Int32 × q_H)} (HF : St_placeBehind k a1 a2 h = some r) : q_T d 163 [.inr (.inr (0, k, 0)), .inl a1, .inl a2] h (some (.inl r.1), r.2) := by
  obtain ⟨d, rfl⟩ : ∃ d', d = d' + 1 := ⟨d - 1, by omega⟩
  refine q_ent q_K163 rfl rfl rfl ?_
  unfold St_placeBehind at HF
  obtain ⟨x1, hx2, HF⟩ := q_bind HF
  refine q_cll (m' := 58) (av := [.inl a1]) (st' := []) (pc' := 4) (loc' := [some (.inr (.inr (0, k, 0))), some (.inl a1), some (.inl a2), none, none]) (h' := h) 2 (fun _ _ => rfl) (eRp_pageOf (by omega) hx2) ?_
  obtain ⟨x3, hx4, HF⟩ := q_bind HF
  refine q_cll (m' := 99) (av := [.inr (.inr (1, k, 0)), .inl x1, .inl a2]) (st' := []) (pc' := 14) (loc' := [some (.inr (.inr (0, k, 0))), some (.inl a1), some (.inl a2), some (.inl x1), none]) (h' := h) 6 (fun _ _ => rfl) (ePg_placeIn (by omega) hx4) ?_
  refine q_br (P := x3 = (-1 : Int32)) (pcT := 25) (pcF := 22) (loc' := [some (.inr (.inr (0, k, 0))), some (.inl a1), some (.inl a2), some (.inl x1), some (.inl x3)]) (stk' := []) (h' := h) 4 (fun _ _ => rfl) (fun c12 => ?_) (fun c12 => ?_)
  · rw [if_pos c12] at HF
    obtain ⟨x5, hx6, HF⟩ := q_bind HF
    refine q_cll (m' := 164) (av := [.inr (.inr (0, k, 0)), .inl x1]) (st' := []) (pc' := 30) (loc' := [some (.inr (.inr (0, k, 0))), some (.inl a1), some (.inl a2), some (.inl x1), some (.inl x3)]) (h' := h) 3 (fun _ _ => rfl) (eSt_prunePage (by omega) hx6) ?_
    obtain ⟨x7, hx8, HF⟩ := q_bind HF
    refine q_cll (m' := 99) (av := [.inr (.inr (1, k, 0)), .inl x1, .inl a2]) (st' := []) (pc' := 40) (loc' := [some (.inr (.inr (0, k, 0))), some (.inl a1), some (.inl a2), some (.inl x1), some (.inl x3)]) (h' := x5.2) 6 (fun _ _ => rfl) (ePg_placeIn (by omega) hx8) ?_
    refine q_br (P := x7 = (-1 : Int32)) (pcT := 53) (pcF := 48) (loc' := [some (.inr (.inr (0, k, 0))), some (.inl a1), some (.inl a2), some (.inl x1), some (.inl x7)]) (stk' := []) (h' := x5.2) 4 (fun _ _ => rfl) (fun c11 => ?_) (fun c11 => ?_)
    · rw [if_pos c11] at HF
      obtain ⟨x9, hx10, HF⟩ := q_bind HF
      refine q_cll (m' := 100) (av := [.inr (.inr (1, k, 0)), .inl a2]) (st' := []) (pc' := 61) (loc' := [some (.inr (.inr (0, k, 0))), some (.inl a1), some (.inl a2), some (.inl x1), some (.inl x7)]) (h' := x5.2) 4 (fun _ _ => rfl) (ePg_firstPlace (by omega) hx10) ?_
      have hz := Option.some.inj HF
      subst hz
      exact q_rtn 1 (fun _ _ => rfl)
    · rw [if_neg c11] at HF
      have hz := Option.some.inj HF
      subst hz
      exact q_rtn 3 (fun _ _ => rfl)
  · rw [if_neg c12] at HF
    have hz := Option.some.inj HF
    subst hz
    exact q_rtn 2 (fun _ _ => rfl)
