def Mo_unusedIn (a1 : Int32) (h : q_H) : Option Int32 :=
  (q_lp (fun s1 : Int32 × Int32 => (bif q_in ((17 : Int32) + a1) 1644 then (if (((10 : Int32) * a1) + (h.1 31 0 7 ((17 : Int32) + a1).toNatClampNeg)) ≤ s1.2 then (some (.inr (s1.1))) else ((Mo_of s1.2 (0 : Int32) h).bind fun x9 => Option.bind (α := Int32) (if ¬ x9 = 0 then (some ((0 : Int32))) else (some ((1 : Int32)))) (fun p16 => some (.inl ((s1.1 + p16), (s1.2 + (1 : Int32))))))) else none : Option ((Int32 × Int32) ⊕ Int32))) q_fu (((0 : Int32), ((10 : Int32) * a1)) : Int32 × Int32)).bind fun z8 => some z8
set_option maxRecDepth 100000 in
set_option maxHeartbeats 4000000 in
theorem eMo_unusedIn {d : Nat} (hd : 2 ≤ d) {a1 : Int32} {h : q_H} {r : Int32} (HF : Mo_unusedIn a1 h = some r) : q_T d 267 [.inr (.inr (30, 7, 0)), .inl a1] h (some (.inl r), h) := by
  obtain ⟨d, rfl⟩ : ∃ d', d = d' + 1 := ⟨d - 1, by omega⟩
  refine q_ent q_K267 rfl rfl rfl ?_
  unfold Mo_unusedIn at HF
  refine q_blk (pc' := 7) (loc' := [some (.inr (.inr (30, 7, 0))), some (.inl a1), some (.inl (0 : Int32)), some (.inl ((10 : Int32) * a1))]) (stk' := []) (h' := h) 6 (fun _ _ => rfl) ?_
  obtain ⟨r6, hl7, HK4⟩ := q_bind HF
  refine q_lpE (E := fun s1 => q_E d q_K267 7 [some (.inr (.inr (30, 7, 0))), some (.inl a1), some (.inl s1.1), some (.inl s1.2)] [] h (some (.inl r), h)) r6 (fun s1 z8 HF H12 H23 => ?_) _ _ hl7
  obtain ⟨g19, HF⟩ := q_gF HF
  refine q_gd (pc' := 21) (loc' := [some (.inr (.inr (30, 7, 0))), some (.inl a1), some (.inl s1.1), some (.inl s1.2)]) (stk' := [.inl (h.1 31 0 7 ((17 : Int32) + a1).toNatClampNeg), .inl ((10 : Int32) * a1), .inl s1.2]) (h' := h) 10 (fun _ _ => rfl) g19 ?_
  refine q_br (P := (((10 : Int32) * a1) + (h.1 31 0 7 ((17 : Int32) + a1).toNatClampNeg)) ≤ s1.2) (pcT := 48) (pcF := 25) (loc' := [some (.inr (.inr (30, 7, 0))), some (.inl a1), some (.inl s1.1), some (.inl s1.2)]) (stk' := []) (h' := h) 2 (fun _ _ => rfl) (fun c18 => ?_) (fun c18 => ?_)
  · rw [if_pos c18] at HF
    have hz := Option.some.inj HF
    subst hz
    replace HF := HK4
    rw [← H23 _ rfl] at HF
    have hz := Option.some.inj HF
    subst hz
    exact q_rtn 2 (fun _ _ => rfl)
  · rw [if_neg c18] at HF
    obtain ⟨x9, hx10, HF⟩ := q_bind HF
    refine q_cll (m' := 187) (av := [.inr (.inr (30, 7, 0)), .inl s1.2, .inl (0 : Int32)]) (st' := [.inl s1.1]) (pc' := 32) (loc' := [some (.inr (.inr (30, 7, 0))), some (.inl a1), some (.inl s1.1), some (.inl s1.2)]) (h' := h) 5 (fun _ _ => rfl) (eMo_of (by omega) hx10) ?_
    obtain ⟨z11, HA12, HK13⟩ := q_bind HF
    have hP14 : ∀ p16 : Int32, (some (.inl ((s1.1 + p16), (s1.2 + (1 : Int32)))) : Option ((Int32 × Int32) ⊕ Int32)) = some z8 → q_E d q_K267 40 [some (.inr (.inr (30, 7, 0))), some (.inl a1), some (.inl s1.1), some (.inl s1.2)] [.inl p16, .inl s1.1] h (some (.inl r), h) := by
      intro p16 HF
      refine q_blk (pc' := 7) (loc' := [some (.inr (.inr (30, 7, 0))), some (.inl a1), some (.inl (s1.1 + p16)), some (.inl (s1.2 + (1 : Int32)))]) (stk' := []) (h' := h) 4 (fun _ _ => rfl) ?_
      have hz := Option.some.inj HF
      subst hz
      exact H12 ((s1.1 + p16), (s1.2 + (1 : Int32))) rfl
    replace HF := HA12
    refine q_br (P := ¬ x9 = 0) (pcT := 39) (pcF := 35) (loc' := [some (.inr (.inr (30, 7, 0))), some (.inl a1), some (.inl s1.1), some (.inl s1.2)]) (stk' := [.inl s1.1]) (h' := h) 1 (fun _ _ => rfl) (fun c15 => ?_) (fun c15 => ?_)
    · rw [if_pos c15] at HF
      refine q_blk (pc' := 40) (loc' := [some (.inr (.inr (30, 7, 0))), some (.inl a1), some (.inl s1.1), some (.inl s1.2)]) (stk' := [.inl (0 : Int32), .inl s1.1]) (h' := h) 1 (fun _ _ => rfl) ?_
      have hz := Option.some.inj HF
      subst hz
      exact hP14 (0 : Int32) HK13
    · rw [if_neg c15] at HF
      refine q_blk (pc' := 40) (loc' := [some (.inr (.inr (30, 7, 0))), some (.inl a1), some (.inl s1.1), some (.inl s1.2)]) (stk' := [.inl (1 : Int32), .inl s1.1]) (h' := h) 2 (fun _ _ => rfl) ?_
      have hz := Option.some.inj HF
      subst hz
      exact hP14 (1 : Int32) HK13
def Mo_entry (a1 : Int32) (a2 : Int32) (h : q_H) : Option (Int32 × q_H) :=
  Option.bind (α := Int32) (if a1 < 0 then (some ((1 : Int32))) else ((Mo_isIn a2 (0 : Int32) (3 : Int32) h).bind fun x5 => if ¬ x5 = 0 then (if a1 < (h.1 31 0 7 5) then (some ((0 : Int32))) else (some ((5 : Int32)))) else (some ((1 : Int32))))) (fun p10 => (Mo_is p10 h).bind fun x11 => if ¬ x11.1 = 0 then ((Mo_entryOf a1 a2 x11.2).bind fun x13 => some ((x13, x11.2))) else (some (((-1 : Int32), x11.2))))
set_option maxRecDepth 100000 in
set_option maxHeartbeats 4000000 in
theorem eMo_entry {d : Nat} (hd : 2 ≤ d) {a1 : Int32} {a2 : Int32} {h : q_H} {r : (Int32 × q_H)} (HF : Mo_entry a1 a2 h = some r) : q_T d 272 [.inr (.inr (30, 7, 0)), .inl a1, .inl a2] h (some (.inl r.1), r.2) := by
  obtain ⟨d, rfl⟩ : ∃ d', d = d' + 1 := ⟨d - 1, by omega⟩
  refine q_ent q_K272 rfl rfl rfl ?_
  unfold Mo_entry at HF
  obtain ⟨z1, HA2, HK3⟩ := q_bind HF
  have hP4 : ∀ p10 : Int32, ((Mo_is p10 h).bind fun x11 => if ¬ x11.1 = 0 then ((Mo_entryOf a1 a2 x11.2).bind fun x13 => some ((x13, x11.2))) else (some (((-1 : Int32), x11.2))) : Option (Int32 × q_H)) = some r → q_E d q_K272 33 [some (.inr (.inr (30, 7, 0))), some (.inl a1), some (.inl a2)] [.inl p10, .inr (.inr (30, 7, 0))] h (some (.inl r.1), r.2) := by
    intro p10 HF
    obtain ⟨x11, hx12, HF⟩ := q_bind HF
    refine q_cll (m' := 183) (av := [.inr (.inr (30, 7, 0)), .inl p10]) (st' := []) (pc' := 36) (loc' := [some (.inr (.inr (30, 7, 0))), some (.inl a1), some (.inl a2)]) (h' := h) 1 (fun _ _ => rfl) (eMo_is (by omega) hx12) ?_
    refine q_br (P := ¬ x11.1 = 0) (pcT := 41) (pcF := 39) (loc' := [some (.inr (.inr (30, 7, 0))), some (.inl a1), some (.inl a2)]) (stk' := []) (h' := x11.2) 1 (fun _ _ => rfl) (fun c15 => ?_) (fun c15 => ?_)
    · rw [if_pos c15] at HF
      obtain ⟨x13, hx14, HF⟩ := q_bind HF
      refine q_cll (m' := 216) (av := [.inr (.inr (30, 7, 0)), .inl a1, .inl a2]) (st' := []) (pc' := 47) (loc' := [some (.inr (.inr (30, 7, 0))), some (.inl a1), some (.inl a2)]) (h' := x11.2) 4 (fun _ _ => rfl) (eMo_entryOf (by omega) hx14) ?_
      have hz := Option.some.inj HF
      subst hz
      exact q_rtn 1 (fun _ _ => rfl)
    · rw [if_neg c15] at HF
      have hz := Option.some.inj HF
      subst hz
      exact q_rtn 2 (fun _ _ => rfl)
  replace HF := HA2
  refine q_br (P := a1 < 0) (pcT := 14) (pcF := 5) (loc' := [some (.inr (.inr (30, 7, 0))), some (.inl a1), some (.inl a2)]) (stk' := [.inr (.inr (30, 7, 0))]) (h' := h) 3 (fun _ _ => rfl) (fun c9 => ?_) (fun c9 => ?_)
  · rw [if_pos c9] at HF
    refine q_blk (pc' := 33) (loc' := [some (.inr (.inr (30, 7, 0))), some (.inl a1), some (.inl a2)]) (stk' := [.inl (1 : Int32), .inr (.inr (30, 7, 0))]) (h' := h) 2 (fun _ _ => rfl) ?_
    have hz := Option.some.inj HF
    subst hz
    exact hP4 (1 : Int32) HK3
  · rw [if_neg c9] at HF
    obtain ⟨x5, hx6, HF⟩ := q_bind HF
    refine q_cll (m' := 184) (av := [.inl a2, .inl (0 : Int32), .inl (3 : Int32)]) (st' := [.inr (.inr (30, 7, 0))]) (pc' := 11) (loc' := [some (.inr (.inr (30, 7, 0))), some (.inl a1), some (.inl a2)]) (h' := h) 4 (fun _ _ => rfl) (eMo_isIn (by omega) hx6) ?_
    refine q_br (P := ¬ x5 = 0) (pcT := 18) (pcF := 14) (loc' := [some (.inr (.inr (30, 7, 0))), some (.inl a1), some (.inl a2)]) (stk' := [.inr (.inr (30, 7, 0))]) (h' := h) 1 (fun _ _ => rfl) (fun c8 => ?_) (fun c8 => ?_)
    · rw [if_pos c8] at HF
      refine q_br (P := a1 < (h.1 31 0 7 5)) (pcT := 32) (pcF := 28) (loc' := [some (.inr (.inr (30, 7, 0))), some (.inl a1), some (.inl a2)]) (stk' := [.inr (.inr (30, 7, 0))]) (h' := h) 6 (fun _ _ => rfl) (fun c7 => ?_) (fun c7 => ?_)
      · rw [if_pos c7] at HF
        refine q_blk (pc' := 33) (loc' := [some (.inr (.inr (30, 7, 0))), some (.inl a1), some (.inl a2)]) (stk' := [.inl (0 : Int32), .inr (.inr (30, 7, 0))]) (h' := h) 1 (fun _ _ => rfl) ?_
        have hz := Option.some.inj HF
        subst hz
        exact hP4 (0 : Int32) HK3
      · rw [if_neg c7] at HF
        refine q_blk (pc' := 33) (loc' := [some (.inr (.inr (30, 7, 0))), some (.inl a1), some (.inl a2)]) (stk' := [.inl (5 : Int32), .inr (.inr (30, 7, 0))]) (h' := h) 2 (fun _ _ => rfl) ?_
        have hz := Option.some.inj HF
        subst hz
        exact hP4 (5 : Int32) HK3
    · rw [if_neg c8] at HF
      refine q_blk (pc' := 33) (loc' := [some (.inr (.inr (30, 7, 0))), some (.inl a1), some (.inl a2)]) (stk' := [.inl (1 : Int32), .inr (.inr (30, 7, 0))]) (h' := h) 2 (fun _ _ => rfl) ?_
      have hz := Option.some.inj HF
      subst hz
      exact hP4 (1 : Int32) HK3
def Mo_notedMany (a1 : Int32) (h : q_H) : Option Int32 :=
  (q_lp (fun s1 : Int32 × Int32 => (if a1 ≤ s1.2 then (some (.inr (s1.1))) else ((Mo_noted a1 s1.2 h).bind fun x9 => Option.bind (α := Int32) (if x9 = 0 then (some ((0 : Int32))) else (some ((1 : Int32)))) (fun p16 => some (.inl ((s1.1 + p16), (s1.2 + (1 : Int32)))))) : Option ((Int32 × Int32) ⊕ Int32))) q_fu (((0 : Int32), (1 : Int32)) : Int32 × Int32)).bind fun z8 => some z8
set_option maxRecDepth 100000 in
set_option maxHeartbeats 4000000 in
theorem eMo_notedMany {d : Nat} (hd : 2 ≤ d) {a1 : Int32} {h : q_H} {r : Int32} (HF : Mo_notedMany a1 h = some r) : q_T d 273 [.inr (.inr (30, 7, 0)), .inl a1] h (some (.inl r), h) := by
  obtain ⟨d, rfl⟩ : ∃ d', d = d' + 1 := ⟨d - 1, by omega⟩
  refine q_ent q_K273 rfl rfl rfl ?_
  unfold Mo_notedMany at HF
  refine q_blk (pc' := 4) (loc' := [some (.inr (.inr (30, 7, 0))), some (.inl a1), some (.inl (0 : Int32)), some (.inl (1 : Int32))]) (stk' := []) (h' := h) 4 (fun _ _ => rfl) ?_
  obtain ⟨r6, hl7, HK4⟩ := q_bind HF
  refine q_lpE (E := fun s1 => q_E d q_K273 4 [some (.inr (.inr (30, 7, 0))), some (.inl a1), some (.inl s1.1), some (.inl s1.2)] [] h (some (.inl r), h)) r6 (fun s1 z8 HF H12 H23 => ?_) _ _ hl7
  refine q_br (P := a1 ≤ s1.2) (pcT := 32) (pcF := 9) (loc' := [some (.inr (.inr (30, 7, 0))), some (.inl a1), some (.inl s1.1), some (.inl s1.2)]) (stk' := []) (h' := h) 3 (fun _ _ => rfl) (fun c18 => ?_) (fun c18 => ?_)
  · rw [if_pos c18] at HF
    have hz := Option.some.inj HF
    subst hz
    replace HF := HK4
    rw [← H23 _ rfl] at HF
    have hz := Option.some.inj HF
    subst hz
    exact q_rtn 2 (fun _ _ => rfl)
  · rw [if_neg c18] at HF
    obtain ⟨x9, hx10, HF⟩ := q_bind HF
    refine q_cll (m' := 199) (av := [.inr (.inr (30, 7, 0)), .inl a1, .inl s1.2]) (st' := [.inl s1.1]) (pc' := 16) (loc' := [some (.inr (.inr (30, 7, 0))), some (.inl a1), some (.inl s1.1), some (.inl s1.2)]) (h' := h) 5 (fun _ _ => rfl) (eMo_noted (by omega) hx10) ?_
    obtain ⟨z11, HA12, HK13⟩ := q_bind HF
    have hP14 : ∀ p16 : Int32, (some (.inl ((s1.1 + p16), (s1.2 + (1 : Int32)))) : Option ((Int32 × Int32) ⊕ Int32)) = some z8 → q_E d q_K273 24 [some (.inr (.inr (30, 7, 0))), some (.inl a1), some (.inl s1.1), some (.inl s1.2)] [.inl p16, .inl s1.1] h (some (.inl r), h) := by
      intro p16 HF
      refine q_blk (pc' := 4) (loc' := [some (.inr (.inr (30, 7, 0))), some (.inl a1), some (.inl (s1.1 + p16)), some (.inl (s1.2 + (1 : Int32)))]) (stk' := []) (h' := h) 4 (fun _ _ => rfl) ?_
      have hz := Option.some.inj HF
      subst hz
      exact H12 ((s1.1 + p16), (s1.2 + (1 : Int32))) rfl
    replace HF := HA12
    refine q_br (P := x9 = 0) (pcT := 23) (pcF := 19) (loc' := [some (.inr (.inr (30, 7, 0))), some (.inl a1), some (.inl s1.1), some (.inl s1.2)]) (stk' := [.inl s1.1]) (h' := h) 1 (fun _ _ => rfl) (fun c15 => ?_) (fun c15 => ?_)
    · rw [if_pos c15] at HF
      refine q_blk (pc' := 24) (loc' := [some (.inr (.inr (30, 7, 0))), some (.inl a1), some (.inl s1.1), some (.inl s1.2)]) (stk' := [.inl (0 : Int32), .inl s1.1]) (h' := h) 1 (fun _ _ => rfl) ?_
      have hz := Option.some.inj HF
      subst hz
      exact hP14 (0 : Int32) HK13
    · rw [if_neg c15] at HF
      refine q_blk (pc' := 24) (loc' := [some (.inr (.inr (30, 7, 0))), some (.inl a1), some (.inl s1.1), some (.inl s1.2)]) (stk' := [.inl (1 : Int32), .inl s1.1]) (h' := h) 2 (fun _ _ => rfl) ?_
      have hz := Option.some.inj HF
      subst hz
      exact hP14 (1 : Int32) HK13
def Mo_event (a1 : Int32) (a2 : Int32) (h : q_H) : Option (Int32 × q_H) :=
  (Mo_isIn a1 (0 : Int32) (23 : Int32) h).bind fun x1 => Option.bind (α := Int32) (if x1 = 0 then (some ((1 : Int32))) else ((Mo_isIn a2 (0 : Int32) (1 : Int32) h).bind fun x7 => if ¬ x7 = 0 then (if a1 < (h.1 31 0 7 6) then (some ((0 : Int32))) else (some ((5 : Int32)))) else (some ((1 : Int32))))) (fun p12 => (Mo_is p12 h).bind fun x13 => if ¬ x13.1 = 0 then (bif q_in (((1235 : Int32) + ((2 : Int32) * a1)) + a2) 1644 then (some (((x13.2.1 31 0 7 (((1235 : Int32) + ((2 : Int32) * a1)) + a2).toNatClampNeg), x13.2))) else none) else (some (((-1 : Int32), x13.2))))
set_option maxRecDepth 100000 in
set_option maxHeartbeats 4000000 in
theorem eMo_event {d : Nat} (hd : 2 ≤ d) {a1 : Int32} {a2 : Int32} {h : q_H} {r : (Int32 × q_H)} (HF : Mo_event a1 a2 h = some r) : q_T d 280 [.inr (.inr (30, 7, 0)), .inl a1, .inl a2] h (some (.inl r.1), r.2) := by
  obtain ⟨d, rfl⟩ : ∃ d', d = d' + 1 := ⟨d - 1, by omega⟩
  refine q_ent q_K280 rfl rfl rfl ?_
  unfold Mo_event at HF
  obtain ⟨x1, hx2, HF⟩ := q_bind HF
  refine q_cll (m' := 184) (av := [.inl a1, .inl (0 : Int32), .inl (23 : Int32)]) (st' := [.inr (.inr (30, 7, 0))]) (pc' := 8) (loc' := [some (.inr (.inr (30, 7, 0))), some (.inl a1), some (.inl a2)]) (h' := h) 5 (fun _ _ => rfl) (eMo_isIn (by omega) hx2) ?_
  obtain ⟨z3, HA4, HK5⟩ := q_bind HF
  have hP6 : ∀ p12 : Int32, ((Mo_is p12 h).bind fun x13 => if ¬ x13.1 = 0 then (bif q_in (((1235 : Int32) + ((2 : Int32) * a1)) + a2) 1644 then (some (((x13.2.1 31 0 7 (((1235 : Int32) + ((2 : Int32) * a1)) + a2).toNatClampNeg), x13.2))) else none) else (some (((-1 : Int32), x13.2))) : Option (Int32 × q_H)) = some r → q_E d q_K280 40 [some (.inr (.inr (30, 7, 0))), some (.inl a1), some (.inl a2)] [.inl p12, .inr (.inr (30, 7, 0))] h (some (.inl r.1), r.2) := by
    intro p12 HF
    obtain ⟨x13, hx14, HF⟩ := q_bind HF
    refine q_cll (m' := 183) (av := [.inr (.inr (30, 7, 0)), .inl p12]) (st' := []) (pc' := 43) (loc' := [some (.inr (.inr (30, 7, 0))), some (.inl a1), some (.inl a2)]) (h' := h) 1 (fun _ _ => rfl) (eMo_is (by omega) hx14) ?_
    refine q_br (P := ¬ x13.1 = 0) (pcT := 48) (pcF := 46) (loc' := [some (.inr (.inr (30, 7, 0))), some (.inl a1), some (.inl a2)]) (stk' := []) (h' := x13.2) 1 (fun _ _ => rfl) (fun c16 => ?_) (fun c16 => ?_)
    · rw [if_pos c16] at HF
      obtain ⟨g15, HF⟩ := q_gF HF
      refine q_gd (pc' := 62) (loc' := [some (.inr (.inr (30, 7, 0))), some (.inl a1), some (.inl a2)]) (stk' := [.inl (x13.2.1 31 0 7 (((1235 : Int32) + ((2 : Int32) * a1)) + a2).toNatClampNeg)]) (h' := x13.2) 10 (fun _ _ => rfl) g15 ?_
      have hz := Option.some.inj HF
      subst hz
      exact q_rtn 1 (fun _ _ => rfl)
    · rw [if_neg c16] at HF
      have hz := Option.some.inj HF
      subst hz
      exact q_rtn 2 (fun _ _ => rfl)
  replace HF := HA4
  refine q_br (P := x1 = 0) (pcT := 20) (pcF := 11) (loc' := [some (.inr (.inr (30, 7, 0))), some (.inl a1), some (.inl a2)]) (stk' := [.inr (.inr (30, 7, 0))]) (h' := h) 1 (fun _ _ => rfl) (fun c11 => ?_) (fun c11 => ?_)
  · rw [if_pos c11] at HF
    refine q_blk (pc' := 40) (loc' := [some (.inr (.inr (30, 7, 0))), some (.inl a1), some (.inl a2)]) (stk' := [.inl (1 : Int32), .inr (.inr (30, 7, 0))]) (h' := h) 2 (fun _ _ => rfl) ?_
    have hz := Option.some.inj HF
    subst hz
    exact hP6 (1 : Int32) HK5
  · rw [if_neg c11] at HF
    obtain ⟨x7, hx8, HF⟩ := q_bind HF
    refine q_cll (m' := 184) (av := [.inl a2, .inl (0 : Int32), .inl (1 : Int32)]) (st' := [.inr (.inr (30, 7, 0))]) (pc' := 17) (loc' := [some (.inr (.inr (30, 7, 0))), some (.inl a1), some (.inl a2)]) (h' := h) 4 (fun _ _ => rfl) (eMo_isIn (by omega) hx8) ?_
    refine q_br (P := ¬ x7 = 0) (pcT := 24) (pcF := 20) (loc' := [some (.inr (.inr (30, 7, 0))), some (.inl a1), some (.inl a2)]) (stk' := [.inr (.inr (30, 7, 0))]) (h' := h) 1 (fun _ _ => rfl) (fun c10 => ?_) (fun c10 => ?_)
    · rw [if_pos c10] at HF
      refine q_br (P := a1 < (h.1 31 0 7 6)) (pcT := 39) (pcF := 35) (loc' := [some (.inr (.inr (30, 7, 0))), some (.inl a1), some (.inl a2)]) (stk' := [.inr (.inr (30, 7, 0))]) (h' := h) 6 (fun _ _ => rfl) (fun c9 => ?_) (fun c9 => ?_)
      · rw [if_pos c9] at HF
        refine q_blk (pc' := 40) (loc' := [some (.inr (.inr (30, 7, 0))), some (.inl a1), some (.inl a2)]) (stk' := [.inl (0 : Int32), .inr (.inr (30, 7, 0))]) (h' := h) 1 (fun _ _ => rfl) ?_
        have hz := Option.some.inj HF
        subst hz
        exact hP6 (0 : Int32) HK5
      · rw [if_neg c9] at HF
        refine q_blk (pc' := 40) (loc' := [some (.inr (.inr (30, 7, 0))), some (.inl a1), some (.inl a2)]) (stk' := [.inl (5 : Int32), .inr (.inr (30, 7, 0))]) (h' := h) 2 (fun _ _ => rfl) ?_
        have hz := Option.some.inj HF
        subst hz
        exact hP6 (5 : Int32) HK5
    · rw [if_neg c10] at HF
      refine q_blk (pc' := 40) (loc' := [some (.inr (.inr (30, 7, 0))), some (.inl a1), some (.inl a2)]) (stk' := [.inl (1 : Int32), .inr (.inr (30, 7, 0))]) (h' := h) 2 (fun _ _ => rfl) ?_
      have hz := Option.some.inj HF
      subst hz
      exact hP6 (1 : Int32) HK5
def Mo_found (a1 : Int32) (a2 : Int32) (h : q_H) : Option (Int32 × q_H) :=
  Option.bind (α := Int32) (if a1 < 0 then (some ((1 : Int32))) else ((Mo_isIn a2 (0 : Int32) (4 : Int32) h).bind fun x5 => if ¬ x5 = 0 then (if a1 < (h.1 31 0 7 7) then (some ((0 : Int32))) else (some ((5 : Int32)))) else (some ((1 : Int32))))) (fun p10 => (Mo_is p10 h).bind fun x11 => if ¬ x11.1 = 0 then (bif q_in (((1283 : Int32) + ((5 : Int32) * a1)) + a2) 1644 then (some (((x11.2.1 31 0 7 (((1283 : Int32) + ((5 : Int32) * a1)) + a2).toNatClampNeg), x11.2))) else none) else (some (((-1 : Int32), x11.2))))
set_option maxRecDepth 100000 in
set_option maxHeartbeats 4000000 in
theorem eMo_found {d : Nat} (hd : 2 ≤ d) {a1 : Int32} {a2 : Int32} {h : q_H} {r : (Int32 × q_H)} (HF : Mo_found a1 a2 h = some r) : q_T d 290 [.inr (.inr (30, 7, 0)), .inl a1, .inl a2] h (some (.inl r.1), r.2) := by
  obtain ⟨d, rfl⟩ : ∃ d', d = d' + 1 := ⟨d - 1, by omega⟩
  refine q_ent q_K290 rfl rfl rfl ?_
  unfold Mo_found at HF
  obtain ⟨z1, HA2, HK3⟩ := q_bind HF
  have hP4 : ∀ p10 : Int32, ((Mo_is p10 h).bind fun x11 => if ¬ x11.1 = 0 then (bif q_in (((1283 : Int32) + ((5 : Int32) * a1)) + a2) 1644 then (some (((x11.2.1 31 0 7 (((1283 : Int32) + ((5 : Int32) * a1)) + a2).toNatClampNeg), x11.2))) else none) else (some (((-1 : Int32), x11.2))) : Option (Int32 × q_H)) = some r → q_E d q_K290 34 [some (.inr (.inr (30, 7, 0))), some (.inl a1), some (.inl a2)] [.inl p10, .inr (.inr (30, 7, 0))] h (some (.inl r.1), r.2) := by
    intro p10 HF
    obtain ⟨x11, hx12, HF⟩ := q_bind HF
    refine q_cll (m' := 183) (av := [.inr (.inr (30, 7, 0)), .inl p10]) (st' := []) (pc' := 37) (loc' := [some (.inr (.inr (30, 7, 0))), some (.inl a1), some (.inl a2)]) (h' := h) 1 (fun _ _ => rfl) (eMo_is (by omega) hx12) ?_
    refine q_br (P := ¬ x11.1 = 0) (pcT := 42) (pcF := 40) (loc' := [some (.inr (.inr (30, 7, 0))), some (.inl a1), some (.inl a2)]) (stk' := []) (h' := x11.2) 1 (fun _ _ => rfl) (fun c14 => ?_) (fun c14 => ?_)
    · rw [if_pos c14] at HF
      obtain ⟨g13, HF⟩ := q_gF HF
      refine q_gd (pc' := 56) (loc' := [some (.inr (.inr (30, 7, 0))), some (.inl a1), some (.inl a2)]) (stk' := [.inl (x11.2.1 31 0 7 (((1283 : Int32) + ((5 : Int32) * a1)) + a2).toNatClampNeg)]) (h' := x11.2) 10 (fun _ _ => rfl) g13 ?_
      have hz := Option.some.inj HF
      subst hz
      exact q_rtn 1 (fun _ _ => rfl)
    · rw [if_neg c14] at HF
      have hz := Option.some.inj HF
      subst hz
      exact q_rtn 2 (fun _ _ => rfl)
  replace HF := HA2
  refine q_br (P := a1 < 0) (pcT := 14) (pcF := 5) (loc' := [some (.inr (.inr (30, 7, 0))), some (.inl a1), some (.inl a2)]) (stk' := [.inr (.inr (30, 7, 0))]) (h' := h) 3 (fun _ _ => rfl) (fun c9 => ?_) (fun c9 => ?_)
  · rw [if_pos c9] at HF
    refine q_blk (pc' := 34) (loc' := [some (.inr (.inr (30, 7, 0))), some (.inl a1), some (.inl a2)]) (stk' := [.inl (1 : Int32), .inr (.inr (30, 7, 0))]) (h' := h) 2 (fun _ _ => rfl) ?_
    have hz := Option.some.inj HF
    subst hz
    exact hP4 (1 : Int32) HK3
  · rw [if_neg c9] at HF
    obtain ⟨x5, hx6, HF⟩ := q_bind HF
    refine q_cll (m' := 184) (av := [.inl a2, .inl (0 : Int32), .inl (4 : Int32)]) (st' := [.inr (.inr (30, 7, 0))]) (pc' := 11) (loc' := [some (.inr (.inr (30, 7, 0))), some (.inl a1), some (.inl a2)]) (h' := h) 4 (fun _ _ => rfl) (eMo_isIn (by omega) hx6) ?_
    refine q_br (P := ¬ x5 = 0) (pcT := 18) (pcF := 14) (loc' := [some (.inr (.inr (30, 7, 0))), some (.inl a1), some (.inl a2)]) (stk' := [.inr (.inr (30, 7, 0))]) (h' := h) 1 (fun _ _ => rfl) (fun c8 => ?_) (fun c8 => ?_)
    · rw [if_pos c8] at HF
      refine q_br (P := a1 < (h.1 31 0 7 7)) (pcT := 33) (pcF := 29) (loc' := [some (.inr (.inr (30, 7, 0))), some (.inl a1), some (.inl a2)]) (stk' := [.inr (.inr (30, 7, 0))]) (h' := h) 6 (fun _ _ => rfl) (fun c7 => ?_) (fun c7 => ?_)
      · rw [if_pos c7] at HF
        refine q_blk (pc' := 34) (loc' := [some (.inr (.inr (30, 7, 0))), some (.inl a1), some (.inl a2)]) (stk' := [.inl (0 : Int32), .inr (.inr (30, 7, 0))]) (h' := h) 1 (fun _ _ => rfl) ?_
        have hz := Option.some.inj HF
        subst hz
        exact hP4 (0 : Int32) HK3
      · rw [if_neg c7] at HF
        refine q_blk (pc' := 34) (loc' := [some (.inr (.inr (30, 7, 0))), some (.inl a1), some (.inl a2)]) (stk' := [.inl (5 : Int32), .inr (.inr (30, 7, 0))]) (h' := h) 2 (fun _ _ => rfl) ?_
        have hz := Option.some.inj HF
        subst hz
        exact hP4 (5 : Int32) HK3
    · rw [if_neg c8] at HF
      refine q_blk (pc' := 34) (loc' := [some (.inr (.inr (30, 7, 0))), some (.inl a1), some (.inl a2)]) (stk' := [.inl (1 : Int32), .inr (.inr (30, 7, 0))]) (h' := h) 2 (fun _ _ => rfl) ?_
      have hz := Option.some.inj HF
      subst hz
      exact hP4 (1 : Int32) HK3
def Mo_set (a1 : Int32) (a2 : Int32) (h : q_H) : Option (Int32 × q_H) :=
  Option.bind (α := Int32) (if ¬ a1 = 0 then (if ¬ a1 = (1 : Int32) then (some ((0 : Int32))) else ((Mo_isIn a2 (0 : Int32) (30 : Int32) h).bind fun x5 => if x5 = 0 then (some ((0 : Int32))) else (some ((1 : Int32))))) else ((Mo_isIn a2 (1 : Int32) (8 : Int32) h).bind fun x9 => some (x9))) (fun p12 => Option.bind (α := Int32) (if p12 = 0 then (some ((1 : Int32))) else (some ((0 : Int32)))) (fun p18 => (Mo_is p18 h).bind fun x19 => if ¬ x19.1 = 0 then (bif q_in ((1 : Int32) + a1) 1644 then (bif q_in ((1 : Int32) + a1) 1644 then (some (((x19.2.1 31 0 7 ((1 : Int32) + a1).toNatClampNeg), (q_si x19.2 31 0 7 ((1 : Int32) + a1).toNatClampNeg a2)))) else none) else none) else (some (((-1 : Int32), x19.2)))))
set_option maxRecDepth 100000 in
set_option maxHeartbeats 4000000 in
theorem eMo_set {d : Nat} (hd : 2 ≤ d) {a1 : Int32} {a2 : Int32} {h : q_H} {r : (Int32 × q_H)} (HF : Mo_set a1 a2 h = some r) : q_T d 292 [.inr (.inr (30, 7, 0)), .inl a1, .inl a2] h (some (.inl r.1), r.2) := by
  obtain ⟨d, rfl⟩ : ∃ d', d = d' + 1 := ⟨d - 1, by omega⟩
  refine q_ent q_K292 rfl rfl rfl ?_
  unfold Mo_set at HF
  obtain ⟨z1, HA2, HK3⟩ := q_bind HF
  have hP4 : ∀ p12 : Int32, (Option.bind (α := Int32) (if p12 = 0 then (some ((1 : Int32))) else (some ((0 : Int32)))) (fun p18 => (Mo_is p18 h).bind fun x19 => if ¬ x19.1 = 0 then (bif q_in ((1 : Int32) + a1) 1644 then (bif q_in ((1 : Int32) + a1) 1644 then (some (((x19.2.1 31 0 7 ((1 : Int32) + a1).toNatClampNeg), (q_si x19.2 31 0 7 ((1 : Int32) + a1).toNatClampNeg a2)))) else none) else none) else (some (((-1 : Int32), x19.2)))) : Option (Int32 × q_H)) = some r → q_E d q_K292 34 [some (.inr (.inr (30, 7, 0))), some (.inl a1), some (.inl a2), none, none] [.inl p12] h (some (.inl r.1), r.2) := by
    intro p12 HF
    obtain ⟨z13, HA14, HK15⟩ := q_bind HF
    have hP16 : ∀ p18 : Int32, ((Mo_is p18 h).bind fun x19 => if ¬ x19.1 = 0 then (bif q_in ((1 : Int32) + a1) 1644 then (bif q_in ((1 : Int32) + a1) 1644 then (some (((x19.2.1 31 0 7 ((1 : Int32) + a1).toNatClampNeg), (q_si x19.2 31 0 7 ((1 : Int32) + a1).toNatClampNeg a2)))) else none) else none) else (some (((-1 : Int32), x19.2))) : Option (Int32 × q_H)) = some r → q_E d q_K292 45 [some (.inr (.inr (30, 7, 0))), some (.inl a1), some (.inl a2), some (.inl p12), none] [.inl p18, .inr (.inr (30, 7, 0))] h (some (.inl r.1), r.2) := by
      intro p18 HF
      obtain ⟨x19, hx20, HF⟩ := q_bind HF
      refine q_cll (m' := 183) (av := [.inr (.inr (30, 7, 0)), .inl p18]) (st' := []) (pc' := 48) (loc' := [some (.inr (.inr (30, 7, 0))), some (.inl a1), some (.inl a2), some (.inl p12), none]) (h' := h) 1 (fun _ _ => rfl) (eMo_is (by omega) hx20) ?_
      refine q_br (P := ¬ x19.1 = 0) (pcT := 53) (pcF := 51) (loc' := [some (.inr (.inr (30, 7, 0))), some (.inl a1), some (.inl a2), some (.inl p12), none]) (stk' := []) (h' := x19.2) 1 (fun _ _ => rfl) (fun c23 => ?_) (fun c23 => ?_)
      · rw [if_pos c23] at HF
        obtain ⟨g22, HF⟩ := q_gF HF
        refine q_gd (pc' := 61) (loc' := [some (.inr (.inr (30, 7, 0))), some (.inl a1), some (.inl a2), some (.inl p12), none]) (stk' := [.inl (x19.2.1 31 0 7 ((1 : Int32) + a1).toNatClampNeg)]) (h' := x19.2) 6 (fun _ _ => rfl) g22 ?_
        obtain ⟨g21, HF⟩ := q_gF HF
        refine q_gd (pc' := 72) (loc' := [some (.inr (.inr (30, 7, 0))), some (.inl a1), some (.inl a2), some (.inl p12), some (.inl (x19.2.1 31 0 7 ((1 : Int32) + a1).toNatClampNeg))]) (stk' := []) (h' := (q_si x19.2 31 0 7 ((1 : Int32) + a1).toNatClampNeg a2)) 8 (fun _ _ => rfl) g21 ?_
        have hz := Option.some.inj HF
        subst hz
        exact q_rtn 2 (fun _ _ => rfl)
      · rw [if_neg c23] at HF
        have hz := Option.some.inj HF
        subst hz
        exact q_rtn 2 (fun _ _ => rfl)
    replace HF := HA14
    refine q_br (P := p12 = 0) (pcT := 44) (pcF := 40) (loc' := [some (.inr (.inr (30, 7, 0))), some (.inl a1), some (.inl a2), some (.inl p12), none]) (stk' := [.inr (.inr (30, 7, 0))]) (h' := h) 4 (fun _ _ => rfl) (fun c17 => ?_) (fun c17 => ?_)
    · rw [if_pos c17] at HF
      refine q_blk (pc' := 45) (loc' := [some (.inr (.inr (30, 7, 0))), some (.inl a1), some (.inl a2), some (.inl p12), none]) (stk' := [.inl (1 : Int32), .inr (.inr (30, 7, 0))]) (h' := h) 1 (fun _ _ => rfl) ?_
      have hz := Option.some.inj HF
      subst hz
      exact hP16 (1 : Int32) HK15
    · rw [if_neg c17] at HF
      refine q_blk (pc' := 45) (loc' := [some (.inr (.inr (30, 7, 0))), some (.inl a1), some (.inl a2), some (.inl p12), none]) (stk' := [.inl (0 : Int32), .inr (.inr (30, 7, 0))]) (h' := h) 2 (fun _ _ => rfl) ?_
      have hz := Option.some.inj HF
      subst hz
      exact hP16 (0 : Int32) HK15
  replace HF := HA2
  refine q_br (P := ¬ a1 = 0) (pcT := 14) (pcF := 4) (loc' := [some (.inr (.inr (30, 7, 0))), some (.inl a1), some (.inl a2), none, none]) (stk' := []) (h' := h) 2 (fun _ _ => rfl) (fun c11 => ?_) (fun c11 => ?_)
  · rw [if_pos c11] at HF
    refine q_br (P := ¬ a1 = (1 : Int32)) (pcT := 33) (pcF := 19) (loc' := [some (.inr (.inr (30, 7, 0))), some (.inl a1), some (.inl a2), none, none]) (stk' := []) (h' := h) 3 (fun _ _ => rfl) (fun c8 => ?_) (fun c8 => ?_)
    · rw [if_pos c8] at HF
      refine q_blk (pc' := 34) (loc' := [some (.inr (.inr (30, 7, 0))), some (.inl a1), some (.inl a2), none, none]) (stk' := [.inl (0 : Int32)]) (h' := h) 1 (fun _ _ => rfl) ?_
      have hz := Option.some.inj HF
      subst hz
      exact hP4 (0 : Int32) HK3
    · rw [if_neg c8] at HF
      obtain ⟨x5, hx6, HF⟩ := q_bind HF
      refine q_cll (m' := 184) (av := [.inl a2, .inl (0 : Int32), .inl (30 : Int32)]) (st' := []) (pc' := 26) (loc' := [some (.inr (.inr (30, 7, 0))), some (.inl a1), some (.inl a2), none, none]) (h' := h) 4 (fun _ _ => rfl) (eMo_isIn (by omega) hx6) ?_
      refine q_br (P := x5 = 0) (pcT := 33) (pcF := 29) (loc' := [some (.inr (.inr (30, 7, 0))), some (.inl a1), some (.inl a2), none, none]) (stk' := []) (h' := h) 1 (fun _ _ => rfl) (fun c7 => ?_) (fun c7 => ?_)
      · rw [if_pos c7] at HF
        refine q_blk (pc' := 34) (loc' := [some (.inr (.inr (30, 7, 0))), some (.inl a1), some (.inl a2), none, none]) (stk' := [.inl (0 : Int32)]) (h' := h) 1 (fun _ _ => rfl) ?_
        have hz := Option.some.inj HF
        subst hz
        exact hP4 (0 : Int32) HK3
      · rw [if_neg c7] at HF
        refine q_blk (pc' := 34) (loc' := [some (.inr (.inr (30, 7, 0))), some (.inl a1), some (.inl a2), none, none]) (stk' := [.inl (1 : Int32)]) (h' := h) 2 (fun _ _ => rfl) ?_
        have hz := Option.some.inj HF
        subst hz
        exact hP4 (1 : Int32) HK3
  · rw [if_neg c11] at HF
    obtain ⟨x9, hx10, HF⟩ := q_bind HF
    refine q_cll (m' := 184) (av := [.inl a2, .inl (1 : Int32), .inl (8 : Int32)]) (st' := []) (pc' := 11) (loc' := [some (.inr (.inr (30, 7, 0))), some (.inl a1), some (.inl a2), none, none]) (h' := h) 4 (fun _ _ => rfl) (eMo_isIn (by omega) hx10) ?_
    refine q_blk (pc' := 34) (loc' := [some (.inr (.inr (30, 7, 0))), some (.inl a1), some (.inl a2), none, none]) (stk' := [.inl x9]) (h' := h) 1 (fun _ _ => rfl) ?_
    have hz := Option.some.inj HF
    subst hz
    exact hP4 (x9) HK3
def Mo_mark  (h : q_H) : Option (Int32 × q_H) :=
  Option.bind (α := Int32) (if ¬ (h.1 30 5 7 0) = (3 : Int32) then (some ((0 : Int32))) else (some ((3 : Int32)))) (fun p6 => (Mo_is p6 h).bind fun x7 => if ¬ x7.1 = 0 then ((q_lp (fun s9 : Int32 × q_H => (if (1644 : Int32) ≤ s9.1 then (some (.inr ((((q_si s9.2 30 5 7 0 ((s9.2.1 30 5 7 0) + (1 : Int32))).1 30 5 7 0), (q_si s9.2 30 5 7 0 ((s9.2.1 30 5 7 0) + (1 : Int32))))))) else (bif q_in s9.1 1644 then (bif q_in (((1644 : Int32) * (s9.2.1 30 5 7 0)) + s9.1) 4932 then (some (.inl ((s9.1 + (1 : Int32)), (q_si s9.2 35 0 7 (((1644 : Int32) * (s9.2.1 30 5 7 0)) + s9.1).toNatClampNeg (s9.2.1 31 0 7 s9.1.toNatClampNeg))))) else none) else none) : Option ((Int32 × q_H) ⊕ (Int32 × q_H)))) q_fu (((0 : Int32), x7.2) : Int32 × q_H)).bind fun z16 => some z16) else (some (((-1 : Int32), x7.2))))
set_option maxRecDepth 100000 in
set_option maxHeartbeats 4000000 in
theorem eMo_mark {d : Nat} (hd : 2 ≤ d)  {h : q_H} {r : (Int32 × q_H)} (HF : Mo_mark  h = some r) : q_T d 293 [.inr (.inr (30, 7, 0))] h (some (.inl r.1), r.2) := by
  obtain ⟨d, rfl⟩ : ∃ d', d = d' + 1 := ⟨d - 1, by omega⟩
  refine q_ent q_K293 rfl rfl rfl ?_
  unfold Mo_mark at HF
  obtain ⟨z1, HA2, HK3⟩ := q_bind HF
  have hP4 : ∀ p6 : Int32, ((Mo_is p6 h).bind fun x7 => if ¬ x7.1 = 0 then ((q_lp (fun s9 : Int32 × q_H => (if (1644 : Int32) ≤ s9.1 then (some (.inr ((((q_si s9.2 30 5 7 0 ((s9.2.1 30 5 7 0) + (1 : Int32))).1 30 5 7 0), (q_si s9.2 30 5 7 0 ((s9.2.1 30 5 7 0) + (1 : Int32))))))) else (bif q_in s9.1 1644 then (bif q_in (((1644 : Int32) * (s9.2.1 30 5 7 0)) + s9.1) 4932 then (some (.inl ((s9.1 + (1 : Int32)), (q_si s9.2 35 0 7 (((1644 : Int32) * (s9.2.1 30 5 7 0)) + s9.1).toNatClampNeg (s9.2.1 31 0 7 s9.1.toNatClampNeg))))) else none) else none) : Option ((Int32 × q_H) ⊕ (Int32 × q_H)))) q_fu (((0 : Int32), x7.2) : Int32 × q_H)).bind fun z16 => some z16) else (some (((-1 : Int32), x7.2))) : Option (Int32 × q_H)) = some r → q_E d q_K293 14 [some (.inr (.inr (30, 7, 0))), none] [.inl p6, .inr (.inr (30, 7, 0))] h (some (.inl r.1), r.2) := by
    intro p6 HF
    obtain ⟨x7, hx8, HF⟩ := q_bind HF
    refine q_cll (m' := 183) (av := [.inr (.inr (30, 7, 0)), .inl p6]) (st' := []) (pc' := 17) (loc' := [some (.inr (.inr (30, 7, 0))), none]) (h' := h) 1 (fun _ _ => rfl) (eMo_is (by omega) hx8) ?_
    refine q_br (P := ¬ x7.1 = 0) (pcT := 22) (pcF := 20) (loc' := [some (.inr (.inr (30, 7, 0))), none]) (stk' := []) (h' := x7.2) 1 (fun _ _ => rfl) (fun c20 => ?_) (fun c20 => ?_)
    · rw [if_pos c20] at HF
      refine q_blk (pc' := 24) (loc' := [some (.inr (.inr (30, 7, 0))), some (.inl (0 : Int32))]) (stk' := []) (h' := x7.2) 2 (fun _ _ => rfl) ?_
      obtain ⟨r14, hl15, HK12⟩ := q_bind HF
      refine q_lpE (E := fun s9 => q_E d q_K293 24 [some (.inr (.inr (30, 7, 0))), some (.inl s9.1)] [] s9.2 (some (.inl r.1), r.2)) r14 (fun s9 z16 HF H110 H211 => ?_) _ _ hl15
      refine q_br (P := (1644 : Int32) ≤ s9.1) (pcT := 58) (pcF := 31) (loc' := [some (.inr (.inr (30, 7, 0))), some (.inl s9.1)]) (stk' := []) (h' := s9.2) 3 (fun _ _ => rfl) (fun c19 => ?_) (fun c19 => ?_)
      · rw [if_pos c19] at HF
        have hz := Option.some.inj HF
        subst hz
        replace HF := HK12
        rw [← H211 _ rfl] at HF
        have hz := Option.some.inj HF
        subst hz
        exact q_rtn 9 (fun _ _ => rfl)
      · rw [if_neg c19] at HF
        obtain ⟨g18, HF⟩ := q_gF HF
        refine q_gd (pc' := 51) (loc' := [some (.inr (.inr (30, 7, 0))), some (.inl s9.1)]) (stk' := [.inl (s9.2.1 31 0 7 s9.1.toNatClampNeg), .inl (((1644 : Int32) * (s9.2.1 30 5 7 0)) + s9.1), .inr (.inr (35, 7, 0))]) (h' := s9.2) 12 (fun _ _ => rfl) g18 ?_
        obtain ⟨g17, HF⟩ := q_gF HF
        refine q_gd (pc' := 52) (loc' := [some (.inr (.inr (30, 7, 0))), some (.inl s9.1)]) (stk' := []) (h' := (q_si s9.2 35 0 7 (((1644 : Int32) * (s9.2.1 30 5 7 0)) + s9.1).toNatClampNeg (s9.2.1 31 0 7 s9.1.toNatClampNeg))) 1 (fun _ _ => rfl) g17 ?_
        refine q_blk (pc' := 24) (loc' := [some (.inr (.inr (30, 7, 0))), some (.inl (s9.1 + (1 : Int32)))]) (stk' := []) (h' := (q_si s9.2 35 0 7 (((1644 : Int32) * (s9.2.1 30 5 7 0)) + s9.1).toNatClampNeg (s9.2.1 31 0 7 s9.1.toNatClampNeg))) 2 (fun _ _ => rfl) ?_
        have hz := Option.some.inj HF
        subst hz
        exact H110 ((s9.1 + (1 : Int32)), (q_si s9.2 35 0 7 (((1644 : Int32) * (s9.2.1 30 5 7 0)) + s9.1).toNatClampNeg (s9.2.1 31 0 7 s9.1.toNatClampNeg))) rfl
    · rw [if_neg c20] at HF
      have hz := Option.some.inj HF
      subst hz
      exact q_rtn 2 (fun _ _ => rfl)
  replace HF := HA2
  refine q_br (P := ¬ (h.1 30 5 7 0) = (3 : Int32)) (pcT := 13) (pcF := 9) (loc' := [some (.inr (.inr (30, 7, 0))), none]) (stk' := [.inr (.inr (30, 7, 0))]) (h' := h) 5 (fun _ _ => rfl) (fun c5 => ?_) (fun c5 => ?_)
  · rw [if_pos c5] at HF
    refine q_blk (pc' := 14) (loc' := [some (.inr (.inr (30, 7, 0))), none]) (stk' := [.inl (0 : Int32), .inr (.inr (30, 7, 0))]) (h' := h) 1 (fun _ _ => rfl) ?_
    have hz := Option.some.inj HF
    subst hz
    exact hP4 (0 : Int32) HK3
  · rw [if_neg c5] at HF
    refine q_blk (pc' := 14) (loc' := [some (.inr (.inr (30, 7, 0))), none]) (stk' := [.inl (3 : Int32), .inr (.inr (30, 7, 0))]) (h' := h) 2 (fun _ _ => rfl) ?_
    have hz := Option.some.inj HF
    subst hz
    exact hP4 (3 : Int32) HK3
def Mo_back  (h : q_H) : Option (Int32 × q_H) :=
  Option.bind (α := Int32) (if ¬ (h.1 30 5 7 0) = 0 then (some ((0 : Int32))) else (some ((5 : Int32)))) (fun p6 => (Mo_is p6 h).bind fun x7 => if ¬ x7.1 = 0 then ((q_lp (fun s9 : Int32 × q_H => (if (1644 : Int32) ≤ s9.1 then (some (.inr (((s9.2.1 30 5 7 0), s9.2)))) else (bif q_in (((1644 : Int32) * (s9.2.1 30 5 7 0)) + s9.1) 4932 then (bif q_in s9.1 1644 then (some (.inl ((s9.1 + (1 : Int32)), (q_si s9.2 31 0 7 s9.1.toNatClampNeg (s9.2.1 35 0 7 (((1644 : Int32) * (s9.2.1 30 5 7 0)) + s9.1).toNatClampNeg))))) else none) else none) : Option ((Int32 × q_H) ⊕ (Int32 × q_H)))) q_fu (((0 : Int32), (q_si x7.2 30 5 7 0 ((x7.2.1 30 5 7 0) - (1 : Int32)))) : Int32 × q_H)).bind fun z16 => some z16) else (some (((-1 : Int32), x7.2))))
set_option maxRecDepth 100000 in
set_option maxHeartbeats 4000000 in
theorem eMo_back {d : Nat} (hd : 2 ≤ d)  {h : q_H} {r : (Int32 × q_H)} (HF : Mo_back  h = some r) : q_T d 294 [.inr (.inr (30, 7, 0))] h (some (.inl r.1), r.2) := by
  obtain ⟨d, rfl⟩ : ∃ d', d = d' + 1 := ⟨d - 1, by omega⟩
  refine q_ent q_K294 rfl rfl rfl ?_
  unfold Mo_back at HF
  obtain ⟨z1, HA2, HK3⟩ := q_bind HF
  have hP4 : ∀ p6 : Int32, ((Mo_is p6 h).bind fun x7 => if ¬ x7.1 = 0 then ((q_lp (fun s9 : Int32 × q_H => (if (1644 : Int32) ≤ s9.1 then (some (.inr (((s9.2.1 30 5 7 0), s9.2)))) else (bif q_in (((1644 : Int32) * (s9.2.1 30 5 7 0)) + s9.1) 4932 then (bif q_in s9.1 1644 then (some (.inl ((s9.1 + (1 : Int32)), (q_si s9.2 31 0 7 s9.1.toNatClampNeg (s9.2.1 35 0 7 (((1644 : Int32) * (s9.2.1 30 5 7 0)) + s9.1).toNatClampNeg))))) else none) else none) : Option ((Int32 × q_H) ⊕ (Int32 × q_H)))) q_fu (((0 : Int32), (q_si x7.2 30 5 7 0 ((x7.2.1 30 5 7 0) - (1 : Int32)))) : Int32 × q_H)).bind fun z16 => some z16) else (some (((-1 : Int32), x7.2))) : Option (Int32 × q_H)) = some r → q_E d q_K294 13 [some (.inr (.inr (30, 7, 0))), none] [.inl p6, .inr (.inr (30, 7, 0))] h (some (.inl r.1), r.2) := by
    intro p6 HF
    obtain ⟨x7, hx8, HF⟩ := q_bind HF
    refine q_cll (m' := 183) (av := [.inr (.inr (30, 7, 0)), .inl p6]) (st' := []) (pc' := 16) (loc' := [some (.inr (.inr (30, 7, 0))), none]) (h' := h) 1 (fun _ _ => rfl) (eMo_is (by omega) hx8) ?_
    refine q_br (P := ¬ x7.1 = 0) (pcT := 21) (pcF := 19) (loc' := [some (.inr (.inr (30, 7, 0))), none]) (stk' := []) (h' := x7.2) 1 (fun _ _ => rfl) (fun c20 => ?_) (fun c20 => ?_)
    · rw [if_pos c20] at HF
      refine q_blk (pc' := 33) (loc' := [some (.inr (.inr (30, 7, 0))), some (.inl (0 : Int32))]) (stk' := []) (h' := (q_si x7.2 30 5 7 0 ((x7.2.1 30 5 7 0) - (1 : Int32)))) 8 (fun _ _ => rfl) ?_
      obtain ⟨r14, hl15, HK12⟩ := q_bind HF
      refine q_lpE (E := fun s9 => q_E d q_K294 33 [some (.inr (.inr (30, 7, 0))), some (.inl s9.1)] [] s9.2 (some (.inl r.1), r.2)) r14 (fun s9 z16 HF H110 H211 => ?_) _ _ hl15
      refine q_br (P := (1644 : Int32) ≤ s9.1) (pcT := 67) (pcF := 40) (loc' := [some (.inr (.inr (30, 7, 0))), some (.inl s9.1)]) (stk' := []) (h' := s9.2) 3 (fun _ _ => rfl) (fun c19 => ?_) (fun c19 => ?_)
      · rw [if_pos c19] at HF
        have hz := Option.some.inj HF
        subst hz
        replace HF := HK12
        rw [← H211 _ rfl] at HF
        have hz := Option.some.inj HF
        subst hz
        exact q_rtn 3 (fun _ _ => rfl)
      · rw [if_neg c19] at HF
        obtain ⟨g18, HF⟩ := q_gF HF
        refine q_gd (pc' := 60) (loc' := [some (.inr (.inr (30, 7, 0))), some (.inl s9.1)]) (stk' := [.inl (s9.2.1 35 0 7 (((1644 : Int32) * (s9.2.1 30 5 7 0)) + s9.1).toNatClampNeg), .inl s9.1, .inr (.inr (31, 7, 0))]) (h' := s9.2) 12 (fun _ _ => rfl) g18 ?_
        obtain ⟨g17, HF⟩ := q_gF HF
        refine q_gd (pc' := 61) (loc' := [some (.inr (.inr (30, 7, 0))), some (.inl s9.1)]) (stk' := []) (h' := (q_si s9.2 31 0 7 s9.1.toNatClampNeg (s9.2.1 35 0 7 (((1644 : Int32) * (s9.2.1 30 5 7 0)) + s9.1).toNatClampNeg))) 1 (fun _ _ => rfl) g17 ?_
        refine q_blk (pc' := 33) (loc' := [some (.inr (.inr (30, 7, 0))), some (.inl (s9.1 + (1 : Int32)))]) (stk' := []) (h' := (q_si s9.2 31 0 7 s9.1.toNatClampNeg (s9.2.1 35 0 7 (((1644 : Int32) * (s9.2.1 30 5 7 0)) + s9.1).toNatClampNeg))) 2 (fun _ _ => rfl) ?_
        have hz := Option.some.inj HF
        subst hz
        exact H110 ((s9.1 + (1 : Int32)), (q_si s9.2 31 0 7 s9.1.toNatClampNeg (s9.2.1 35 0 7 (((1644 : Int32) * (s9.2.1 30 5 7 0)) + s9.1).toNatClampNeg))) rfl
    · rw [if_neg c20] at HF
      have hz := Option.some.inj HF
      subst hz
      exact q_rtn 2 (fun _ _ => rfl)
  replace HF := HA2
  refine q_br (P := ¬ (h.1 30 5 7 0) = 0) (pcT := 12) (pcF := 8) (loc' := [some (.inr (.inr (30, 7, 0))), none]) (stk' := [.inr (.inr (30, 7, 0))]) (h' := h) 4 (fun _ _ => rfl) (fun c5 => ?_) (fun c5 => ?_)
  · rw [if_pos c5] at HF
    refine q_blk (pc' := 13) (loc' := [some (.inr (.inr (30, 7, 0))), none]) (stk' := [.inl (0 : Int32), .inr (.inr (30, 7, 0))]) (h' := h) 1 (fun _ _ => rfl) ?_
    have hz := Option.some.inj HF
    subst hz
    exact hP4 (0 : Int32) HK3
  · rw [if_neg c5] at HF
    refine q_blk (pc' := 13) (loc' := [some (.inr (.inr (30, 7, 0))), none]) (stk' := [.inl (5 : Int32), .inr (.inr (30, 7, 0))]) (h' := h) 2 (fun _ _ => rfl) ?_
    have hz := Option.some.inj HF
    subst hz
    exact hP4 (5 : Int32) HK3
def Rp_feed (a1 : Int32) (a2 : Int32) (a3 : Int32) (a4 : Int32) (a5 : Int32) (h : q_H) : Option (Int32 × q_H) :=
  (Tx_hasRoomFor (20 : Int32) h).bind fun x1 => if ¬ x1 = 0 then ((Tx_takeInt a1 h).bind fun x3 => (Tx_takeInt a2 x3).bind fun x5 => (Tx_takeInt a3 x5).bind fun x7 => (Tx_takeInt a4 x7).bind fun x9 => (Tx_takeInt a5 x9).bind fun x11 => some (((x11.1 25 1 6 0), x11))) else (some (((-1 : Int32), h)))
set_option maxRecDepth 100000 in
set_option maxHeartbeats 4000000 in
theorem eRp_feed {d : Nat} (hd : 3 ≤ d) {a1 : Int32} {a2 : Int32} {a3 : Int32} {a4 : Int32} {a5 : Int32} {h : q_H} {r : (Int32 × q_H)} (HF : Rp_feed a1 a2 a3 a4 a5 h = some r) : q_T d 6 [.inr (.inr (24, 6, 0)), .inl a1, .inl a2, .inl a3, .inl a4, .inl a5] h (some (.inl r.1), r.2) := by
  obtain ⟨d, rfl⟩ : ∃ d', d = d' + 1 := ⟨d - 1, by omega⟩
  refine q_ent q_K6 rfl rfl rfl ?_
  unfold Rp_feed at HF
  obtain ⟨x1, hx2, HF⟩ := q_bind HF
  refine q_cll (m' := 122) (av := [.inr (.inr (25, 6, 0)), .inl (20 : Int32)]) (st' := []) (pc' := 9) (loc' := [some (.inr (.inr (24, 6, 0))), some (.inl a1), some (.inl a2), some (.inl a3), some (.inl a4), some (.inl a5)]) (h' := h) 4 (fun _ _ => rfl) (eTx_hasRoomFor (by omega) hx2) ?_
  refine q_br (P := ¬ x1 = 0) (pcT := 14) (pcF := 12) (loc' := [some (.inr (.inr (24, 6, 0))), some (.inl a1), some (.inl a2), some (.inl a3), some (.inl a4), some (.inl a5)]) (stk' := []) (h' := h) 1 (fun _ _ => rfl) (fun c13 => ?_) (fun c13 => ?_)
  · rw [if_pos c13] at HF
    obtain ⟨x3, hx4, HF⟩ := q_bind HF
    refine q_cll (m' := 123) (av := [.inr (.inr (25, 6, 0)), .inl a1]) (st' := []) (pc' := 22) (loc' := [some (.inr (.inr (24, 6, 0))), some (.inl a1), some (.inl a2), some (.inl a3), some (.inl a4), some (.inl a5)]) (h' := h) 4 (fun _ _ => rfl) (eTx_takeInt (by omega) hx4) ?_
    obtain ⟨x5, hx6, HF⟩ := q_bind HF
    refine q_cll (m' := 123) (av := [.inr (.inr (25, 6, 0)), .inl a2]) (st' := []) (pc' := 30) (loc' := [some (.inr (.inr (24, 6, 0))), some (.inl a1), some (.inl a2), some (.inl a3), some (.inl a4), some (.inl a5)]) (h' := x3) 4 (fun _ _ => rfl) (eTx_takeInt (by omega) hx6) ?_
    obtain ⟨x7, hx8, HF⟩ := q_bind HF
    refine q_cll (m' := 123) (av := [.inr (.inr (25, 6, 0)), .inl a3]) (st' := []) (pc' := 38) (loc' := [some (.inr (.inr (24, 6, 0))), some (.inl a1), some (.inl a2), some (.inl a3), some (.inl a4), some (.inl a5)]) (h' := x5) 4 (fun _ _ => rfl) (eTx_takeInt (by omega) hx8) ?_
    obtain ⟨x9, hx10, HF⟩ := q_bind HF
    refine q_cll (m' := 123) (av := [.inr (.inr (25, 6, 0)), .inl a4]) (st' := []) (pc' := 47) (loc' := [some (.inr (.inr (24, 6, 0))), some (.inl a1), some (.inl a2), some (.inl a3), some (.inl a4), some (.inl a5)]) (h' := x7) 4 (fun _ _ => rfl) (eTx_takeInt (by omega) hx10) ?_
    obtain ⟨x11, hx12, HF⟩ := q_bind HF
    refine q_cll (m' := 123) (av := [.inr (.inr (25, 6, 0)), .inl a5]) (st' := []) (pc' := 56) (loc' := [some (.inr (.inr (24, 6, 0))), some (.inl a1), some (.inl a2), some (.inl a3), some (.inl a4), some (.inl a5)]) (h' := x9) 4 (fun _ _ => rfl) (eTx_takeInt (by omega) hx12) ?_
    have hz := Option.some.inj HF
    subst hz
    exact q_rtn 4 (fun _ _ => rfl)
  · rw [if_neg c13] at HF
    have hz := Option.some.inj HF
    subst hz
    exact q_rtn 2 (fun _ _ => rfl)
def Rp_counts (a1 : Int32) (h : q_H) : Option (Int32 × q_H) :=
  if a1 < 0 then ((Rp_refuse (1 : Int32) h).bind fun x1 => some ((x1.1, x1.2))) else (if a1 < (8 : Int32) then ((Lg_countOf 0 a1 h).bind fun x3 => (Rp_answer x3 h).bind fun x5 => some ((x5.1, x5.2))) else ((Rp_refuse (1 : Int32) h).bind fun x7 => some ((x7.1, x7.2))))
set_option maxRecDepth 100000 in
set_option maxHeartbeats 4000000 in
theorem eRp_counts {d : Nat} (hd : 3 ≤ d) {a1 : Int32} {h : q_H} {r : (Int32 × q_H)} (HF : Rp_counts a1 h = some r) : q_T d 10 [.inr (.inr (24, 6, 0)), .inl a1] h (some (.inl r.1), r.2) := by
  obtain ⟨d, rfl⟩ : ∃ d', d = d' + 1 := ⟨d - 1, by omega⟩
  refine q_ent q_K10 rfl rfl rfl ?_
  unfold Rp_counts at HF
  refine q_br (P := a1 < 0) (pcT := 10) (pcF := 4) (loc' := [some (.inr (.inr (24, 6, 0))), some (.inl a1)]) (stk' := []) (h' := h) 2 (fun _ _ => rfl) (fun c10 => ?_) (fun c10 => ?_)
  · rw [if_pos c10] at HF
    obtain ⟨x1, hx2, HF⟩ := q_bind HF
    refine q_cll (m' := 46) (av := [.inr (.inr (24, 6, 0)), .inl (1 : Int32)]) (st' := []) (pc' := 15) (loc' := [some (.inr (.inr (24, 6, 0))), some (.inl a1)]) (h' := h) 3 (fun _ _ => rfl) (eRp_refuse (by omega) hx2) ?_
    have hz := Option.some.inj HF
    subst hz
    exact q_rtn 1 (fun _ _ => rfl)
  · rw [if_neg c10] at HF
    refine q_br (P := a1 < (8 : Int32)) (pcT := 16) (pcF := 10) (loc' := [some (.inr (.inr (24, 6, 0))), some (.inl a1)]) (stk' := []) (h' := h) 3 (fun _ _ => rfl) (fun c9 => ?_) (fun c9 => ?_)
    · rw [if_pos c9] at HF
      obtain ⟨x3, hx4, HF⟩ := q_bind HF
      refine q_cll (m' := 86) (av := [.inr (.inr (15, 0, 0)), .inl a1]) (st' := [.inr (.inr (24, 6, 0))]) (pc' := 28) (loc' := [some (.inr (.inr (24, 6, 0))), some (.inl a1)]) (h' := h) 6 (fun _ _ => rfl) (eLg_countOf (by omega) hx4) ?_
      obtain ⟨x5, hx6, HF⟩ := q_bind HF
      refine q_cll (m' := 45) (av := [.inr (.inr (24, 6, 0)), .inl x3]) (st' := []) (pc' := 31) (loc' := [some (.inr (.inr (24, 6, 0))), some (.inl a1)]) (h' := h) 1 (fun _ _ => rfl) (eRp_answer (by omega) hx6) ?_
      have hz := Option.some.inj HF
      subst hz
      exact q_rtn 1 (fun _ _ => rfl)
    · rw [if_neg c9] at HF
      obtain ⟨x7, hx8, HF⟩ := q_bind HF
      refine q_cll (m' := 46) (av := [.inr (.inr (24, 6, 0)), .inl (1 : Int32)]) (st' := []) (pc' := 15) (loc' := [some (.inr (.inr (24, 6, 0))), some (.inl a1)]) (h' := h) 3 (fun _ _ => rfl) (eRp_refuse (by omega) hx8) ?_
      have hz := Option.some.inj HF
      subst hz
      exact q_rtn 1 (fun _ _ => rfl)
def Rp_entry (a1 : Int32) (a2 : Int32) (h : q_H) : Option (Int32 × q_H) :=
  if a1 < 0 then ((Rp_refuse (1 : Int32) h).bind fun x1 => some ((x1.1, x1.2))) else (if a2 < 0 then ((Rp_refuse (1 : Int32) h).bind fun x3 => some ((x3.1, x3.2))) else (if a2 ≤ (3 : Int32) then (if a1 < (h.1 11 3 0 0) then (if a2 = 0 then ((Ix_keyAt 0 a1 h).bind fun x5 => (Rp_answer x5 h).bind fun x7 => some ((x7.1, x7.2))) else (if a2 = 1 then ((Ix_placeAt 0 a1 h).bind fun x9 => (Rp_pageOf x9 h).bind fun x11 => (Rp_answer x11 h).bind fun x13 => some ((x13.1, x13.2))) else (if a2 = 2 then ((Ix_placeAt 0 a1 h).bind fun x15 => (Rp_slotOf x15 h).bind fun x17 => (Rp_answer x17 h).bind fun x19 => some ((x19.1, x19.2))) else ((Ix_isKilled 0 a1 h).bind fun x21 => if x21 = 0 then ((Rp_answer (0 : Int32) h).bind fun x23 => some ((x23.1, x23.2))) else ((Rp_answer (1 : Int32) h).bind fun x25 => some ((x25.1, x25.2))))))) else ((Rp_refuse (5 : Int32) h).bind fun x31 => some ((x31.1, x31.2)))) else ((Rp_refuse (1 : Int32) h).bind fun x34 => some ((x34.1, x34.2)))))
set_option maxRecDepth 100000 in
set_option maxHeartbeats 4000000 in
theorem eRp_entry {d : Nat} (hd : 3 ≤ d) {a1 : Int32} {a2 : Int32} {h : q_H} {r : (Int32 × q_H)} (HF : Rp_entry a1 a2 h = some r) : q_T d 14 [.inr (.inr (24, 6, 0)), .inl a1, .inl a2] h (some (.inl r.1), r.2) := by
  obtain ⟨d, rfl⟩ : ∃ d', d = d' + 1 := ⟨d - 1, by omega⟩
  refine q_ent q_K14 rfl rfl rfl ?_
  unfold Rp_entry at HF
  refine q_br (P := a1 < 0) (pcT := 13) (pcF := 4) (loc' := [some (.inr (.inr (24, 6, 0))), some (.inl a1), some (.inl a2)]) (stk' := []) (h' := h) 2 (fun _ _ => rfl) (fun c38 => ?_) (fun c38 => ?_)
  · rw [if_pos c38] at HF
    obtain ⟨x1, hx2, HF⟩ := q_bind HF
    refine q_cll (m' := 46) (av := [.inr (.inr (24, 6, 0)), .inl (1 : Int32)]) (st' := []) (pc' := 18) (loc' := [some (.inr (.inr (24, 6, 0))), some (.inl a1), some (.inl a2)]) (h' := h) 3 (fun _ _ => rfl) (eRp_refuse (by omega) hx2) ?_
    have hz := Option.some.inj HF
    subst hz
    exact q_rtn 1 (fun _ _ => rfl)
  · rw [if_neg c38] at HF
    refine q_br (P := a2 < 0) (pcT := 13) (pcF := 8) (loc' := [some (.inr (.inr (24, 6, 0))), some (.inl a1), some (.inl a2)]) (stk' := []) (h' := h) 2 (fun _ _ => rfl) (fun c37 => ?_) (fun c37 => ?_)
    · rw [if_pos c37] at HF
      obtain ⟨x3, hx4, HF⟩ := q_bind HF
      refine q_cll (m' := 46) (av := [.inr (.inr (24, 6, 0)), .inl (1 : Int32)]) (st' := []) (pc' := 18) (loc' := [some (.inr (.inr (24, 6, 0))), some (.inl a1), some (.inl a2)]) (h' := h) 3 (fun _ _ => rfl) (eRp_refuse (by omega) hx4) ?_
      have hz := Option.some.inj HF
      subst hz
      exact q_rtn 1 (fun _ _ => rfl)
    · rw [if_neg c37] at HF
      refine q_br (P := a2 ≤ (3 : Int32)) (pcT := 19) (pcF := 13) (loc' := [some (.inr (.inr (24, 6, 0))), some (.inl a1), some (.inl a2)]) (stk' := []) (h' := h) 3 (fun _ _ => rfl) (fun c36 => ?_) (fun c36 => ?_)
      · rw [if_pos c36] at HF
        refine q_br (P := a1 < (h.1 11 3 0 0)) (pcT := 39) (pcF := 33) (loc' := [some (.inr (.inr (24, 6, 0))), some (.inl a1), some (.inl a2)]) (stk' := []) (h' := h) 6 (fun _ _ => rfl) (fun c33 => ?_) (fun c33 => ?_)
        · rw [if_pos c33] at HF
          by_cases c28 : a2 = 0
          · rw [if_pos c28] at HF
            refine q_sw (o1 := 28) (pcx := 40) (pc' := 68) (loc' := [some (.inr (.inr (24, 6, 0))), some (.inl a1), some (.inl a2)]) (stk' := []) (h' := h) 2 (fun _ _ => rfl) (q_tsI c28 rfl) rfl ?_
            obtain ⟨x5, hx6, HF⟩ := q_bind HF
            refine q_cll (m' := 71) (av := [.inr (.inr (11, 0, 0)), .inl a1]) (st' := [.inr (.inr (24, 6, 0))]) (pc' := 80) (loc' := [some (.inr (.inr (24, 6, 0))), some (.inl a1), some (.inl a2)]) (h' := h) 6 (fun _ _ => rfl) (eIx_keyAt (by omega) hx6) ?_
            obtain ⟨x7, hx8, HF⟩ := q_bind HF
            refine q_cll (m' := 45) (av := [.inr (.inr (24, 6, 0)), .inl x5]) (st' := []) (pc' := 83) (loc' := [some (.inr (.inr (24, 6, 0))), some (.inl a1), some (.inl a2)]) (h' := h) 1 (fun _ _ => rfl) (eRp_answer (by omega) hx8) ?_
            have hz := Option.some.inj HF
            subst hz
            exact q_rtn 1 (fun _ _ => rfl)
          · rw [if_neg c28] at HF
            by_cases c29 : a2 = 1
            · rw [if_pos c29] at HF
              refine q_sw (o1 := 44) (pcx := 40) (pc' := 84) (loc' := [some (.inr (.inr (24, 6, 0))), some (.inl a1), some (.inl a2)]) (stk' := []) (h' := h) 2 (fun _ _ => rfl) (q_tsI c29 rfl) rfl ?_
              obtain ⟨x9, hx10, HF⟩ := q_bind HF
              refine q_cll (m' := 72) (av := [.inr (.inr (11, 0, 0)), .inl a1]) (st' := [.inr (.inr (24, 6, 0))]) (pc' := 96) (loc' := [some (.inr (.inr (24, 6, 0))), some (.inl a1), some (.inl a2)]) (h' := h) 6 (fun _ _ => rfl) (eIx_placeAt (by omega) hx10) ?_
              obtain ⟨x11, hx12, HF⟩ := q_bind HF
              refine q_cll (m' := 58) (av := [.inl x9]) (st' := [.inr (.inr (24, 6, 0))]) (pc' := 99) (loc' := [some (.inr (.inr (24, 6, 0))), some (.inl a1), some (.inl a2)]) (h' := h) 1 (fun _ _ => rfl) (eRp_pageOf (by omega) hx12) ?_
              obtain ⟨x13, hx14, HF⟩ := q_bind HF
              refine q_cll (m' := 45) (av := [.inr (.inr (24, 6, 0)), .inl x11]) (st' := []) (pc' := 102) (loc' := [some (.inr (.inr (24, 6, 0))), some (.inl a1), some (.inl a2)]) (h' := h) 1 (fun _ _ => rfl) (eRp_answer (by omega) hx14) ?_
              have hz := Option.some.inj HF
              subst hz
              exact q_rtn 1 (fun _ _ => rfl)
            · rw [if_neg c29] at HF
              by_cases c30 : a2 = 2
              · rw [if_pos c30] at HF
                refine q_sw (o1 := 63) (pcx := 40) (pc' := 103) (loc' := [some (.inr (.inr (24, 6, 0))), some (.inl a1), some (.inl a2)]) (stk' := []) (h' := h) 2 (fun _ _ => rfl) (q_tsI c30 rfl) rfl ?_
                obtain ⟨x15, hx16, HF⟩ := q_bind HF
                refine q_cll (m' := 72) (av := [.inr (.inr (11, 0, 0)), .inl a1]) (st' := [.inr (.inr (24, 6, 0))]) (pc' := 115) (loc' := [some (.inr (.inr (24, 6, 0))), some (.inl a1), some (.inl a2)]) (h' := h) 6 (fun _ _ => rfl) (eIx_placeAt (by omega) hx16) ?_
                obtain ⟨x17, hx18, HF⟩ := q_bind HF
                refine q_cll (m' := 59) (av := [.inl x15]) (st' := [.inr (.inr (24, 6, 0))]) (pc' := 118) (loc' := [some (.inr (.inr (24, 6, 0))), some (.inl a1), some (.inl a2)]) (h' := h) 1 (fun _ _ => rfl) (eRp_slotOf (by omega) hx18) ?_
                obtain ⟨x19, hx20, HF⟩ := q_bind HF
                refine q_cll (m' := 45) (av := [.inr (.inr (24, 6, 0)), .inl x17]) (st' := []) (pc' := 121) (loc' := [some (.inr (.inr (24, 6, 0))), some (.inl a1), some (.inl a2)]) (h' := h) 1 (fun _ _ => rfl) (eRp_answer (by omega) hx20) ?_
                have hz := Option.some.inj HF
                subst hz
                exact q_rtn 1 (fun _ _ => rfl)
              · rw [if_neg c30] at HF
                refine q_sw (o1 := 82) (pcx := 40) (pc' := 122) (loc' := [some (.inr (.inr (24, 6, 0))), some (.inl a1), some (.inl a2)]) (stk' := []) (h' := h) 2 (fun _ _ => rfl) (q_tsD (a := a2) (lo := 0) (hi := 2) (by have z0 := q_neI c28 (a := 0) rfl; have z1 := q_neI c29 (a := 1) rfl; have z2 := q_neI c30 (a := 2) rfl; omega)) rfl ?_
                obtain ⟨x21, hx22, HF⟩ := q_bind HF
                refine q_cll (m' := 73) (av := [.inr (.inr (11, 0, 0)), .inl a1]) (st' := [.inr (.inr (24, 6, 0))]) (pc' := 134) (loc' := [some (.inr (.inr (24, 6, 0))), some (.inl a1), some (.inl a2)]) (h' := h) 6 (fun _ _ => rfl) (eIx_isKilled (by omega) hx22) ?_
                refine q_br (P := x21 = 0) (pcT := 141) (pcF := 137) (loc' := [some (.inr (.inr (24, 6, 0))), some (.inl a1), some (.inl a2)]) (stk' := [.inr (.inr (24, 6, 0))]) (h' := h) 1 (fun _ _ => rfl) (fun c27 => ?_) (fun c27 => ?_)
                · rw [if_pos c27] at HF
                  obtain ⟨x23, hx24, HF⟩ := q_bind HF
                  refine q_cll (m' := 45) (av := [.inr (.inr (24, 6, 0)), .inl (0 : Int32)]) (st' := []) (pc' := 145) (loc' := [some (.inr (.inr (24, 6, 0))), some (.inl a1), some (.inl a2)]) (h' := h) 2 (fun _ _ => rfl) (eRp_answer (by omega) hx24) ?_
                  have hz := Option.some.inj HF
                  subst hz
                  exact q_rtn 1 (fun _ _ => rfl)
                · rw [if_neg c27] at HF
                  obtain ⟨x25, hx26, HF⟩ := q_bind HF
                  refine q_cll (m' := 45) (av := [.inr (.inr (24, 6, 0)), .inl (1 : Int32)]) (st' := []) (pc' := 145) (loc' := [some (.inr (.inr (24, 6, 0))), some (.inl a1), some (.inl a2)]) (h' := h) 3 (fun _ _ => rfl) (eRp_answer (by omega) hx26) ?_
                  have hz := Option.some.inj HF
                  subst hz
                  exact q_rtn 1 (fun _ _ => rfl)
        · rw [if_neg c33] at HF
          obtain ⟨x31, hx32, HF⟩ := q_bind HF
          refine q_cll (m' := 46) (av := [.inr (.inr (24, 6, 0)), .inl (5 : Int32)]) (st' := []) (pc' := 38) (loc' := [some (.inr (.inr (24, 6, 0))), some (.inl a1), some (.inl a2)]) (h' := h) 3 (fun _ _ => rfl) (eRp_refuse (by omega) hx32) ?_
          have hz := Option.some.inj HF
          subst hz
          exact q_rtn 1 (fun _ _ => rfl)
      · rw [if_neg c36] at HF
        obtain ⟨x34, hx35, HF⟩ := q_bind HF
        refine q_cll (m' := 46) (av := [.inr (.inr (24, 6, 0)), .inl (1 : Int32)]) (st' := []) (pc' := 18) (loc' := [some (.inr (.inr (24, 6, 0))), some (.inl a1), some (.inl a2)]) (h' := h) 3 (fun _ _ => rfl) (eRp_refuse (by omega) hx35) ?_
        have hz := Option.some.inj HF
        subst hz
        exact q_rtn 1 (fun _ _ => rfl)
def Rp_txn (a1 : Int32) (a2 : Int32) (h : q_H) : Option (Int32 × q_H) :=
  if a2 < 0 then ((Rp_refuse (1 : Int32) h).bind fun x1 => some ((x1.1, x1.2))) else (if a2 ≤ (3 : Int32) then ((Tn_has 0 a1 h).bind fun x3 => if ¬ x3 = 0 then ((Tn_stateOf 0 a1 h).bind fun x5 => Option.bind (α := (q_H) ⊕ (Int32 × q_H)) (if ¬ a2 = (1 : Int32) then (some (.inl h)) else (if x5 = 0 then (some (.inl h)) else ((Rp_refuse (5 : Int32) h).bind fun x11 => some (.inr ((x11.1, x11.2)))))) (fun z7 => match z7 with | .inl p15 => if a2 = 0 then ((Rp_answer x5 p15).bind fun x16 => some ((x16.1, x16.2))) else (if a2 = 1 then ((Tn_lowOf 0 a1 p15).bind fun x18 => (Rp_answer x18 p15).bind fun x20 => some ((x20.1, x20.2))) else (if a2 = 2 then ((Tn_howManyNoted 0 a1 p15).bind fun x22 => (Rp_answer x22 p15).bind fun x24 => some ((x24.1, x24.2))) else ((Tn_waitsFor 0 a1 p15).bind fun x26 => (Rp_answer x26 p15).bind fun x28 => some ((x28.1, x28.2))))) | .inr z7 => some z7)) else ((Rp_refuse (2 : Int32) h).bind fun x34 => some ((x34.1, x34.2)))) else ((Rp_refuse (1 : Int32) h).bind fun x37 => some ((x37.1, x37.2))))
set_option maxRecDepth 100000 in
set_option maxHeartbeats 4000000 in
theorem eRp_txn {d : Nat} (hd : 3 ≤ d) {a1 : Int32} {a2 : Int32} {h : q_H} {r : (Int32 × q_H)} (HF : Rp_txn a1 a2 h = some r) : q_T d 15 [.inr (.inr (24, 6, 0)), .inl a1, .inl a2] h (some (.inl r.1), r.2) := by
  obtain ⟨d, rfl⟩ : ∃ d', d = d' + 1 := ⟨d - 1, by omega⟩
  refine q_ent q_K15 rfl rfl rfl ?_
  unfold Rp_txn at HF
  refine q_br (P := a2 < 0) (pcT := 9) (pcF := 4) (loc' := [some (.inr (.inr (24, 6, 0))), some (.inl a1), some (.inl a2), none]) (stk' := []) (h' := h) 2 (fun _ _ => rfl) (fun c40 => ?_) (fun c40 => ?_)
  · rw [if_pos c40] at HF
    obtain ⟨x1, hx2, HF⟩ := q_bind HF
    refine q_cll (m' := 46) (av := [.inr (.inr (24, 6, 0)), .inl (1 : Int32)]) (st' := []) (pc' := 14) (loc' := [some (.inr (.inr (24, 6, 0))), some (.inl a1), some (.inl a2), none]) (h' := h) 3 (fun _ _ => rfl) (eRp_refuse (by omega) hx2) ?_
    have hz := Option.some.inj HF
    subst hz
    exact q_rtn 1 (fun _ _ => rfl)
  · rw [if_neg c40] at HF
    refine q_br (P := a2 ≤ (3 : Int32)) (pcT := 15) (pcF := 9) (loc' := [some (.inr (.inr (24, 6, 0))), some (.inl a1), some (.inl a2), none]) (stk' := []) (h' := h) 3 (fun _ _ => rfl) (fun c39 => ?_) (fun c39 => ?_)
    · rw [if_pos c39] at HF
      obtain ⟨x3, hx4, HF⟩ := q_bind HF
      refine q_cll (m' := 105) (av := [.inr (.inr (6, 0, 0)), .inl a1]) (st' := []) (pc' := 26) (loc' := [some (.inr (.inr (24, 6, 0))), some (.inl a1), some (.inl a2), none]) (h' := h) 5 (fun _ _ => rfl) (eTn_has (by omega) hx4) ?_
      refine q_br (P := ¬ x3 = 0) (pcT := 35) (pcF := 29) (loc' := [some (.inr (.inr (24, 6, 0))), some (.inl a1), some (.inl a2), none]) (stk' := []) (h' := h) 1 (fun _ _ => rfl) (fun c36 => ?_) (fun c36 => ?_)
      · rw [if_pos c36] at HF
        obtain ⟨x5, hx6, HF⟩ := q_bind HF
        refine q_cll (m' := 106) (av := [.inr (.inr (6, 0, 0)), .inl a1]) (st' := []) (pc' := 46) (loc' := [some (.inr (.inr (24, 6, 0))), some (.inl a1), some (.inl a2), none]) (h' := h) 5 (fun _ _ => rfl) (eTn_stateOf (by omega) hx6) ?_
        obtain ⟨z7, HA8, HK9⟩ := q_bind HF
        have hP10 : ∀ p15 : q_H, (if a2 = 0 then ((Rp_answer x5 p15).bind fun x16 => some ((x16.1, x16.2))) else (if a2 = 1 then ((Tn_lowOf 0 a1 p15).bind fun x18 => (Rp_answer x18 p15).bind fun x20 => some ((x20.1, x20.2))) else (if a2 = 2 then ((Tn_howManyNoted 0 a1 p15).bind fun x22 => (Rp_answer x22 p15).bind fun x24 => some ((x24.1, x24.2))) else ((Tn_waitsFor 0 a1 p15).bind fun x26 => (Rp_answer x26 p15).bind fun x28 => some ((x28.1, x28.2))))) : Option (Int32 × q_H)) = some r → q_E d q_K15 62 [some (.inr (.inr (24, 6, 0))), some (.inl a1), some (.inl a2), some (.inl x5)] [] p15 (some (.inl r.1), r.2) := by
          intro p15 HF
          by_cases c30 : a2 = 0
          · rw [if_pos c30] at HF
            refine q_sw (o1 := 25) (pcx := 63) (pc' := 88) (loc' := [some (.inr (.inr (24, 6, 0))), some (.inl a1), some (.inl a2), some (.inl x5)]) (stk' := []) (h' := p15) 2 (fun _ _ => rfl) (q_tsI c30 rfl) rfl ?_
            obtain ⟨x16, hx17, HF⟩ := q_bind HF
            refine q_cll (m' := 45) (av := [.inr (.inr (24, 6, 0)), .inl x5]) (st' := []) (pc' := 93) (loc' := [some (.inr (.inr (24, 6, 0))), some (.inl a1), some (.inl a2), some (.inl x5)]) (h' := p15) 3 (fun _ _ => rfl) (eRp_answer (by omega) hx17) ?_
            have hz := Option.some.inj HF
            subst hz
            exact q_rtn 1 (fun _ _ => rfl)
          · rw [if_neg c30] at HF
            by_cases c31 : a2 = 1
            · rw [if_pos c31] at HF
              refine q_sw (o1 := 31) (pcx := 63) (pc' := 94) (loc' := [some (.inr (.inr (24, 6, 0))), some (.inl a1), some (.inl a2), some (.inl x5)]) (stk' := []) (h' := p15) 2 (fun _ _ => rfl) (q_tsI c31 rfl) rfl ?_
              obtain ⟨x18, hx19, HF⟩ := q_bind HF
              refine q_cll (m' := 107) (av := [.inr (.inr (6, 0, 0)), .inl a1]) (st' := [.inr (.inr (24, 6, 0))]) (pc' := 106) (loc' := [some (.inr (.inr (24, 6, 0))), some (.inl a1), some (.inl a2), some (.inl x5)]) (h' := p15) 6 (fun _ _ => rfl) (eTn_lowOf (by omega) hx19) ?_
              obtain ⟨x20, hx21, HF⟩ := q_bind HF
              refine q_cll (m' := 45) (av := [.inr (.inr (24, 6, 0)), .inl x18]) (st' := []) (pc' := 109) (loc' := [some (.inr (.inr (24, 6, 0))), some (.inl a1), some (.inl a2), some (.inl x5)]) (h' := p15) 1 (fun _ _ => rfl) (eRp_answer (by omega) hx21) ?_
              have hz := Option.some.inj HF
              subst hz
              exact q_rtn 1 (fun _ _ => rfl)
            · rw [if_neg c31] at HF
              by_cases c32 : a2 = 2
              · rw [if_pos c32] at HF
                refine q_sw (o1 := 47) (pcx := 63) (pc' := 110) (loc' := [some (.inr (.inr (24, 6, 0))), some (.inl a1), some (.inl a2), some (.inl x5)]) (stk' := []) (h' := p15) 2 (fun _ _ => rfl) (q_tsI c32 rfl) rfl ?_
                obtain ⟨x22, hx23, HF⟩ := q_bind HF
                refine q_cll (m' := 109) (av := [.inr (.inr (6, 0, 0)), .inl a1]) (st' := [.inr (.inr (24, 6, 0))]) (pc' := 122) (loc' := [some (.inr (.inr (24, 6, 0))), some (.inl a1), some (.inl a2), some (.inl x5)]) (h' := p15) 6 (fun _ _ => rfl) (eTn_howManyNoted (by omega) hx23) ?_
                obtain ⟨x24, hx25, HF⟩ := q_bind HF
                refine q_cll (m' := 45) (av := [.inr (.inr (24, 6, 0)), .inl x22]) (st' := []) (pc' := 125) (loc' := [some (.inr (.inr (24, 6, 0))), some (.inl a1), some (.inl a2), some (.inl x5)]) (h' := p15) 1 (fun _ _ => rfl) (eRp_answer (by omega) hx25) ?_
                have hz := Option.some.inj HF
                subst hz
                exact q_rtn 1 (fun _ _ => rfl)
              · rw [if_neg c32] at HF
                refine q_sw (o1 := 63) (pcx := 63) (pc' := 126) (loc' := [some (.inr (.inr (24, 6, 0))), some (.inl a1), some (.inl a2), some (.inl x5)]) (stk' := []) (h' := p15) 2 (fun _ _ => rfl) (q_tsD (a := a2) (lo := 0) (hi := 2) (by have z0 := q_neI c30 (a := 0) rfl; have z1 := q_neI c31 (a := 1) rfl; have z2 := q_neI c32 (a := 2) rfl; omega)) rfl ?_
                obtain ⟨x26, hx27, HF⟩ := q_bind HF
                refine q_cll (m' := 108) (av := [.inr (.inr (6, 0, 0)), .inl a1]) (st' := [.inr (.inr (24, 6, 0))]) (pc' := 138) (loc' := [some (.inr (.inr (24, 6, 0))), some (.inl a1), some (.inl a2), some (.inl x5)]) (h' := p15) 6 (fun _ _ => rfl) (eTn_waitsFor (by omega) hx27) ?_
                obtain ⟨x28, hx29, HF⟩ := q_bind HF
                refine q_cll (m' := 45) (av := [.inr (.inr (24, 6, 0)), .inl x26]) (st' := []) (pc' := 141) (loc' := [some (.inr (.inr (24, 6, 0))), some (.inl a1), some (.inl a2), some (.inl x5)]) (h' := p15) 1 (fun _ _ => rfl) (eRp_answer (by omega) hx29) ?_
                have hz := Option.some.inj HF
                subst hz
                exact q_rtn 1 (fun _ _ => rfl)
        replace HF := HA8
        refine q_br (P := ¬ a2 = (1 : Int32)) (pcT := 62) (pcF := 52) (loc' := [some (.inr (.inr (24, 6, 0))), some (.inl a1), some (.inl a2), some (.inl x5)]) (stk' := []) (h' := h) 4 (fun _ _ => rfl) (fun c14 => ?_) (fun c14 => ?_)
        · rw [if_pos c14] at HF
          have hz := Option.some.inj HF
          subst hz
          exact hP10 (h) HK9
        · rw [if_neg c14] at HF
          refine q_br (P := x5 = 0) (pcT := 62) (pcF := 56) (loc' := [some (.inr (.inr (24, 6, 0))), some (.inl a1), some (.inl a2), some (.inl x5)]) (stk' := []) (h' := h) 2 (fun _ _ => rfl) (fun c13 => ?_) (fun c13 => ?_)
          · rw [if_pos c13] at HF
            have hz := Option.some.inj HF
            subst hz
            exact hP10 (h) HK9
          · rw [if_neg c13] at HF
            obtain ⟨x11, hx12, HF⟩ := q_bind HF
            refine q_cll (m' := 46) (av := [.inr (.inr (24, 6, 0)), .inl (5 : Int32)]) (st' := []) (pc' := 61) (loc' := [some (.inr (.inr (24, 6, 0))), some (.inl a1), some (.inl a2), some (.inl x5)]) (h' := h) 3 (fun _ _ => rfl) (eRp_refuse (by omega) hx12) ?_
            have hz := Option.some.inj HF
            subst hz
            replace HF := HK9
            have hz := Option.some.inj HF
            subst hz
            exact q_rtn 1 (fun _ _ => rfl)
      · rw [if_neg c36] at HF
        obtain ⟨x34, hx35, HF⟩ := q_bind HF
        refine q_cll (m' := 46) (av := [.inr (.inr (24, 6, 0)), .inl (2 : Int32)]) (st' := []) (pc' := 34) (loc' := [some (.inr (.inr (24, 6, 0))), some (.inl a1), some (.inl a2), none]) (h' := h) 3 (fun _ _ => rfl) (eRp_refuse (by omega) hx35) ?_
        have hz := Option.some.inj HF
        subst hz
        exact q_rtn 1 (fun _ _ => rfl)
    · rw [if_neg c39] at HF
      obtain ⟨x37, hx38, HF⟩ := q_bind HF
      refine q_cll (m' := 46) (av := [.inr (.inr (24, 6, 0)), .inl (1 : Int32)]) (st' := []) (pc' := 14) (loc' := [some (.inr (.inr (24, 6, 0))), some (.inl a1), some (.inl a2), none]) (h' := h) 3 (fun _ _ => rfl) (eRp_refuse (by omega) hx38) ?_
      have hz := Option.some.inj HF
      subst hz
      exact q_rtn 1 (fun _ _ => rfl)
def Rp_versions (a1 : Int32) (h : q_H) : Option (Int32 × q_H) :=
  (St_hasRow 0 a1 h).bind fun x1 => if x1 = 0 then ((Rp_refuse (2 : Int32) h).bind fun x3 => some ((x3.1, x3.2))) else ((St_versionsOf 0 a1 h).bind fun x5 => (Rp_answer x5 h).bind fun x7 => some ((x7.1, x7.2)))
set_option maxRecDepth 100000 in
set_option maxHeartbeats 4000000 in
theorem eRp_versions {d : Nat} (hd : 3 ≤ d) {a1 : Int32} {h : q_H} {r : (Int32 × q_H)} (HF : Rp_versions a1 h = some r) : q_T d 18 [.inr (.inr (24, 6, 0)), .inl a1] h (some (.inl r.1), r.2) := by
  obtain ⟨d, rfl⟩ : ∃ d', d = d' + 1 := ⟨d - 1, by omega⟩
  refine q_ent q_K18 rfl rfl rfl ?_
  unfold Rp_versions at HF
  obtain ⟨x1, hx2, HF⟩ := q_bind HF
  refine q_cll (m' := 144) (av := [.inr (.inr (0, 0, 0)), .inl a1]) (st' := []) (pc' := 8) (loc' := [some (.inr (.inr (24, 6, 0))), some (.inl a1)]) (h' := h) 4 (fun _ _ => rfl) (eSt_hasRow (by omega) hx2) ?_
  refine q_br (P := x1 = 0) (pcT := 26) (pcF := 11) (loc' := [some (.inr (.inr (24, 6, 0))), some (.inl a1)]) (stk' := []) (h' := h) 1 (fun _ _ => rfl) (fun c9 => ?_) (fun c9 => ?_)
  · rw [if_pos c9] at HF
    obtain ⟨x3, hx4, HF⟩ := q_bind HF
    refine q_cll (m' := 46) (av := [.inr (.inr (24, 6, 0)), .inl (2 : Int32)]) (st' := []) (pc' := 31) (loc' := [some (.inr (.inr (24, 6, 0))), some (.inl a1)]) (h' := h) 3 (fun _ _ => rfl) (eRp_refuse (by omega) hx4) ?_
    have hz := Option.some.inj HF
    subst hz
    exact q_rtn 1 (fun _ _ => rfl)
  · rw [if_neg c9] at HF
    obtain ⟨x5, hx6, HF⟩ := q_bind HF
    refine q_cll (m' := 150) (av := [.inr (.inr (0, 0, 0)), .inl a1]) (st' := [.inr (.inr (24, 6, 0))]) (pc' := 20) (loc' := [some (.inr (.inr (24, 6, 0))), some (.inl a1)]) (h' := h) 5 (fun _ _ => rfl) (eSt_versionsOf (by omega) hx6) ?_
    obtain ⟨x7, hx8, HF⟩ := q_bind HF
    refine q_cll (m' := 45) (av := [.inr (.inr (24, 6, 0)), .inl x5]) (st' := []) (pc' := 23) (loc' := [some (.inr (.inr (24, 6, 0))), some (.inl a1)]) (h' := h) 1 (fun _ _ => rfl) (eRp_answer (by omega) hx8) ?_
    have hz := Option.some.inj HF
    subst hz
    exact q_rtn 2 (fun _ _ => rfl)
def Rp_event (a1 : Int32) (a2 : Int32) (h : q_H) : Option (Int32 × q_H) :=
  if a1 < 0 then ((Rp_refuse (1 : Int32) h).bind fun x1 => some ((x1.1, x1.2))) else (if (24 : Int32) ≤ a1 then ((Rp_refuse (1 : Int32) h).bind fun x3 => some ((x3.1, x3.2))) else (if a2 < 0 then ((Rp_refuse (1 : Int32) h).bind fun x5 => some ((x5.1, x5.2))) else (if a2 ≤ (1 : Int32) then (if a1 < (h.1 15 3 0 0) then (if ¬ a2 = 0 then ((Lg_numberAt 0 a1 h).bind fun x7 => (Rp_answer x7 h).bind fun x9 => some ((x9.1, x9.2))) else ((Lg_kindAt 0 a1 h).bind fun x11 => (Rp_answer x11 h).bind fun x13 => some ((x13.1, x13.2)))) else ((Rp_refuse (5 : Int32) h).bind fun x16 => some ((x16.1, x16.2)))) else ((Rp_refuse (1 : Int32) h).bind fun x19 => some ((x19.1, x19.2))))))
set_option maxRecDepth 100000 in
set_option maxHeartbeats 4000000 in
theorem eRp_event {d : Nat} (hd : 3 ≤ d) {a1 : Int32} {a2 : Int32} {h : q_H} {r : (Int32 × q_H)} (HF : Rp_event a1 a2 h = some r) : q_T d 20 [.inr (.inr (24, 6, 0)), .inl a1, .inl a2] h (some (.inl r.1), r.2) := by
  obtain ⟨d, rfl⟩ : ∃ d', d = d' + 1 := ⟨d - 1, by omega⟩
  refine q_ent q_K20 rfl rfl rfl ?_
  unfold Rp_event at HF
  refine q_br (P := a1 < 0) (pcT := 19) (pcF := 4) (loc' := [some (.inr (.inr (24, 6, 0))), some (.inl a1), some (.inl a2)]) (stk' := []) (h' := h) 2 (fun _ _ => rfl) (fun c24 => ?_) (fun c24 => ?_)
  · rw [if_pos c24] at HF
    obtain ⟨x1, hx2, HF⟩ := q_bind HF
    refine q_cll (m' := 46) (av := [.inr (.inr (24, 6, 0)), .inl (1 : Int32)]) (st' := []) (pc' := 24) (loc' := [some (.inr (.inr (24, 6, 0))), some (.inl a1), some (.inl a2)]) (h' := h) 3 (fun _ _ => rfl) (eRp_refuse (by omega) hx2) ?_
    have hz := Option.some.inj HF
    subst hz
    exact q_rtn 1 (fun _ _ => rfl)
  · rw [if_neg c24] at HF
    refine q_br (P := (24 : Int32) ≤ a1) (pcT := 19) (pcF := 10) (loc' := [some (.inr (.inr (24, 6, 0))), some (.inl a1), some (.inl a2)]) (stk' := []) (h' := h) 3 (fun _ _ => rfl) (fun c23 => ?_) (fun c23 => ?_)
    · rw [if_pos c23] at HF
      obtain ⟨x3, hx4, HF⟩ := q_bind HF
      refine q_cll (m' := 46) (av := [.inr (.inr (24, 6, 0)), .inl (1 : Int32)]) (st' := []) (pc' := 24) (loc' := [some (.inr (.inr (24, 6, 0))), some (.inl a1), some (.inl a2)]) (h' := h) 3 (fun _ _ => rfl) (eRp_refuse (by omega) hx4) ?_
      have hz := Option.some.inj HF
      subst hz
      exact q_rtn 1 (fun _ _ => rfl)
    · rw [if_neg c23] at HF
      refine q_br (P := a2 < 0) (pcT := 19) (pcF := 14) (loc' := [some (.inr (.inr (24, 6, 0))), some (.inl a1), some (.inl a2)]) (stk' := []) (h' := h) 2 (fun _ _ => rfl) (fun c22 => ?_) (fun c22 => ?_)
      · rw [if_pos c22] at HF
        obtain ⟨x5, hx6, HF⟩ := q_bind HF
        refine q_cll (m' := 46) (av := [.inr (.inr (24, 6, 0)), .inl (1 : Int32)]) (st' := []) (pc' := 24) (loc' := [some (.inr (.inr (24, 6, 0))), some (.inl a1), some (.inl a2)]) (h' := h) 3 (fun _ _ => rfl) (eRp_refuse (by omega) hx6) ?_
        have hz := Option.some.inj HF
        subst hz
        exact q_rtn 1 (fun _ _ => rfl)
      · rw [if_neg c22] at HF
        refine q_br (P := a2 ≤ (1 : Int32)) (pcT := 25) (pcF := 19) (loc' := [some (.inr (.inr (24, 6, 0))), some (.inl a1), some (.inl a2)]) (stk' := []) (h' := h) 3 (fun _ _ => rfl) (fun c21 => ?_) (fun c21 => ?_)
        · rw [if_pos c21] at HF
          refine q_br (P := a1 < (h.1 15 3 0 0)) (pcT := 45) (pcF := 39) (loc' := [some (.inr (.inr (24, 6, 0))), some (.inl a1), some (.inl a2)]) (stk' := []) (h' := h) 6 (fun _ _ => rfl) (fun c18 => ?_) (fun c18 => ?_)
          · rw [if_pos c18] at HF
            refine q_br (P := ¬ a2 = 0) (pcT := 64) (pcF := 50) (loc' := [some (.inr (.inr (24, 6, 0))), some (.inl a1), some (.inl a2)]) (stk' := [.inr (.inr (24, 6, 0))]) (h' := h) 3 (fun _ _ => rfl) (fun c15 => ?_) (fun c15 => ?_)
            · rw [if_pos c15] at HF
              obtain ⟨x7, hx8, HF⟩ := q_bind HF
              refine q_cll (m' := 84) (av := [.inr (.inr (15, 0, 0)), .inl a1]) (st' := [.inr (.inr (24, 6, 0))]) (pc' := 75) (loc' := [some (.inr (.inr (24, 6, 0))), some (.inl a1), some (.inl a2)]) (h' := h) 5 (fun _ _ => rfl) (eLg_numberAt (by omega) hx8) ?_
              obtain ⟨x9, hx10, HF⟩ := q_bind HF
              refine q_cll (m' := 45) (av := [.inr (.inr (24, 6, 0)), .inl x7]) (st' := []) (pc' := 78) (loc' := [some (.inr (.inr (24, 6, 0))), some (.inl a1), some (.inl a2)]) (h' := h) 1 (fun _ _ => rfl) (eRp_answer (by omega) hx10) ?_
              have hz := Option.some.inj HF
              subst hz
              exact q_rtn 1 (fun _ _ => rfl)
            · rw [if_neg c15] at HF
              obtain ⟨x11, hx12, HF⟩ := q_bind HF
              refine q_cll (m' := 83) (av := [.inr (.inr (15, 0, 0)), .inl a1]) (st' := [.inr (.inr (24, 6, 0))]) (pc' := 61) (loc' := [some (.inr (.inr (24, 6, 0))), some (.inl a1), some (.inl a2)]) (h' := h) 5 (fun _ _ => rfl) (eLg_kindAt (by omega) hx12) ?_
              obtain ⟨x13, hx14, HF⟩ := q_bind HF
              refine q_cll (m' := 45) (av := [.inr (.inr (24, 6, 0)), .inl x11]) (st' := []) (pc' := 78) (loc' := [some (.inr (.inr (24, 6, 0))), some (.inl a1), some (.inl a2)]) (h' := h) 2 (fun _ _ => rfl) (eRp_answer (by omega) hx14) ?_
              have hz := Option.some.inj HF
              subst hz
              exact q_rtn 1 (fun _ _ => rfl)
          · rw [if_neg c18] at HF
            obtain ⟨x16, hx17, HF⟩ := q_bind HF
            refine q_cll (m' := 46) (av := [.inr (.inr (24, 6, 0)), .inl (5 : Int32)]) (st' := []) (pc' := 44) (loc' := [some (.inr (.inr (24, 6, 0))), some (.inl a1), some (.inl a2)]) (h' := h) 3 (fun _ _ => rfl) (eRp_refuse (by omega) hx17) ?_
            have hz := Option.some.inj HF
            subst hz
            exact q_rtn 1 (fun _ _ => rfl)
        · rw [if_neg c21] at HF
          obtain ⟨x19, hx20, HF⟩ := q_bind HF
          refine q_cll (m' := 46) (av := [.inr (.inr (24, 6, 0)), .inl (1 : Int32)]) (st' := []) (pc' := 24) (loc' := [some (.inr (.inr (24, 6, 0))), some (.inl a1), some (.inl a2)]) (h' := h) 3 (fun _ _ => rfl) (eRp_refuse (by omega) hx20) ?_
          have hz := Option.some.inj HF
          subst hz
          exact q_rtn 1 (fun _ _ => rfl)
def Rp_found (a1 : Int32) (a2 : Int32) (h : q_H) : Option (Int32 × q_H) :=
  if a1 < 0 then ((Rp_refuse (1 : Int32) h).bind fun x1 => some ((x1.1, x1.2))) else (if a2 < 0 then ((Rp_refuse (1 : Int32) h).bind fun x3 => some ((x3.1, x3.2))) else (if a2 ≤ (4 : Int32) then (if a1 < (h.1 19 4 0 0) then ((Fo_told 0 a1 a2 h).bind fun x5 => (Rp_answer x5 h).bind fun x7 => some ((x7.1, x7.2))) else ((Rp_refuse (5 : Int32) h).bind fun x9 => some ((x9.1, x9.2)))) else ((Rp_refuse (1 : Int32) h).bind fun x12 => some ((x12.1, x12.2)))))
set_option maxRecDepth 100000 in
set_option maxHeartbeats 4000000 in
theorem eRp_found {d : Nat} (hd : 3 ≤ d) {a1 : Int32} {a2 : Int32} {h : q_H} {r : (Int32 × q_H)} (HF : Rp_found a1 a2 h = some r) : q_T d 31 [.inr (.inr (24, 6, 0)), .inl a1, .inl a2] h (some (.inl r.1), r.2) := by
  obtain ⟨d, rfl⟩ : ∃ d', d = d' + 1 := ⟨d - 1, by omega⟩
  refine q_ent q_K31 rfl rfl rfl ?_
  unfold Rp_found at HF
  refine q_br (P := a1 < 0) (pcT := 13) (pcF := 4) (loc' := [some (.inr (.inr (24, 6, 0))), some (.inl a1), some (.inl a2)]) (stk' := []) (h' := h) 2 (fun _ _ => rfl) (fun c16 => ?_) (fun c16 => ?_)
  · rw [if_pos c16] at HF
    obtain ⟨x1, hx2, HF⟩ := q_bind HF
    refine q_cll (m' := 46) (av := [.inr (.inr (24, 6, 0)), .inl (1 : Int32)]) (st' := []) (pc' := 18) (loc' := [some (.inr (.inr (24, 6, 0))), some (.inl a1), some (.inl a2)]) (h' := h) 3 (fun _ _ => rfl) (eRp_refuse (by omega) hx2) ?_
    have hz := Option.some.inj HF
    subst hz
    exact q_rtn 1 (fun _ _ => rfl)
  · rw [if_neg c16] at HF
    refine q_br (P := a2 < 0) (pcT := 13) (pcF := 8) (loc' := [some (.inr (.inr (24, 6, 0))), some (.inl a1), some (.inl a2)]) (stk' := []) (h' := h) 2 (fun _ _ => rfl) (fun c15 => ?_) (fun c15 => ?_)
    · rw [if_pos c15] at HF
      obtain ⟨x3, hx4, HF⟩ := q_bind HF
      refine q_cll (m' := 46) (av := [.inr (.inr (24, 6, 0)), .inl (1 : Int32)]) (st' := []) (pc' := 18) (loc' := [some (.inr (.inr (24, 6, 0))), some (.inl a1), some (.inl a2)]) (h' := h) 3 (fun _ _ => rfl) (eRp_refuse (by omega) hx4) ?_
      have hz := Option.some.inj HF
      subst hz
      exact q_rtn 1 (fun _ _ => rfl)
    · rw [if_neg c15] at HF
      refine q_br (P := a2 ≤ (4 : Int32)) (pcT := 19) (pcF := 13) (loc' := [some (.inr (.inr (24, 6, 0))), some (.inl a1), some (.inl a2)]) (stk' := []) (h' := h) 3 (fun _ _ => rfl) (fun c14 => ?_) (fun c14 => ?_)
      · rw [if_pos c14] at HF
        refine q_br (P := a1 < (h.1 19 4 0 0)) (pcT := 39) (pcF := 33) (loc' := [some (.inr (.inr (24, 6, 0))), some (.inl a1), some (.inl a2)]) (stk' := []) (h' := h) 6 (fun _ _ => rfl) (fun c11 => ?_) (fun c11 => ?_)
        · rw [if_pos c11] at HF
          obtain ⟨x5, hx6, HF⟩ := q_bind HF
          refine q_cll (m' := 69) (av := [.inr (.inr (19, 0, 0)), .inl a1, .inl a2]) (st' := [.inr (.inr (24, 6, 0))]) (pc' := 52) (loc' := [some (.inr (.inr (24, 6, 0))), some (.inl a1), some (.inl a2)]) (h' := h) 7 (fun _ _ => rfl) (eFo_told (by omega) hx6) ?_
          obtain ⟨x7, hx8, HF⟩ := q_bind HF
          refine q_cll (m' := 45) (av := [.inr (.inr (24, 6, 0)), .inl x5]) (st' := []) (pc' := 55) (loc' := [some (.inr (.inr (24, 6, 0))), some (.inl a1), some (.inl a2)]) (h' := h) 1 (fun _ _ => rfl) (eRp_answer (by omega) hx8) ?_
          have hz := Option.some.inj HF
          subst hz
          exact q_rtn 1 (fun _ _ => rfl)
        · rw [if_neg c11] at HF
          obtain ⟨x9, hx10, HF⟩ := q_bind HF
          refine q_cll (m' := 46) (av := [.inr (.inr (24, 6, 0)), .inl (5 : Int32)]) (st' := []) (pc' := 38) (loc' := [some (.inr (.inr (24, 6, 0))), some (.inl a1), some (.inl a2)]) (h' := h) 3 (fun _ _ => rfl) (eRp_refuse (by omega) hx10) ?_
          have hz := Option.some.inj HF
          subst hz
          exact q_rtn 1 (fun _ _ => rfl)
      · rw [if_neg c14] at HF
        obtain ⟨x12, hx13, HF⟩ := q_bind HF
        refine q_cll (m' := 46) (av := [.inr (.inr (24, 6, 0)), .inl (1 : Int32)]) (st' := []) (pc' := 18) (loc' := [some (.inr (.inr (24, 6, 0))), some (.inl a1), some (.inl a2)]) (h' := h) 3 (fun _ _ => rfl) (eRp_refuse (by omega) hx13) ?_
        have hz := Option.some.inj HF
        subst hz
        exact q_rtn 1 (fun _ _ => rfl)
def Rp_asFree (a1 : Int32) (h : q_H) : Option Int32 :=
  (Rp_asOpen a1 h).bind fun x1 => if ¬ x1 = 0 then (some (x1)) else ((Tn_waitsFor 0 a1 h).bind fun x3 => if x3 = (-1 : Int32) then (some (x1)) else (some ((11 : Int32))))
set_option maxRecDepth 100000 in
set_option maxHeartbeats 4000000 in
theorem eRp_asFree {d : Nat} (hd : 3 ≤ d) {a1 : Int32} {h : q_H} {r : Int32} (HF : Rp_asFree a1 h = some r) : q_T d 48 [.inr (.inr (24, 6, 0)), .inl a1] h (some (.inl r), h) := by
  obtain ⟨d, rfl⟩ : ∃ d', d = d' + 1 := ⟨d - 1, by omega⟩
  refine q_ent q_K48 rfl rfl rfl ?_
  unfold Rp_asFree at HF
  obtain ⟨x1, hx2, HF⟩ := q_bind HF
  refine q_cll (m' := 47) (av := [.inr (.inr (24, 6, 0)), .inl a1]) (st' := []) (pc' := 5) (loc' := [some (.inr (.inr (24, 6, 0))), some (.inl a1), none]) (h' := h) 3 (fun _ _ => rfl) (eRp_asOpen (by omega) hx2) ?_
  refine q_br (P := ¬ x1 = 0) (pcT := 30) (pcF := 10) (loc' := [some (.inr (.inr (24, 6, 0))), some (.inl a1), some (.inl x1)]) (stk' := []) (h' := h) 3 (fun _ _ => rfl) (fun c6 => ?_) (fun c6 => ?_)
  · rw [if_pos c6] at HF
    have hz := Option.some.inj HF
    subst hz
    exact q_rtn 2 (fun _ _ => rfl)
  · rw [if_neg c6] at HF
    obtain ⟨x3, hx4, HF⟩ := q_bind HF
    refine q_cll (m' := 108) (av := [.inr (.inr (6, 0, 0)), .inl a1]) (st' := []) (pc' := 21) (loc' := [some (.inr (.inr (24, 6, 0))), some (.inl a1), some (.inl x1)]) (h' := h) 5 (fun _ _ => rfl) (eTn_waitsFor (by omega) hx4) ?_
    refine q_br (P := x3 = (-1 : Int32)) (pcT := 30) (pcF := 25) (loc' := [some (.inr (.inr (24, 6, 0))), some (.inl a1), some (.inl x1)]) (stk' := []) (h' := h) 2 (fun _ _ => rfl) (fun c5 => ?_) (fun c5 => ?_)
    · rw [if_pos c5] at HF
      have hz := Option.some.inj HF
      subst hz
      exact q_rtn 2 (fun _ _ => rfl)
    · rw [if_neg c5] at HF
      have hz := Option.some.inj HF
      subst hz
      exact q_rtn 3 (fun _ _ => rfl)
def Rp_countGained (a1 : Int32) (h : q_H) : Option Int32 :=
  (Lg_countOf 1 a1 h).bind fun x1 => (Lg_countOf 0 a1 h).bind fun x3 => some ((x1 - x3))
set_option maxRecDepth 100000 in
set_option maxHeartbeats 4000000 in
theorem eRp_countGained {d : Nat} (hd : 3 ≤ d) {a1 : Int32} {h : q_H} {r : Int32} (HF : Rp_countGained a1 h = some r) : q_T d 52 [.inr (.inr (24, 6, 0)), .inl a1] h (some (.inl r), h) := by
  obtain ⟨d, rfl⟩ : ∃ d', d = d' + 1 := ⟨d - 1, by omega⟩
  refine q_ent q_K52 rfl rfl rfl ?_
  unfold Rp_countGained at HF
  obtain ⟨x1, hx2, HF⟩ := q_bind HF
  refine q_cll (m' := 86) (av := [.inr (.inr (15, 1, 0)), .inl a1]) (st' := []) (pc' := 11) (loc' := [some (.inr (.inr (24, 6, 0))), some (.inl a1)]) (h' := h) 5 (fun _ _ => rfl) (eLg_countOf (by omega) hx2) ?_
  obtain ⟨x3, hx4, HF⟩ := q_bind HF
  refine q_cll (m' := 86) (av := [.inr (.inr (15, 0, 0)), .inl a1]) (st' := [.inl x1]) (pc' := 22) (loc' := [some (.inr (.inr (24, 6, 0))), some (.inl a1)]) (h' := h) 5 (fun _ _ => rfl) (eLg_countOf (by omega) hx4) ?_
  have hz := Option.some.inj HF
  subst hz
  exact q_rtn 2 (fun _ _ => rfl)
def Fo_copyFrom (k : Nat) (k1 : Nat) (h : q_H) : Option q_H :=
  (Rp_copy 20 k1 20 k h).bind fun x1 => (Rp_copy 21 k1 21 k x1).bind fun x3 => (Rp_copy 22 k1 22 k x3).bind fun x5 => (Rp_copy 23 k1 23 k x5).bind fun x7 => some ((q_si x7 19 4 k 0 (x7.1 19 4 k1 0)))
set_option maxRecDepth 100000 in
set_option maxHeartbeats 4000000 in
theorem eFo_copyFrom {d : Nat} (hd : 3 ≤ d) {k : Nat} {k1 : Nat} {h : q_H} {r : q_H} (HF : Fo_copyFrom k k1 h = some r) : q_T d 67 [.inr (.inr (19, k, 0)), .inr (.inr (19, k1, 0))] h (none, r) := by
  obtain ⟨d, rfl⟩ : ∃ d', d = d' + 1 := ⟨d - 1, by omega⟩
  refine q_ent q_K67 rfl rfl rfl ?_
  unfold Fo_copyFrom at HF
  obtain ⟨x1, hx2, HF⟩ := q_bind HF
  refine q_cll (m' := 62) (av := [.inr (.inr (20, k1, 0)), .inr (.inr (20, k, 0))]) (st' := []) (pc' := 11) (loc' := [some (.inr (.inr (19, k, 0))), some (.inr (.inr (19, k1, 0)))]) (h' := h) 5 (fun _ _ => rfl) (eRp_copy (by omega) hx2) ?_
  obtain ⟨x3, hx4, HF⟩ := q_bind HF
  refine q_cll (m' := 62) (av := [.inr (.inr (21, k1, 0)), .inr (.inr (21, k, 0))]) (st' := []) (pc' := 22) (loc' := [some (.inr (.inr (19, k, 0))), some (.inr (.inr (19, k1, 0)))]) (h' := x1) 5 (fun _ _ => rfl) (eRp_copy (by omega) hx4) ?_
  obtain ⟨x5, hx6, HF⟩ := q_bind HF
  refine q_cll (m' := 62) (av := [.inr (.inr (22, k1, 0)), .inr (.inr (22, k, 0))]) (st' := []) (pc' := 33) (loc' := [some (.inr (.inr (19, k, 0))), some (.inr (.inr (19, k1, 0)))]) (h' := x3) 5 (fun _ _ => rfl) (eRp_copy (by omega) hx6) ?_
  obtain ⟨x7, hx8, HF⟩ := q_bind HF
  refine q_cll (m' := 62) (av := [.inr (.inr (23, k1, 0)), .inr (.inr (23, k, 0))]) (st' := []) (pc' := 44) (loc' := [some (.inr (.inr (19, k, 0))), some (.inr (.inr (19, k1, 0)))]) (h' := x5) 5 (fun _ _ => rfl) (eRp_copy (by omega) hx8) ?_
  have hz := Option.some.inj HF
  subst hz
  exact q_rtn 5 (fun _ _ => rfl)
def Ix_copyFrom (k : Nat) (k1 : Nat) (h : q_H) : Option q_H :=
  (Rp_copy 12 k1 12 k h).bind fun x1 => (Rp_copy 13 k1 13 k x1).bind fun x3 => (Rp_copy 14 k1 14 k x3).bind fun x5 => some ((q_si x5 11 3 k 0 (x5.1 11 3 k1 0)))
set_option maxRecDepth 100000 in
set_option maxHeartbeats 4000000 in
theorem eIx_copyFrom {d : Nat} (hd : 3 ≤ d) {k : Nat} {k1 : Nat} {h : q_H} {r : q_H} (HF : Ix_copyFrom k k1 h = some r) : q_T d 70 [.inr (.inr (11, k, 0)), .inr (.inr (11, k1, 0))] h (none, r) := by
  obtain ⟨d, rfl⟩ : ∃ d', d = d' + 1 := ⟨d - 1, by omega⟩
  refine q_ent q_K70 rfl rfl rfl ?_
  unfold Ix_copyFrom at HF
  obtain ⟨x1, hx2, HF⟩ := q_bind HF
  refine q_cll (m' := 62) (av := [.inr (.inr (12, k1, 0)), .inr (.inr (12, k, 0))]) (st' := []) (pc' := 11) (loc' := [some (.inr (.inr (11, k, 0))), some (.inr (.inr (11, k1, 0)))]) (h' := h) 5 (fun _ _ => rfl) (eRp_copy (by omega) hx2) ?_
  obtain ⟨x3, hx4, HF⟩ := q_bind HF
  refine q_cll (m' := 62) (av := [.inr (.inr (13, k1, 0)), .inr (.inr (13, k, 0))]) (st' := []) (pc' := 22) (loc' := [some (.inr (.inr (11, k, 0))), some (.inr (.inr (11, k1, 0)))]) (h' := x1) 5 (fun _ _ => rfl) (eRp_copy (by omega) hx4) ?_
  obtain ⟨x5, hx6, HF⟩ := q_bind HF
  refine q_cll (m' := 62) (av := [.inr (.inr (14, k1, 0)), .inr (.inr (14, k, 0))]) (st' := []) (pc' := 33) (loc' := [some (.inr (.inr (11, k, 0))), some (.inr (.inr (11, k1, 0)))]) (h' := x3) 5 (fun _ _ => rfl) (eRp_copy (by omega) hx6) ?_
  have hz := Option.some.inj HF
  subst hz
  exact q_rtn 5 (fun _ _ => rfl)
def Ix_add (k : Nat) (a1 : Int32) (a2 : Int32) (h : q_H) : Option q_H :=
  if (h.1 11 3 k 0) < (60 : Int32) then ((q_lp (fun s1 : Int32 × q_H => (if s1.1 ≤ 0 then ((Rp_put 12 k s1.1 a1 s1.2).bind fun x9 => (Rp_put 13 k s1.1 a2 x9).bind fun x11 => (Rp_put 14 k s1.1 (0 : Int32) x11).bind fun x13 => some (.inr ((q_si x13 11 3 k 0 ((x13.1 11 3 k 0) + (1 : Int32)))))) else ((Ix_isBehind k (s1.1 - (1 : Int32)) a1 a2 s1.2).bind fun x15 => if x15 = 0 then ((Rp_put 12 k s1.1 a1 s1.2).bind fun x17 => (Rp_put 13 k s1.1 a2 x17).bind fun x19 => (Rp_put 14 k s1.1 (0 : Int32) x19).bind fun x21 => some (.inr ((q_si x21 11 3 k 0 ((x21.1 11 3 k 0) + (1 : Int32)))))) else ((Ix_move k (s1.1 - (1 : Int32)) s1.1 s1.2).bind fun x23 => some (.inl ((s1.1 + (-1 : Int32)), x23)))) : Option ((Int32 × q_H) ⊕ q_H))) q_fu (((h.1 11 3 k 0), h) : Int32 × q_H)).bind fun z8 => some z8) else (some (h))
set_option maxRecDepth 100000 in
set_option maxHeartbeats 4000000 in
theorem eIx_add {d : Nat} (hd : 3 ≤ d) {k : Nat} {a1 : Int32} {a2 : Int32} {h : q_H} {r : q_H} (HF : Ix_add k a1 a2 h = some r) : q_T d 77 [.inr (.inr (11, k, 0)), .inl a1, .inl a2] h (none, r) := by
  obtain ⟨d, rfl⟩ : ∃ d', d = d' + 1 := ⟨d - 1, by omega⟩
  refine q_ent q_K77 rfl rfl rfl ?_
  unfold Ix_add at HF
  refine q_br (P := (h.1 11 3 k 0) < (60 : Int32)) (pcT := 10) (pcF := 9) (loc' := [some (.inr (.inr (11, k, 0))), some (.inl a1), some (.inl a2), none]) (stk' := []) (h' := h) 4 (fun _ _ => rfl) (fun c27 => ?_) (fun c27 => ?_)
  · rw [if_pos c27] at HF
    refine q_blk (pc' := 15) (loc' := [some (.inr (.inr (11, k, 0))), some (.inl a1), some (.inl a2), some (.inl (h.1 11 3 k 0))]) (stk' := []) (h' := h) 3 (fun _ _ => rfl) ?_
    obtain ⟨r6, hl7, HK4⟩ := q_bind HF
    refine q_lpE (E := fun s1 => q_E d q_K77 15 [some (.inr (.inr (11, k, 0))), some (.inl a1), some (.inl a2), some (.inl s1.1)] [] s1.2 (none, r)) r6 (fun s1 z8 HF H12 H23 => ?_) _ _ hl7
    refine q_br (P := s1.1 ≤ 0) (pcT := 45) (pcF := 19) (loc' := [some (.inr (.inr (11, k, 0))), some (.inl a1), some (.inl a2), some (.inl s1.1)]) (stk' := []) (h' := s1.2) 2 (fun _ _ => rfl) (fun c26 => ?_) (fun c26 => ?_)
    · rw [if_pos c26] at HF
      obtain ⟨x9, hx10, HF⟩ := q_bind HF
      refine q_cll (m' := 61) (av := [.inr (.inr (12, k, 0)), .inl s1.1, .inl a1]) (st' := []) (pc' := 54) (loc' := [some (.inr (.inr (11, k, 0))), some (.inl a1), some (.inl a2), some (.inl s1.1)]) (h' := s1.2) 5 (fun _ _ => rfl) (eRp_put (by omega) hx10) ?_
      obtain ⟨x11, hx12, HF⟩ := q_bind HF
      refine q_cll (m' := 61) (av := [.inr (.inr (13, k, 0)), .inl s1.1, .inl a2]) (st' := []) (pc' := 63) (loc' := [some (.inr (.inr (11, k, 0))), some (.inl a1), some (.inl a2), some (.inl s1.1)]) (h' := x9) 5 (fun _ _ => rfl) (eRp_put (by omega) hx12) ?_
      obtain ⟨x13, hx14, HF⟩ := q_bind HF
      refine q_cll (m' := 61) (av := [.inr (.inr (14, k, 0)), .inl s1.1, .inl (0 : Int32)]) (st' := []) (pc' := 72) (loc' := [some (.inr (.inr (11, k, 0))), some (.inl a1), some (.inl a2), some (.inl s1.1)]) (h' := x11) 5 (fun _ _ => rfl) (eRp_put (by omega) hx14) ?_
      have hz := Option.some.inj HF
      subst hz
      replace HF := HK4
      rw [← H23 _ rfl] at HF
      have hz := Option.some.inj HF
      subst hz
      exact q_rtn 7 (fun _ _ => rfl)
    · rw [if_neg c26] at HF
      obtain ⟨x15, hx16, HF⟩ := q_bind HF
      refine q_cll (m' := 76) (av := [.inr (.inr (11, k, 0)), .inl (s1.1 - (1 : Int32)), .inl a1, .inl a2]) (st' := []) (pc' := 28) (loc' := [some (.inr (.inr (11, k, 0))), some (.inl a1), some (.inl a2), some (.inl s1.1)]) (h' := s1.2) 7 (fun _ _ => rfl) (eIx_isBehind (by omega) hx16) ?_
      refine q_br (P := x15 = 0) (pcT := 45) (pcF := 31) (loc' := [some (.inr (.inr (11, k, 0))), some (.inl a1), some (.inl a2), some (.inl s1.1)]) (stk' := []) (h' := s1.2) 1 (fun _ _ => rfl) (fun c25 => ?_) (fun c25 => ?_)
      · rw [if_pos c25] at HF
        obtain ⟨x17, hx18, HF⟩ := q_bind HF
        refine q_cll (m' := 61) (av := [.inr (.inr (12, k, 0)), .inl s1.1, .inl a1]) (st' := []) (pc' := 54) (loc' := [some (.inr (.inr (11, k, 0))), some (.inl a1), some (.inl a2), some (.inl s1.1)]) (h' := s1.2) 5 (fun _ _ => rfl) (eRp_put (by omega) hx18) ?_
        obtain ⟨x19, hx20, HF⟩ := q_bind HF
        refine q_cll (m' := 61) (av := [.inr (.inr (13, k, 0)), .inl s1.1, .inl a2]) (st' := []) (pc' := 63) (loc' := [some (.inr (.inr (11, k, 0))), some (.inl a1), some (.inl a2), some (.inl s1.1)]) (h' := x17) 5 (fun _ _ => rfl) (eRp_put (by omega) hx20) ?_
        obtain ⟨x21, hx22, HF⟩ := q_bind HF
        refine q_cll (m' := 61) (av := [.inr (.inr (14, k, 0)), .inl s1.1, .inl (0 : Int32)]) (st' := []) (pc' := 72) (loc' := [some (.inr (.inr (11, k, 0))), some (.inl a1), some (.inl a2), some (.inl s1.1)]) (h' := x19) 5 (fun _ _ => rfl) (eRp_put (by omega) hx22) ?_
        have hz := Option.some.inj HF
        subst hz
        replace HF := HK4
        rw [← H23 _ rfl] at HF
        have hz := Option.some.inj HF
        subst hz
        exact q_rtn 7 (fun _ _ => rfl)
      · rw [if_neg c25] at HF
        obtain ⟨x23, hx24, HF⟩ := q_bind HF
        refine q_cll (m' := 75) (av := [.inr (.inr (11, k, 0)), .inl (s1.1 - (1 : Int32)), .inl s1.1]) (st' := []) (pc' := 39) (loc' := [some (.inr (.inr (11, k, 0))), some (.inl a1), some (.inl a2), some (.inl s1.1)]) (h' := s1.2) 6 (fun _ _ => rfl) (eIx_move (by omega) hx24) ?_
        refine q_blk (pc' := 15) (loc' := [some (.inr (.inr (11, k, 0))), some (.inl a1), some (.inl a2), some (.inl (s1.1 + (-1 : Int32)))]) (stk' := []) (h' := x23) 2 (fun _ _ => rfl) ?_
        have hz := Option.some.inj HF
        subst hz
        exact H12 ((s1.1 + (-1 : Int32)), x23) rfl
  · rw [if_neg c27] at HF
    have hz := Option.some.inj HF
    subst hz
    exact q_rtn 1 (fun _ _ => rfl)
