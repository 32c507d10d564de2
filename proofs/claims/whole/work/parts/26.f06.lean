def Mo_enters (a1 : Int32) (a2 : Int32) (h : q_H) : Option q_H :=
  (q_lp (fun s1 : Int32 × q_H => (if s1.1 ≤ 0 then (bif q_in ((812 : Int32) + ((4 : Int32) * s1.1)) 1644 then (bif q_in (((812 : Int32) + ((4 : Int32) * s1.1)) + (1 : Int32)) 1644 then ((some (q_si (q_si s1.2 31 0 7 ((812 : Int32) + ((4 : Int32) * s1.1)).toNatClampNeg a1) 31 0 7 (((812 : Int32) + ((4 : Int32) * s1.1)) + (1 : Int32)).toNatClampNeg (a2 / (10 : Int32)))).bind fun h9 => bif q_in (((812 : Int32) + ((4 : Int32) * s1.1)) + (2 : Int32)) 1644 then (bif q_in (((812 : Int32) + ((4 : Int32) * s1.1)) + (3 : Int32)) 1644 then ((some (q_si (q_si h9 31 0 7 (((812 : Int32) + ((4 : Int32) * s1.1)) + (2 : Int32)).toNatClampNeg (a2 - a2 / (10 : Int32) * (10 : Int32))) 31 0 7 (((812 : Int32) + ((4 : Int32) * s1.1)) + (3 : Int32)).toNatClampNeg (0 : Int32))).bind fun h11 => some (.inr ((q_si h11 31 0 7 5 ((h11.1 31 0 7 5) + (1 : Int32)))))) else none) else none) else none) else none) else ((Mo_entryOf (s1.1 - (1 : Int32)) (0 : Int32) s1.2).bind fun x17 => Option.bind (α := (q_H) ⊕ ((Int32 × q_H) ⊕ q_H)) (if a1 < x17 then (some (.inl s1.2)) else ((Mo_entryOf (s1.1 - (1 : Int32)) (0 : Int32) s1.2).bind fun x23 => if ¬ x23 = a1 then (bif q_in ((812 : Int32) + ((4 : Int32) * s1.1)) 1644 then (bif q_in (((812 : Int32) + ((4 : Int32) * s1.1)) + (1 : Int32)) 1644 then ((some (q_si (q_si s1.2 31 0 7 ((812 : Int32) + ((4 : Int32) * s1.1)).toNatClampNeg a1) 31 0 7 (((812 : Int32) + ((4 : Int32) * s1.1)) + (1 : Int32)).toNatClampNeg (a2 / (10 : Int32)))).bind fun h25 => bif q_in (((812 : Int32) + ((4 : Int32) * s1.1)) + (2 : Int32)) 1644 then (bif q_in (((812 : Int32) + ((4 : Int32) * s1.1)) + (3 : Int32)) 1644 then ((some (q_si (q_si h25 31 0 7 (((812 : Int32) + ((4 : Int32) * s1.1)) + (2 : Int32)).toNatClampNeg (a2 - a2 / (10 : Int32) * (10 : Int32))) 31 0 7 (((812 : Int32) + ((4 : Int32) * s1.1)) + (3 : Int32)).toNatClampNeg (0 : Int32))).bind fun h27 => some (.inr (.inr ((q_si h27 31 0 7 5 ((h27.1 31 0 7 5) + (1 : Int32))))))) else none) else none) else none) else none) else ((Mo_leadsTo (s1.1 - (1 : Int32)) s1.2).bind fun x33 => if x33 ≤ a2 then (bif q_in ((812 : Int32) + ((4 : Int32) * s1.1)) 1644 then (bif q_in (((812 : Int32) + ((4 : Int32) * s1.1)) + (1 : Int32)) 1644 then ((some (q_si (q_si s1.2 31 0 7 ((812 : Int32) + ((4 : Int32) * s1.1)).toNatClampNeg a1) 31 0 7 (((812 : Int32) + ((4 : Int32) * s1.1)) + (1 : Int32)).toNatClampNeg (a2 / (10 : Int32)))).bind fun h35 => bif q_in (((812 : Int32) + ((4 : Int32) * s1.1)) + (2 : Int32)) 1644 then (bif q_in (((812 : Int32) + ((4 : Int32) * s1.1)) + (3 : Int32)) 1644 then ((some (q_si (q_si h35 31 0 7 (((812 : Int32) + ((4 : Int32) * s1.1)) + (2 : Int32)).toNatClampNeg (a2 - a2 / (10 : Int32) * (10 : Int32))) 31 0 7 (((812 : Int32) + ((4 : Int32) * s1.1)) + (3 : Int32)).toNatClampNeg (0 : Int32))).bind fun h37 => some (.inr (.inr ((q_si h37 31 0 7 5 ((h37.1 31 0 7 5) + (1 : Int32))))))) else none) else none) else none) else none) else (some (.inl s1.2))))) (fun z19 => match z19 with | .inl p46 => (q_lp (fun s47 : Int32 × q_H => (if (4 : Int32) ≤ s47.1 then (some (.inr (s47.2))) else ((Mo_entryOf (s1.1 - (1 : Int32)) s47.1 s47.2).bind fun x55 => bif q_in (((812 : Int32) + ((4 : Int32) * s1.1)) + s47.1) 1644 then (some (.inl ((s47.1 + (1 : Int32)), (q_si s47.2 31 0 7 (((812 : Int32) + ((4 : Int32) * s1.1)) + s47.1).toNatClampNeg x55)))) else none) : Option ((Int32 × q_H) ⊕ (q_H)))) q_fu (((0 : Int32), p46) : Int32 × q_H)).bind fun p59 => some (.inl ((s1.1 + (-1 : Int32)), p59)) | .inr z19 => some z19)) : Option ((Int32 × q_H) ⊕ q_H))) q_fu (((h.1 31 0 7 5), h) : Int32 × q_H)).bind fun z8 => some z8
set_option maxRecDepth 100000 in
set_option maxHeartbeats 4000000 in
theorem eMo_enters {d : Nat} (hd : 3 ≤ d) {a1 : Int32} {a2 : Int32} {h : q_H} {r : q_H} (HF : Mo_enters a1 a2 h = some r) : q_T d 218 [.inr (.inr (30, 7, 0)), .inl a1, .inl a2] h (none, r) := by
  obtain ⟨d, rfl⟩ : ∃ d', d = d' + 1 := ⟨d - 1, by omega⟩
  refine q_ent q_K218 rfl rfl rfl ?_
  unfold Mo_enters at HF
  refine q_blk (pc' := 7) (loc' := [some (.inr (.inr (30, 7, 0))), some (.inl a1), some (.inl a2), some (.inl (h.1 31 0 7 5)), none]) (stk' := []) (h' := h) 5 (fun _ _ => rfl) ?_
  obtain ⟨r6, hl7, HK4⟩ := q_bind HF
  refine q_lpE (E := fun s1 => q_E d q_K218 7 [some (.inr (.inr (30, 7, 0))), some (.inl a1), some (.inl a2), some (.inl s1.1), none] [] s1.2 (none, r)) r6 (fun s1 z8 HF H12 H23 => ?_) _ _ hl7
  refine q_br (P := s1.1 ≤ 0) (pcT := 91) (pcF := 11) (loc' := [some (.inr (.inr (30, 7, 0))), some (.inl a1), some (.inl a2), some (.inl s1.1), none]) (stk' := []) (h' := s1.2) 2 (fun _ _ => rfl) (fun c61 => ?_) (fun c61 => ?_)
  · rw [if_pos c61] at HF
    obtain ⟨g16, HF⟩ := q_gF HF
    refine q_gd (pc' := 104) (loc' := [some (.inr (.inr (30, 7, 0))), some (.inl a1), some (.inl a2), some (.inl s1.1), none]) (stk' := []) (h' := (q_si s1.2 31 0 7 ((812 : Int32) + ((4 : Int32) * s1.1)).toNatClampNeg a1)) 9 (fun _ _ => rfl) g16 ?_
    obtain ⟨g15, HF⟩ := q_gF HF
    refine q_gd (pc' := 122) (loc' := [some (.inr (.inr (30, 7, 0))), some (.inl a1), some (.inl a2), some (.inl s1.1), none]) (stk' := []) (h' := (q_si (q_si s1.2 31 0 7 ((812 : Int32) + ((4 : Int32) * s1.1)).toNatClampNeg a1) 31 0 7 (((812 : Int32) + ((4 : Int32) * s1.1)) + (1 : Int32)).toNatClampNeg (a2 / (10 : Int32)))) 13 (fun _ _ => rfl) g15 ?_
    obtain ⟨h9, e10, HF⟩ := q_bind HF
    refine q_blk (pc' := 122) (loc' := [some (.inr (.inr (30, 7, 0))), some (.inl a1), some (.inl a2), some (.inl s1.1), none]) (stk' := []) (h' := (q_si (q_si s1.2 31 0 7 ((812 : Int32) + ((4 : Int32) * s1.1)).toNatClampNeg a1) 31 0 7 (((812 : Int32) + ((4 : Int32) * s1.1)) + (1 : Int32)).toNatClampNeg (a2 / (10 : Int32)))) 0 (fun _ _ => rfl) ?_
    rw [Option.some.inj e10]
    obtain ⟨g14, HF⟩ := q_gF HF
    refine q_gd (pc' := 140) (loc' := [some (.inr (.inr (30, 7, 0))), some (.inl a1), some (.inl a2), some (.inl s1.1), none]) (stk' := []) (h' := (q_si h9 31 0 7 (((812 : Int32) + ((4 : Int32) * s1.1)) + (2 : Int32)).toNatClampNeg (a2 - a2 / (10 : Int32) * (10 : Int32)))) 13 (fun _ _ => rfl) g14 ?_
    obtain ⟨g13, HF⟩ := q_gF HF
    refine q_gd (pc' := 155) (loc' := [some (.inr (.inr (30, 7, 0))), some (.inl a1), some (.inl a2), some (.inl s1.1), none]) (stk' := []) (h' := (q_si (q_si h9 31 0 7 (((812 : Int32) + ((4 : Int32) * s1.1)) + (2 : Int32)).toNatClampNeg (a2 - a2 / (10 : Int32) * (10 : Int32))) 31 0 7 (((812 : Int32) + ((4 : Int32) * s1.1)) + (3 : Int32)).toNatClampNeg (0 : Int32))) 11 (fun _ _ => rfl) g13 ?_
    obtain ⟨h11, e12, HF⟩ := q_bind HF
    refine q_blk (pc' := 155) (loc' := [some (.inr (.inr (30, 7, 0))), some (.inl a1), some (.inl a2), some (.inl s1.1), none]) (stk' := []) (h' := (q_si (q_si h9 31 0 7 (((812 : Int32) + ((4 : Int32) * s1.1)) + (2 : Int32)).toNatClampNeg (a2 - a2 / (10 : Int32) * (10 : Int32))) 31 0 7 (((812 : Int32) + ((4 : Int32) * s1.1)) + (3 : Int32)).toNatClampNeg (0 : Int32))) 0 (fun _ _ => rfl) ?_
    rw [Option.some.inj e12]
    have hz := Option.some.inj HF
    subst hz
    replace HF := HK4
    rw [← H23 _ rfl] at HF
    have hz := Option.some.inj HF
    subst hz
    exact q_rtn 9 (fun _ _ => rfl)
  · rw [if_neg c61] at HF
    obtain ⟨x17, hx18, HF⟩ := q_bind HF
    refine q_cll (m' := 216) (av := [.inr (.inr (30, 7, 0)), .inl (s1.1 - (1 : Int32)), .inl (0 : Int32)]) (st' := []) (pc' := 19) (loc' := [some (.inr (.inr (30, 7, 0))), some (.inl a1), some (.inl a2), some (.inl s1.1), none]) (h' := s1.2) 6 (fun _ _ => rfl) (eMo_entryOf (by omega) hx18) ?_
    obtain ⟨z19, HA20, HK21⟩ := q_bind HF
    have hP22 : ∀ p46 : q_H, ((q_lp (fun s47 : Int32 × q_H => (if (4 : Int32) ≤ s47.1 then (some (.inr (s47.2))) else ((Mo_entryOf (s1.1 - (1 : Int32)) s47.1 s47.2).bind fun x55 => bif q_in (((812 : Int32) + ((4 : Int32) * s1.1)) + s47.1) 1644 then (some (.inl ((s47.1 + (1 : Int32)), (q_si s47.2 31 0 7 (((812 : Int32) + ((4 : Int32) * s1.1)) + s47.1).toNatClampNeg x55)))) else none) : Option ((Int32 × q_H) ⊕ (q_H)))) q_fu (((0 : Int32), p46) : Int32 × q_H)).bind fun p59 => some (.inl ((s1.1 + (-1 : Int32)), p59)) : Option ((Int32 × q_H) ⊕ q_H)) = some z8 → q_E d q_K218 46 [some (.inr (.inr (30, 7, 0))), some (.inl a1), some (.inl a2), some (.inl s1.1), none] [] p46 (none, r) := by
      intro p46 HF
      refine q_blk (pc' := 49) (loc' := [some (.inr (.inr (30, 7, 0))), some (.inl a1), some (.inl a2), some (.inl s1.1), some (.inl (0 : Int32))]) (stk' := []) (h' := p46) 2 (fun _ _ => rfl) ?_
      obtain ⟨r52, hl53, HK50⟩ := q_bind HF
      have hP51 : ∀ p59 : q_H, (some (.inl ((s1.1 + (-1 : Int32)), p59)) : Option ((Int32 × q_H) ⊕ q_H)) = some z8 → q_E d q_K218 85 [some (.inr (.inr (30, 7, 0))), some (.inl a1), some (.inl a2), some (.inl s1.1), none] [] p59 (none, r) := by
        intro p59 HF
        refine q_blk (pc' := 7) (loc' := [some (.inr (.inr (30, 7, 0))), some (.inl a1), some (.inl a2), some (.inl (s1.1 + (-1 : Int32))), none]) (stk' := []) (h' := p59) 2 (fun _ _ => rfl) ?_
        have hz := Option.some.inj HF
        subst hz
        exact H12 ((s1.1 + (-1 : Int32)), p59) rfl
      refine q_lpE (E := fun s47 => q_E d q_K218 49 [some (.inr (.inr (30, 7, 0))), some (.inl a1), some (.inl a2), some (.inl s1.1), some (.inl s47.1)] [] s47.2 (none, r)) r52 (fun s47 z54 HF H148 H249 => ?_) _ _ hl53
      refine q_br (P := (4 : Int32) ≤ s47.1) (pcT := 85) (pcF := 55) (loc' := [some (.inr (.inr (30, 7, 0))), some (.inl a1), some (.inl a2), some (.inl s1.1), some (.inl s47.1)]) (stk' := []) (h' := s47.2) 3 (fun _ _ => rfl) (fun c58 => ?_) (fun c58 => ?_)
      · rw [if_pos c58] at HF
        have hz := Option.some.inj HF
        subst hz
        rw [← H249 _ rfl] at HK50
        exact q_wk (loc := [some (.inr (.inr (30, 7, 0))), some (.inl a1), some (.inl a2), some (.inl s1.1), none]) ⟨Or.inl rfl, ⟨Or.inl rfl, ⟨Or.inl rfl, ⟨Or.inl rfl, ⟨Or.inr ⟨rfl, fun _ h => by cases h⟩, trivial⟩⟩⟩⟩⟩ (hP51 (s47.2) HK50)
      · rw [if_neg c58] at HF
        obtain ⟨x55, hx56, HF⟩ := q_bind HF
        refine q_cll (m' := 216) (av := [.inr (.inr (30, 7, 0)), .inl (s1.1 - (1 : Int32)), .inl s47.1]) (st' := [.inl (((812 : Int32) + ((4 : Int32) * s1.1)) + s47.1), .inr (.inr (31, 7, 0))]) (pc' := 78) (loc' := [some (.inr (.inr (30, 7, 0))), some (.inl a1), some (.inl a2), some (.inl s1.1), some (.inl s47.1)]) (h' := s47.2) 15 (fun _ _ => rfl) (eMo_entryOf (by omega) hx56) ?_
        obtain ⟨g57, HF⟩ := q_gF HF
        refine q_gd (pc' := 79) (loc' := [some (.inr (.inr (30, 7, 0))), some (.inl a1), some (.inl a2), some (.inl s1.1), some (.inl s47.1)]) (stk' := []) (h' := (q_si s47.2 31 0 7 (((812 : Int32) + ((4 : Int32) * s1.1)) + s47.1).toNatClampNeg x55)) 1 (fun _ _ => rfl) g57 ?_
        refine q_blk (pc' := 49) (loc' := [some (.inr (.inr (30, 7, 0))), some (.inl a1), some (.inl a2), some (.inl s1.1), some (.inl (s47.1 + (1 : Int32)))]) (stk' := []) (h' := (q_si s47.2 31 0 7 (((812 : Int32) + ((4 : Int32) * s1.1)) + s47.1).toNatClampNeg x55)) 2 (fun _ _ => rfl) ?_
        have hz := Option.some.inj HF
        subst hz
        exact H148 ((s47.1 + (1 : Int32)), (q_si s47.2 31 0 7 (((812 : Int32) + ((4 : Int32) * s1.1)) + s47.1).toNatClampNeg x55)) rfl
    replace HF := HA20
    refine q_br (P := a1 < x17) (pcT := 46) (pcF := 23) (loc' := [some (.inr (.inr (30, 7, 0))), some (.inl a1), some (.inl a2), some (.inl s1.1), none]) (stk' := []) (h' := s1.2) 2 (fun _ _ => rfl) (fun c45 => ?_) (fun c45 => ?_)
    · rw [if_pos c45] at HF
      have hz := Option.some.inj HF
      subst hz
      exact hP22 (s1.2) HK21
    · rw [if_neg c45] at HF
      obtain ⟨x23, hx24, HF⟩ := q_bind HF
      refine q_cll (m' := 216) (av := [.inr (.inr (30, 7, 0)), .inl (s1.1 - (1 : Int32)), .inl (0 : Int32)]) (st' := []) (pc' := 31) (loc' := [some (.inr (.inr (30, 7, 0))), some (.inl a1), some (.inl a2), some (.inl s1.1), none]) (h' := s1.2) 6 (fun _ _ => rfl) (eMo_entryOf (by omega) hx24) ?_
      refine q_br (P := ¬ x23 = a1) (pcT := 91) (pcF := 35) (loc' := [some (.inr (.inr (30, 7, 0))), some (.inl a1), some (.inl a2), some (.inl s1.1), none]) (stk' := []) (h' := s1.2) 2 (fun _ _ => rfl) (fun c44 => ?_) (fun c44 => ?_)
      · rw [if_pos c44] at HF
        obtain ⟨g32, HF⟩ := q_gF HF
        refine q_gd (pc' := 104) (loc' := [some (.inr (.inr (30, 7, 0))), some (.inl a1), some (.inl a2), some (.inl s1.1), none]) (stk' := []) (h' := (q_si s1.2 31 0 7 ((812 : Int32) + ((4 : Int32) * s1.1)).toNatClampNeg a1)) 9 (fun _ _ => rfl) g32 ?_
        obtain ⟨g31, HF⟩ := q_gF HF
        refine q_gd (pc' := 122) (loc' := [some (.inr (.inr (30, 7, 0))), some (.inl a1), some (.inl a2), some (.inl s1.1), none]) (stk' := []) (h' := (q_si (q_si s1.2 31 0 7 ((812 : Int32) + ((4 : Int32) * s1.1)).toNatClampNeg a1) 31 0 7 (((812 : Int32) + ((4 : Int32) * s1.1)) + (1 : Int32)).toNatClampNeg (a2 / (10 : Int32)))) 13 (fun _ _ => rfl) g31 ?_
        obtain ⟨h25, e26, HF⟩ := q_bind HF
        refine q_blk (pc' := 122) (loc' := [some (.inr (.inr (30, 7, 0))), some (.inl a1), some (.inl a2), some (.inl s1.1), none]) (stk' := []) (h' := (q_si (q_si s1.2 31 0 7 ((812 : Int32) + ((4 : Int32) * s1.1)).toNatClampNeg a1) 31 0 7 (((812 : Int32) + ((4 : Int32) * s1.1)) + (1 : Int32)).toNatClampNeg (a2 / (10 : Int32)))) 0 (fun _ _ => rfl) ?_
        rw [Option.some.inj e26]
        obtain ⟨g30, HF⟩ := q_gF HF
        refine q_gd (pc' := 140) (loc' := [some (.inr (.inr (30, 7, 0))), some (.inl a1), some (.inl a2), some (.inl s1.1), none]) (stk' := []) (h' := (q_si h25 31 0 7 (((812 : Int32) + ((4 : Int32) * s1.1)) + (2 : Int32)).toNatClampNeg (a2 - a2 / (10 : Int32) * (10 : Int32)))) 13 (fun _ _ => rfl) g30 ?_
        obtain ⟨g29, HF⟩ := q_gF HF
        refine q_gd (pc' := 155) (loc' := [some (.inr (.inr (30, 7, 0))), some (.inl a1), some (.inl a2), some (.inl s1.1), none]) (stk' := []) (h' := (q_si (q_si h25 31 0 7 (((812 : Int32) + ((4 : Int32) * s1.1)) + (2 : Int32)).toNatClampNeg (a2 - a2 / (10 : Int32) * (10 : Int32))) 31 0 7 (((812 : Int32) + ((4 : Int32) * s1.1)) + (3 : Int32)).toNatClampNeg (0 : Int32))) 11 (fun _ _ => rfl) g29 ?_
        obtain ⟨h27, e28, HF⟩ := q_bind HF
        refine q_blk (pc' := 155) (loc' := [some (.inr (.inr (30, 7, 0))), some (.inl a1), some (.inl a2), some (.inl s1.1), none]) (stk' := []) (h' := (q_si (q_si h25 31 0 7 (((812 : Int32) + ((4 : Int32) * s1.1)) + (2 : Int32)).toNatClampNeg (a2 - a2 / (10 : Int32) * (10 : Int32))) 31 0 7 (((812 : Int32) + ((4 : Int32) * s1.1)) + (3 : Int32)).toNatClampNeg (0 : Int32))) 0 (fun _ _ => rfl) ?_
        rw [Option.some.inj e28]
        have hz := Option.some.inj HF
        subst hz
        replace HF := HK21
        have hz := Option.some.inj HF
        subst hz
        replace HF := HK4
        rw [← H23 _ rfl] at HF
        have hz := Option.some.inj HF
        subst hz
        exact q_rtn 9 (fun _ _ => rfl)
      · rw [if_neg c44] at HF
        obtain ⟨x33, hx34, HF⟩ := q_bind HF
        refine q_cll (m' := 217) (av := [.inr (.inr (30, 7, 0)), .inl (s1.1 - (1 : Int32))]) (st' := []) (pc' := 42) (loc' := [some (.inr (.inr (30, 7, 0))), some (.inl a1), some (.inl a2), some (.inl s1.1), none]) (h' := s1.2) 5 (fun _ _ => rfl) (eMo_leadsTo (by omega) hx34) ?_
        refine q_br (P := x33 ≤ a2) (pcT := 91) (pcF := 46) (loc' := [some (.inr (.inr (30, 7, 0))), some (.inl a1), some (.inl a2), some (.inl s1.1), none]) (stk' := []) (h' := s1.2) 2 (fun _ _ => rfl) (fun c43 => ?_) (fun c43 => ?_)
        · rw [if_pos c43] at HF
          obtain ⟨g42, HF⟩ := q_gF HF
          refine q_gd (pc' := 104) (loc' := [some (.inr (.inr (30, 7, 0))), some (.inl a1), some (.inl a2), some (.inl s1.1), none]) (stk' := []) (h' := (q_si s1.2 31 0 7 ((812 : Int32) + ((4 : Int32) * s1.1)).toNatClampNeg a1)) 9 (fun _ _ => rfl) g42 ?_
          obtain ⟨g41, HF⟩ := q_gF HF
          refine q_gd (pc' := 122) (loc' := [some (.inr (.inr (30, 7, 0))), some (.inl a1), some (.inl a2), some (.inl s1.1), none]) (stk' := []) (h' := (q_si (q_si s1.2 31 0 7 ((812 : Int32) + ((4 : Int32) * s1.1)).toNatClampNeg a1) 31 0 7 (((812 : Int32) + ((4 : Int32) * s1.1)) + (1 : Int32)).toNatClampNeg (a2 / (10 : Int32)))) 13 (fun _ _ => rfl) g41 ?_
          obtain ⟨h35, e36, HF⟩ := q_bind HF
          refine q_blk (pc' := 122) (loc' := [some (.inr (.inr (30, 7, 0))), some (.inl a1), some (.inl a2), some (.inl s1.1), none]) (stk' := []) (h' := (q_si (q_si s1.2 31 0 7 ((812 : Int32) + ((4 : Int32) * s1.1)).toNatClampNeg a1) 31 0 7 (((812 : Int32) + ((4 : Int32) * s1.1)) + (1 : Int32)).toNatClampNeg (a2 / (10 : Int32)))) 0 (fun _ _ => rfl) ?_
          rw [Option.some.inj e36]
          obtain ⟨g40, HF⟩ := q_gF HF
          refine q_gd (pc' := 140) (loc' := [some (.inr (.inr (30, 7, 0))), some (.inl a1), some (.inl a2), some (.inl s1.1), none]) (stk' := []) (h' := (q_si h35 31 0 7 (((812 : Int32) + ((4 : Int32) * s1.1)) + (2 : Int32)).toNatClampNeg (a2 - a2 / (10 : Int32) * (10 : Int32)))) 13 (fun _ _ => rfl) g40 ?_
          obtain ⟨g39, HF⟩ := q_gF HF
          refine q_gd (pc' := 155) (loc' := [some (.inr (.inr (30, 7, 0))), some (.inl a1), some (.inl a2), some (.inl s1.1), none]) (stk' := []) (h' := (q_si (q_si h35 31 0 7 (((812 : Int32) + ((4 : Int32) * s1.1)) + (2 : Int32)).toNatClampNeg (a2 - a2 / (10 : Int32) * (10 : Int32))) 31 0 7 (((812 : Int32) + ((4 : Int32) * s1.1)) + (3 : Int32)).toNatClampNeg (0 : Int32))) 11 (fun _ _ => rfl) g39 ?_
          obtain ⟨h37, e38, HF⟩ := q_bind HF
          refine q_blk (pc' := 155) (loc' := [some (.inr (.inr (30, 7, 0))), some (.inl a1), some (.inl a2), some (.inl s1.1), none]) (stk' := []) (h' := (q_si (q_si h35 31 0 7 (((812 : Int32) + ((4 : Int32) * s1.1)) + (2 : Int32)).toNatClampNeg (a2 - a2 / (10 : Int32) * (10 : Int32))) 31 0 7 (((812 : Int32) + ((4 : Int32) * s1.1)) + (3 : Int32)).toNatClampNeg (0 : Int32))) 0 (fun _ _ => rfl) ?_
          rw [Option.some.inj e38]
          have hz := Option.some.inj HF
          subst hz
          replace HF := HK21
          have hz := Option.some.inj HF
          subst hz
          replace HF := HK4
          rw [← H23 _ rfl] at HF
          have hz := Option.some.inj HF
          subst hz
          exact q_rtn 9 (fun _ _ => rfl)
        · rw [if_neg c43] at HF
          have hz := Option.some.inj HF
          subst hz
          exact hP22 (s1.2) HK21
def Mo_entriesTo (a1 : Int32) (h : q_H) : Option Int32 :=
  (q_lp (fun s1 : Int32 × Int32 => (if (h.1 31 0 7 5) ≤ s1.2 then (some (.inr (s1.1))) else ((Mo_leadsTo s1.2 h).bind fun x9 => Option.bind (α := Int32) (if ¬ x9 = a1 then (some ((0 : Int32))) else (some ((1 : Int32)))) (fun p16 => some (.inl ((s1.1 + p16), (s1.2 + (1 : Int32)))))) : Option ((Int32 × Int32) ⊕ Int32))) q_fu (((0 : Int32), (0 : Int32)) : Int32 × Int32)).bind fun z8 => some z8
set_option maxRecDepth 100000 in
set_option maxHeartbeats 4000000 in
theorem eMo_entriesTo {d : Nat} (hd : 3 ≤ d) {a1 : Int32} {h : q_H} {r : Int32} (HF : Mo_entriesTo a1 h = some r) : q_T d 219 [.inr (.inr (30, 7, 0)), .inl a1] h (some (.inl r), h) := by
  obtain ⟨d, rfl⟩ : ∃ d', d = d' + 1 := ⟨d - 1, by omega⟩
  refine q_ent q_K219 rfl rfl rfl ?_
  unfold Mo_entriesTo at HF
  refine q_blk (pc' := 4) (loc' := [some (.inr (.inr (30, 7, 0))), some (.inl a1), some (.inl (0 : Int32)), some (.inl (0 : Int32))]) (stk' := []) (h' := h) 4 (fun _ _ => rfl) ?_
  obtain ⟨r6, hl7, HK4⟩ := q_bind HF
  refine q_lpE (E := fun s1 => q_E d q_K219 4 [some (.inr (.inr (30, 7, 0))), some (.inl a1), some (.inl s1.1), some (.inl s1.2)] [] h (some (.inl r), h)) r6 (fun s1 z8 HF H12 H23 => ?_) _ _ hl7
  refine q_br (P := (h.1 31 0 7 5) ≤ s1.2) (pcT := 37) (pcF := 14) (loc' := [some (.inr (.inr (30, 7, 0))), some (.inl a1), some (.inl s1.1), some (.inl s1.2)]) (stk' := []) (h' := h) 6 (fun _ _ => rfl) (fun c18 => ?_) (fun c18 => ?_)
  · rw [if_pos c18] at HF
    have hz := Option.some.inj HF
    subst hz
    replace HF := HK4
    rw [← H23 _ rfl] at HF
    have hz := Option.some.inj HF
    subst hz
    exact q_rtn 2 (fun _ _ => rfl)
  · rw [if_neg c18] at HF
    obtain ⟨x9, hx10, HF⟩ := q_bind HF
    refine q_cll (m' := 217) (av := [.inr (.inr (30, 7, 0)), .inl s1.2]) (st' := [.inl s1.1]) (pc' := 20) (loc' := [some (.inr (.inr (30, 7, 0))), some (.inl a1), some (.inl s1.1), some (.inl s1.2)]) (h' := h) 4 (fun _ _ => rfl) (eMo_leadsTo (by omega) hx10) ?_
    obtain ⟨z11, HA12, HK13⟩ := q_bind HF
    have hP14 : ∀ p16 : Int32, (some (.inl ((s1.1 + p16), (s1.2 + (1 : Int32)))) : Option ((Int32 × Int32) ⊕ Int32)) = some z8 → q_E d q_K219 29 [some (.inr (.inr (30, 7, 0))), some (.inl a1), some (.inl s1.1), some (.inl s1.2)] [.inl p16, .inl s1.1] h (some (.inl r), h) := by
      intro p16 HF
      refine q_blk (pc' := 4) (loc' := [some (.inr (.inr (30, 7, 0))), some (.inl a1), some (.inl (s1.1 + p16)), some (.inl (s1.2 + (1 : Int32)))]) (stk' := []) (h' := h) 4 (fun _ _ => rfl) ?_
      have hz := Option.some.inj HF
      subst hz
      exact H12 ((s1.1 + p16), (s1.2 + (1 : Int32))) rfl
    replace HF := HA12
    refine q_br (P := ¬ x9 = a1) (pcT := 28) (pcF := 24) (loc' := [some (.inr (.inr (30, 7, 0))), some (.inl a1), some (.inl s1.1), some (.inl s1.2)]) (stk' := [.inl s1.1]) (h' := h) 2 (fun _ _ => rfl) (fun c15 => ?_) (fun c15 => ?_)
    · rw [if_pos c15] at HF
      refine q_blk (pc' := 29) (loc' := [some (.inr (.inr (30, 7, 0))), some (.inl a1), some (.inl s1.1), some (.inl s1.2)]) (stk' := [.inl (0 : Int32), .inl s1.1]) (h' := h) 1 (fun _ _ => rfl) ?_
      have hz := Option.some.inj HF
      subst hz
      exact hP14 (0 : Int32) HK13
    · rw [if_neg c15] at HF
      refine q_blk (pc' := 29) (loc' := [some (.inr (.inr (30, 7, 0))), some (.inl a1), some (.inl s1.1), some (.inl s1.2)]) (stk' := [.inl (1 : Int32), .inl s1.1]) (h' := h) 2 (fun _ _ => rfl) ?_
      have hz := Option.some.inj HF
      subst hz
      exact hP14 (1 : Int32) HK13
def Mo_takesOut (a1 : Int32) (a2 : Int32) (h : q_H) : Option (Int32 × q_H) :=
  (q_lp (fun s1 : Int32 × Int32 × q_H => (if (s1.2.2.1 31 0 7 5) ≤ s1.2.1 then (some (.inr ((((s1.2.2.1 31 0 7 5) - s1.1), (q_si s1.2.2 31 0 7 5 s1.1))))) else ((q_lp (fun s9 : Int32 × Int32 => (if a2 ≤ s9.2 then (some (.inr (s9.1))) else (Option.bind (α := Int32) (if ¬ s9.1 = 0 then (some ((1 : Int32))) else (bif q_in s9.2 60 then ((Mo_leadsTo s1.2.1 s1.2.2).bind fun x21 => if ¬ (s1.2.2.1 36 0 7 s9.2.toNatClampNeg) = x21 then (some ((0 : Int32))) else (some ((1 : Int32)))) else none)) (fun p26 => some (.inl (p26, (s9.2 + (1 : Int32)))))) : Option ((Int32 × Int32) ⊕ (Int32)))) q_fu (((0 : Int32), a1) : Int32 × Int32)).bind fun p29 => if p29 = 0 then ((q_lp (fun s30 : Int32 × q_H => (if (4 : Int32) ≤ s30.1 then (some (.inr (s30.2))) else ((Mo_entryOf s1.2.1 s30.1 s30.2).bind fun x38 => bif q_in (((812 : Int32) + ((4 : Int32) * s1.1)) + s30.1) 1644 then (some (.inl ((s30.1 + (1 : Int32)), (q_si s30.2 31 0 7 (((812 : Int32) + ((4 : Int32) * s1.1)) + s30.1).toNatClampNeg x38)))) else none) : Option ((Int32 × q_H) ⊕ (q_H)))) q_fu (((0 : Int32), s1.2.2) : Int32 × q_H)).bind fun p42 => some (.inl ((s1.1 + (1 : Int32)), (s1.2.1 + (1 : Int32)), p42))) else (some (.inl (s1.1, (s1.2.1 + (1 : Int32)), s1.2.2)))) : Option ((Int32 × Int32 × q_H) ⊕ (Int32 × q_H)))) q_fu (((0 : Int32), (0 : Int32), h) : Int32 × Int32 × q_H)).bind fun z8 => some z8
set_option maxRecDepth 100000 in
set_option maxHeartbeats 4000000 in
theorem eMo_takesOut {d : Nat} (hd : 3 ≤ d) {a1 : Int32} {a2 : Int32} {h : q_H} {r : (Int32 × q_H)} (HF : Mo_takesOut a1 a2 h = some r) : q_T d 220 [.inr (.inr (30, 7, 0)), .inl a1, .inl a2] h (some (.inl r.1), r.2) := by
  obtain ⟨d, rfl⟩ : ∃ d', d = d' + 1 := ⟨d - 1, by omega⟩
  refine q_ent q_K220 rfl rfl rfl ?_
  unfold Mo_takesOut at HF
  refine q_blk (pc' := 5) (loc' := [some (.inr (.inr (30, 7, 0))), some (.inl a1), some (.inl a2), some (.inl (0 : Int32)), some (.inl (0 : Int32)), none, none]) (stk' := []) (h' := h) 4 (fun _ _ => rfl) ?_
  obtain ⟨r6, hl7, HK4⟩ := q_bind HF
  refine q_lpE (E := fun s1 => q_E d q_K220 5 [some (.inr (.inr (30, 7, 0))), some (.inl a1), some (.inl a2), some (.inl s1.1), some (.inl s1.2.1), none, none] [] s1.2.2 (some (.inl r.1), r.2)) r6 (fun s1 z8 HF H12 H23 => ?_) _ _ hl7
  refine q_br (P := (s1.2.2.1 31 0 7 5) ≤ s1.2.1) (pcT := 117) (pcF := 16) (loc' := [some (.inr (.inr (30, 7, 0))), some (.inl a1), some (.inl a2), some (.inl s1.1), some (.inl s1.2.1), none, none]) (stk' := []) (h' := s1.2.2) 6 (fun _ _ => rfl) (fun c44 => ?_) (fun c44 => ?_)
  · rw [if_pos c44] at HF
    have hz := Option.some.inj HF
    subst hz
    replace HF := HK4
    rw [← H23 _ rfl] at HF
    have hz := Option.some.inj HF
    subst hz
    exact q_rtn 14 (fun _ _ => rfl)
  · rw [if_neg c44] at HF
    refine q_blk (pc' := 22) (loc' := [some (.inr (.inr (30, 7, 0))), some (.inl a1), some (.inl a2), some (.inl s1.1), some (.inl s1.2.1), some (.inl (0 : Int32)), some (.inl a1)]) (stk' := []) (h' := s1.2.2) 4 (fun _ _ => rfl) ?_
    obtain ⟨r14, hl15, HK12⟩ := q_bind HF
    have hP13 : ∀ p29 : Int32, (if p29 = 0 then ((q_lp (fun s30 : Int32 × q_H => (if (4 : Int32) ≤ s30.1 then (some (.inr (s30.2))) else ((Mo_entryOf s1.2.1 s30.1 s30.2).bind fun x38 => bif q_in (((812 : Int32) + ((4 : Int32) * s1.1)) + s30.1) 1644 then (some (.inl ((s30.1 + (1 : Int32)), (q_si s30.2 31 0 7 (((812 : Int32) + ((4 : Int32) * s1.1)) + s30.1).toNatClampNeg x38)))) else none) : Option ((Int32 × q_H) ⊕ (q_H)))) q_fu (((0 : Int32), s1.2.2) : Int32 × q_H)).bind fun p42 => some (.inl ((s1.1 + (1 : Int32)), (s1.2.1 + (1 : Int32)), p42))) else (some (.inl (s1.1, (s1.2.1 + (1 : Int32)), s1.2.2))) : Option ((Int32 × Int32 × q_H) ⊕ (Int32 × q_H))) = some z8 → q_E d q_K220 62 [some (.inr (.inr (30, 7, 0))), some (.inl a1), some (.inl a2), some (.inl s1.1), some (.inl s1.2.1), some (.inl p29), none] [] s1.2.2 (some (.inl r.1), r.2) := by
      intro p29 HF
      refine q_br (P := p29 = 0) (pcT := 70) (pcF := 67) (loc' := [some (.inr (.inr (30, 7, 0))), some (.inl a1), some (.inl a2), some (.inl s1.1), some (.inl s1.2.1), some (.inl p29), none]) (stk' := []) (h' := s1.2.2) 2 (fun _ _ => rfl) (fun c43 => ?_) (fun c43 => ?_)
      · rw [if_pos c43] at HF
        refine q_blk (pc' := 73) (loc' := [some (.inr (.inr (30, 7, 0))), some (.inl a1), some (.inl a2), some (.inl s1.1), some (.inl s1.2.1), some (.inl p29), some (.inl (0 : Int32))]) (stk' := []) (h' := s1.2.2) 2 (fun _ _ => rfl) ?_
        obtain ⟨r35, hl36, HK33⟩ := q_bind HF
        have hP34 : ∀ p42 : q_H, (some (.inl ((s1.1 + (1 : Int32)), (s1.2.1 + (1 : Int32)), p42)) : Option ((Int32 × Int32 × q_H) ⊕ (Int32 × q_H))) = some z8 → q_E d q_K220 108 [some (.inr (.inr (30, 7, 0))), some (.inl a1), some (.inl a2), some (.inl s1.1), some (.inl s1.2.1), some (.inl p29), none] [] p42 (some (.inl r.1), r.2) := by
          intro p42 HF
          refine q_blk (pc' := 5) (loc' := [some (.inr (.inr (30, 7, 0))), some (.inl a1), some (.inl a2), some (.inl (s1.1 + (1 : Int32))), some (.inl (s1.2.1 + (1 : Int32))), some (.inl p29), none]) (stk' := []) (h' := p42) 3 (fun _ _ => rfl) ?_
          have hz := Option.some.inj HF
          subst hz
          exact q_wk (loc := [some (.inr (.inr (30, 7, 0))), some (.inl a1), some (.inl a2), some (.inl (s1.1 + (1 : Int32))), some (.inl (s1.2.1 + (1 : Int32))), none, none]) ⟨Or.inl rfl, ⟨Or.inl rfl, ⟨Or.inl rfl, ⟨Or.inl rfl, ⟨Or.inl rfl, ⟨Or.inr ⟨rfl, fun _ h => by cases h⟩, ⟨Or.inl rfl, trivial⟩⟩⟩⟩⟩⟩⟩ (H12 ((s1.1 + (1 : Int32)), (s1.2.1 + (1 : Int32)), p42) rfl)
        refine q_lpE (E := fun s30 => q_E d q_K220 73 [some (.inr (.inr (30, 7, 0))), some (.inl a1), some (.inl a2), some (.inl s1.1), some (.inl s1.2.1), some (.inl p29), some (.inl s30.1)] [] s30.2 (some (.inl r.1), r.2)) r35 (fun s30 z37 HF H131 H232 => ?_) _ _ hl36
        refine q_br (P := (4 : Int32) ≤ s30.1) (pcT := 108) (pcF := 79) (loc' := [some (.inr (.inr (30, 7, 0))), some (.inl a1), some (.inl a2), some (.inl s1.1), some (.inl s1.2.1), some (.inl p29), some (.inl s30.1)]) (stk' := []) (h' := s30.2) 3 (fun _ _ => rfl) (fun c41 => ?_) (fun c41 => ?_)
        · rw [if_pos c41] at HF
          have hz := Option.some.inj HF
          subst hz
          rw [← H232 _ rfl] at HK33
          exact q_wk (loc := [some (.inr (.inr (30, 7, 0))), some (.inl a1), some (.inl a2), some (.inl s1.1), some (.inl s1.2.1), some (.inl p29), none]) ⟨Or.inl rfl, ⟨Or.inl rfl, ⟨Or.inl rfl, ⟨Or.inl rfl, ⟨Or.inl rfl, ⟨Or.inl rfl, ⟨Or.inr ⟨rfl, fun _ h => by cases h⟩, trivial⟩⟩⟩⟩⟩⟩⟩ (hP34 (s30.2) HK33)
        · rw [if_neg c41] at HF
          obtain ⟨x38, hx39, HF⟩ := q_bind HF
          refine q_cll (m' := 216) (av := [.inr (.inr (30, 7, 0)), .inl s1.2.1, .inl s30.1]) (st' := [.inl (((812 : Int32) + ((4 : Int32) * s1.1)) + s30.1), .inr (.inr (31, 7, 0))]) (pc' := 101) (loc' := [some (.inr (.inr (30, 7, 0))), some (.inl a1), some (.inl a2), some (.inl s1.1), some (.inl s1.2.1), some (.inl p29), some (.inl s30.1)]) (h' := s30.2) 13 (fun _ _ => rfl) (eMo_entryOf (by omega) hx39) ?_
          obtain ⟨g40, HF⟩ := q_gF HF
          refine q_gd (pc' := 102) (loc' := [some (.inr (.inr (30, 7, 0))), some (.inl a1), some (.inl a2), some (.inl s1.1), some (.inl s1.2.1), some (.inl p29), some (.inl s30.1)]) (stk' := []) (h' := (q_si s30.2 31 0 7 (((812 : Int32) + ((4 : Int32) * s1.1)) + s30.1).toNatClampNeg x38)) 1 (fun _ _ => rfl) g40 ?_
          refine q_blk (pc' := 73) (loc' := [some (.inr (.inr (30, 7, 0))), some (.inl a1), some (.inl a2), some (.inl s1.1), some (.inl s1.2.1), some (.inl p29), some (.inl (s30.1 + (1 : Int32)))]) (stk' := []) (h' := (q_si s30.2 31 0 7 (((812 : Int32) + ((4 : Int32) * s1.1)) + s30.1).toNatClampNeg x38)) 2 (fun _ _ => rfl) ?_
          have hz := Option.some.inj HF
          subst hz
          exact H131 ((s30.1 + (1 : Int32)), (q_si s30.2 31 0 7 (((812 : Int32) + ((4 : Int32) * s1.1)) + s30.1).toNatClampNeg x38)) rfl
      · rw [if_neg c43] at HF
        refine q_blk (pc' := 5) (loc' := [some (.inr (.inr (30, 7, 0))), some (.inl a1), some (.inl a2), some (.inl s1.1), some (.inl (s1.2.1 + (1 : Int32))), some (.inl p29), none]) (stk' := []) (h' := s1.2.2) 3 (fun _ _ => rfl) ?_
        have hz := Option.some.inj HF
        subst hz
        exact q_wk (loc := [some (.inr (.inr (30, 7, 0))), some (.inl a1), some (.inl a2), some (.inl s1.1), some (.inl (s1.2.1 + (1 : Int32))), none, none]) ⟨Or.inl rfl, ⟨Or.inl rfl, ⟨Or.inl rfl, ⟨Or.inl rfl, ⟨Or.inl rfl, ⟨Or.inr ⟨rfl, fun _ h => by cases h⟩, ⟨Or.inl rfl, trivial⟩⟩⟩⟩⟩⟩⟩ (H12 (s1.1, (s1.2.1 + (1 : Int32)), s1.2.2) rfl)
    refine q_lpE (E := fun s9 => q_E d q_K220 22 [some (.inr (.inr (30, 7, 0))), some (.inl a1), some (.inl a2), some (.inl s1.1), some (.inl s1.2.1), some (.inl s9.1), some (.inl s9.2)] [] s1.2.2 (some (.inl r.1), r.2)) r14 (fun s9 z16 HF H110 H211 => ?_) _ _ hl15
    refine q_br (P := a2 ≤ s9.2) (pcT := 62) (pcF := 28) (loc' := [some (.inr (.inr (30, 7, 0))), some (.inl a1), some (.inl a2), some (.inl s1.1), some (.inl s1.2.1), some (.inl s9.1), some (.inl s9.2)]) (stk' := []) (h' := s1.2.2) 3 (fun _ _ => rfl) (fun c28 => ?_) (fun c28 => ?_)
    · rw [if_pos c28] at HF
      have hz := Option.some.inj HF
      subst hz
      rw [← H211 _ rfl] at HK12
      exact q_wk (loc := [some (.inr (.inr (30, 7, 0))), some (.inl a1), some (.inl a2), some (.inl s1.1), some (.inl s1.2.1), some (.inl s9.1), none]) ⟨Or.inl rfl, ⟨Or.inl rfl, ⟨Or.inl rfl, ⟨Or.inl rfl, ⟨Or.inl rfl, ⟨Or.inl rfl, ⟨Or.inr ⟨rfl, fun _ h => by cases h⟩, trivial⟩⟩⟩⟩⟩⟩⟩ (hP13 (s9.1) HK12)
    · rw [if_neg c28] at HF
      obtain ⟨z17, HA18, HK19⟩ := q_bind HF
      have hP20 : ∀ p26 : Int32, (some (.inl (p26, (s9.2 + (1 : Int32)))) : Option ((Int32 × Int32) ⊕ (Int32))) = some z16 → q_E d q_K220 54 [some (.inr (.inr (30, 7, 0))), some (.inl a1), some (.inl a2), some (.inl s1.1), some (.inl s1.2.1), some (.inl s9.1), some (.inl s9.2)] [.inl p26] s1.2.2 (some (.inl r.1), r.2) := by
        intro p26 HF
        refine q_blk (pc' := 22) (loc' := [some (.inr (.inr (30, 7, 0))), some (.inl a1), some (.inl a2), some (.inl s1.1), some (.inl s1.2.1), some (.inl p26), some (.inl (s9.2 + (1 : Int32)))]) (stk' := []) (h' := s1.2.2) 3 (fun _ _ => rfl) ?_
        have hz := Option.some.inj HF
        subst hz
        exact H110 (p26, (s9.2 + (1 : Int32))) rfl
      replace HF := HA18
      refine q_br (P := ¬ s9.1 = 0) (pcT := 49) (pcF := 33) (loc' := [some (.inr (.inr (30, 7, 0))), some (.inl a1), some (.inl a2), some (.inl s1.1), some (.inl s1.2.1), some (.inl s9.1), some (.inl s9.2)]) (stk' := []) (h' := s1.2.2) 2 (fun _ _ => rfl) (fun c25 => ?_) (fun c25 => ?_)
      · rw [if_pos c25] at HF
        refine q_blk (pc' := 54) (loc' := [some (.inr (.inr (30, 7, 0))), some (.inl a1), some (.inl a2), some (.inl s1.1), some (.inl s1.2.1), some (.inl s9.1), some (.inl s9.2)]) (stk' := [.inl (1 : Int32)]) (h' := s1.2.2) 2 (fun _ _ => rfl) ?_
        have hz := Option.some.inj HF
        subst hz
        exact hP20 (1 : Int32) HK19
      · rw [if_neg c25] at HF
        obtain ⟨g24, HF⟩ := q_gF HF
        refine q_gd (pc' := 40) (loc' := [some (.inr (.inr (30, 7, 0))), some (.inl a1), some (.inl a2), some (.inl s1.1), some (.inl s1.2.1), some (.inl s9.1), some (.inl s9.2)]) (stk' := [.inl (s1.2.2.1 36 0 7 s9.2.toNatClampNeg)]) (h' := s1.2.2) 4 (fun _ _ => rfl) g24 ?_
        obtain ⟨x21, hx22, HF⟩ := q_bind HF
        refine q_cll (m' := 217) (av := [.inr (.inr (30, 7, 0)), .inl s1.2.1]) (st' := [.inl (s1.2.2.1 36 0 7 s9.2.toNatClampNeg)]) (pc' := 46) (loc' := [some (.inr (.inr (30, 7, 0))), some (.inl a1), some (.inl a2), some (.inl s1.1), some (.inl s1.2.1), some (.inl s9.1), some (.inl s9.2)]) (h' := s1.2.2) 3 (fun _ _ => rfl) (eMo_leadsTo (by omega) hx22) ?_
        refine q_br (P := ¬ (s1.2.2.1 36 0 7 s9.2.toNatClampNeg) = x21) (pcT := 53) (pcF := 49) (loc' := [some (.inr (.inr (30, 7, 0))), some (.inl a1), some (.inl a2), some (.inl s1.1), some (.inl s1.2.1), some (.inl s9.1), some (.inl s9.2)]) (stk' := []) (h' := s1.2.2) 1 (fun _ _ => rfl) (fun c23 => ?_) (fun c23 => ?_)
        · rw [if_pos c23] at HF
          refine q_blk (pc' := 54) (loc' := [some (.inr (.inr (30, 7, 0))), some (.inl a1), some (.inl a2), some (.inl s1.1), some (.inl s1.2.1), some (.inl s9.1), some (.inl s9.2)]) (stk' := [.inl (0 : Int32)]) (h' := s1.2.2) 1 (fun _ _ => rfl) ?_
          have hz := Option.some.inj HF
          subst hz
          exact hP20 (0 : Int32) HK19
        · rw [if_neg c23] at HF
          refine q_blk (pc' := 54) (loc' := [some (.inr (.inr (30, 7, 0))), some (.inl a1), some (.inl a2), some (.inl s1.1), some (.inl s1.2.1), some (.inl s9.1), some (.inl s9.2)]) (stk' := [.inl (1 : Int32)]) (h' := s1.2.2) 2 (fun _ _ => rfl) ?_
          have hz := Option.some.inj HF
          subst hz
          exact hP20 (1 : Int32) HK19
def Mo_isClear (a1 : Int32) (a2 : Int32) (h : q_H) : Option Int32 :=
  (q_lp (fun s1 : Int32 => (bif q_in ((17 : Int32) + a1) 1644 then (if (((10 : Int32) * a1) + (h.1 31 0 7 ((17 : Int32) + a1).toNatClampNeg)) ≤ s1 then (some (.inr ((1 : Int32)))) else ((Mo_of s1 (0 : Int32) h).bind fun x9 => Option.bind (α := (Unit) ⊕ ((Int32) ⊕ Int32)) (if ¬ x9 = 0 then ((Mo_isFull s1 h).bind fun x15 => Option.bind (α := Int32) (if x15 = 0 then (some ((0 : Int32))) else ((Mo_of s1 (11 : Int32) h).bind fun x21 => if x21 = (1 : Int32) then (some ((1 : Int32))) else ((Mo_of s1 (6 : Int32) h).bind fun x23 => (Mo_stateOf x23 h).bind fun x25 => if ¬ x25 = (1 : Int32) then (some ((0 : Int32))) else ((Mo_of s1 (6 : Int32) h).bind fun x27 => if a2 ≤ x27 then (some ((0 : Int32))) else (some ((1 : Int32))))))) (fun p33 => if p33 = 0 then (some (.inr (.inr ((0 : Int32))))) else ((Mo_enderOf s1 h).bind fun x34 => if x34 ≤ 0 then (some (.inl ())) else (some (.inr (.inr ((0 : Int32)))))))) else (some (.inl ()))) (fun z11 => match z11 with | .inl p40 => some (.inl (s1 + (1 : Int32))) | .inr z11 => some z11))) else none : Option ((Int32) ⊕ Int32))) q_fu (((10 : Int32) * a1) : Int32)).bind fun z8 => some z8
set_option maxRecDepth 100000 in
set_option maxHeartbeats 4000000 in
theorem eMo_isClear {d : Nat} (hd : 3 ≤ d) {a1 : Int32} {a2 : Int32} {h : q_H} {r : Int32} (HF : Mo_isClear a1 a2 h = some r) : q_T d 223 [.inr (.inr (30, 7, 0)), .inl a1, .inl a2] h (some (.inl r), h) := by
  obtain ⟨d, rfl⟩ : ∃ d', d = d' + 1 := ⟨d - 1, by omega⟩
  refine q_ent q_K223 rfl rfl rfl ?_
  unfold Mo_isClear at HF
  refine q_blk (pc' := 5) (loc' := [some (.inr (.inr (30, 7, 0))), some (.inl a1), some (.inl a2), some (.inl ((10 : Int32) * a1)), none]) (stk' := []) (h' := h) 4 (fun _ _ => rfl) ?_
  obtain ⟨r6, hl7, HK4⟩ := q_bind HF
  refine q_lpE (E := fun s1 => q_E d q_K223 5 [some (.inr (.inr (30, 7, 0))), some (.inl a1), some (.inl a2), some (.inl s1), none] [] h (some (.inl r), h)) r6 (fun s1 z8 HF H12 H23 => ?_) _ _ hl7
  obtain ⟨g43, HF⟩ := q_gF HF
  refine q_gd (pc' := 19) (loc' := [some (.inr (.inr (30, 7, 0))), some (.inl a1), some (.inl a2), some (.inl s1), none]) (stk' := [.inl (h.1 31 0 7 ((17 : Int32) + a1).toNatClampNeg), .inl ((10 : Int32) * a1), .inl s1]) (h' := h) 10 (fun _ _ => rfl) g43 ?_
  refine q_br (P := (((10 : Int32) * a1) + (h.1 31 0 7 ((17 : Int32) + a1).toNatClampNeg)) ≤ s1) (pcT := 108) (pcF := 23) (loc' := [some (.inr (.inr (30, 7, 0))), some (.inl a1), some (.inl a2), some (.inl s1), none]) (stk' := []) (h' := h) 2 (fun _ _ => rfl) (fun c42 => ?_) (fun c42 => ?_)
  · rw [if_pos c42] at HF
    have hz := Option.some.inj HF
    subst hz
    replace HF := HK4
    rw [← H23 _ rfl] at HF
    have hz := Option.some.inj HF
    subst hz
    exact q_rtn 2 (fun _ _ => rfl)
  · rw [if_neg c42] at HF
    obtain ⟨x9, hx10, HF⟩ := q_bind HF
    refine q_cll (m' := 187) (av := [.inr (.inr (30, 7, 0)), .inl s1, .inl (0 : Int32)]) (st' := []) (pc' := 29) (loc' := [some (.inr (.inr (30, 7, 0))), some (.inl a1), some (.inl a2), some (.inl s1), none]) (h' := h) 4 (fun _ _ => rfl) (eMo_of (by omega) hx10) ?_
    obtain ⟨z11, HA12, HK13⟩ := q_bind HF
    have hP14 : ∀ p40 : Unit, (some (.inl (s1 + (1 : Int32))) : Option ((Int32) ⊕ Int32)) = some z8 → q_E d q_K223 102 [some (.inr (.inr (30, 7, 0))), some (.inl a1), some (.inl a2), some (.inl s1), none] [] h (some (.inl r), h) := by
      intro p40 HF
      refine q_blk (pc' := 5) (loc' := [some (.inr (.inr (30, 7, 0))), some (.inl a1), some (.inl a2), some (.inl (s1 + (1 : Int32))), none]) (stk' := []) (h' := h) 2 (fun _ _ => rfl) ?_
      have hz := Option.some.inj HF
      subst hz
      exact H12 (s1 + (1 : Int32)) rfl
    replace HF := HA12
    refine q_br (P := ¬ x9 = 0) (pcT := 35) (pcF := 32) (loc' := [some (.inr (.inr (30, 7, 0))), some (.inl a1), some (.inl a2), some (.inl s1), none]) (stk' := []) (h' := h) 1 (fun _ _ => rfl) (fun c39 => ?_) (fun c39 => ?_)
    · rw [if_pos c39] at HF
      obtain ⟨x15, hx16, HF⟩ := q_bind HF
      refine q_cll (m' := 189) (av := [.inr (.inr (30, 7, 0)), .inl s1]) (st' := []) (pc' := 40) (loc' := [some (.inr (.inr (30, 7, 0))), some (.inl a1), some (.inl a2), some (.inl s1), none]) (h' := h) 3 (fun _ _ => rfl) (eMo_isFull (by omega) hx16) ?_
      obtain ⟨z17, HA18, HK19⟩ := q_bind HF
      have hP20 : ∀ p33 : Int32, (if p33 = 0 then (some (.inr (.inr ((0 : Int32))))) else ((Mo_enderOf s1 h).bind fun x34 => if x34 ≤ 0 then (some (.inl ())) else (some (.inr (.inr ((0 : Int32)))))) : Option ((Unit) ⊕ ((Int32) ⊕ Int32))) = some z11 → q_E d q_K223 85 [some (.inr (.inr (30, 7, 0))), some (.inl a1), some (.inl a2), some (.inl s1), none] [.inl p33] h (some (.inl r), h) := by
        intro p33 HF
        refine q_br (P := p33 = 0) (pcT := 100) (pcF := 92) (loc' := [some (.inr (.inr (30, 7, 0))), some (.inl a1), some (.inl a2), some (.inl s1), some (.inl p33)]) (stk' := []) (h' := h) 3 (fun _ _ => rfl) (fun c37 => ?_) (fun c37 => ?_)
        · rw [if_pos c37] at HF
          have hz := Option.some.inj HF
          subst hz
          replace HF := HK13
          have hz := Option.some.inj HF
          subst hz
          replace HF := HK4
          rw [← H23 _ rfl] at HF
          have hz := Option.some.inj HF
          subst hz
          exact q_rtn 2 (fun _ _ => rfl)
        · rw [if_neg c37] at HF
          obtain ⟨x34, hx35, HF⟩ := q_bind HF
          refine q_cll (m' := 206) (av := [.inr (.inr (30, 7, 0)), .inl s1]) (st' := []) (pc' := 97) (loc' := [some (.inr (.inr (30, 7, 0))), some (.inl a1), some (.inl a2), some (.inl s1), some (.inl p33)]) (h' := h) 3 (fun _ _ => rfl) (eMo_enderOf (by omega) hx35) ?_
          refine q_br (P := x34 ≤ 0) (pcT := 102) (pcF := 100) (loc' := [some (.inr (.inr (30, 7, 0))), some (.inl a1), some (.inl a2), some (.inl s1), some (.inl p33)]) (stk' := []) (h' := h) 1 (fun _ _ => rfl) (fun c36 => ?_) (fun c36 => ?_)
          · rw [if_pos c36] at HF
            have hz := Option.some.inj HF
            subst hz
            exact q_wk (loc := [some (.inr (.inr (30, 7, 0))), some (.inl a1), some (.inl a2), some (.inl s1), none]) ⟨Or.inl rfl, ⟨Or.inl rfl, ⟨Or.inl rfl, ⟨Or.inl rfl, ⟨Or.inr ⟨rfl, fun _ h => by cases h⟩, trivial⟩⟩⟩⟩⟩ (hP14 () HK13)
          · rw [if_neg c36] at HF
            have hz := Option.some.inj HF
            subst hz
            replace HF := HK13
            have hz := Option.some.inj HF
            subst hz
            replace HF := HK4
            rw [← H23 _ rfl] at HF
            have hz := Option.some.inj HF
            subst hz
            exact q_rtn 2 (fun _ _ => rfl)
      replace HF := HA18
      refine q_br (P := x15 = 0) (pcT := 84) (pcF := 43) (loc' := [some (.inr (.inr (30, 7, 0))), some (.inl a1), some (.inl a2), some (.inl s1), none]) (stk' := []) (h' := h) 1 (fun _ _ => rfl) (fun c32 => ?_) (fun c32 => ?_)
      · rw [if_pos c32] at HF
        refine q_blk (pc' := 85) (loc' := [some (.inr (.inr (30, 7, 0))), some (.inl a1), some (.inl a2), some (.inl s1), none]) (stk' := [.inl (0 : Int32)]) (h' := h) 1 (fun _ _ => rfl) ?_
        have hz := Option.some.inj HF
        subst hz
        exact hP20 (0 : Int32) HK19
      · rw [if_neg c32] at HF
        obtain ⟨x21, hx22, HF⟩ := q_bind HF
        refine q_cll (m' := 187) (av := [.inr (.inr (30, 7, 0)), .inl s1, .inl (11 : Int32)]) (st' := []) (pc' := 50) (loc' := [some (.inr (.inr (30, 7, 0))), some (.inl a1), some (.inl a2), some (.inl s1), none]) (h' := h) 4 (fun _ _ => rfl) (eMo_of (by omega) hx22) ?_
        refine q_br (P := x21 = (1 : Int32)) (pcT := 80) (pcF := 54) (loc' := [some (.inr (.inr (30, 7, 0))), some (.inl a1), some (.inl a2), some (.inl s1), none]) (stk' := []) (h' := h) 2 (fun _ _ => rfl) (fun c31 => ?_) (fun c31 => ?_)
        · rw [if_pos c31] at HF
          refine q_blk (pc' := 85) (loc' := [some (.inr (.inr (30, 7, 0))), some (.inl a1), some (.inl a2), some (.inl s1), none]) (stk' := [.inl (1 : Int32)]) (h' := h) 2 (fun _ _ => rfl) ?_
          have hz := Option.some.inj HF
          subst hz
          exact hP20 (1 : Int32) HK19
        · rw [if_neg c31] at HF
          obtain ⟨x23, hx24, HF⟩ := q_bind HF
          refine q_cll (m' := 187) (av := [.inr (.inr (30, 7, 0)), .inl s1, .inl (6 : Int32)]) (st' := [.inr (.inr (30, 7, 0))]) (pc' := 62) (loc' := [some (.inr (.inr (30, 7, 0))), some (.inl a1), some (.inl a2), some (.inl s1), none]) (h' := h) 5 (fun _ _ => rfl) (eMo_of (by omega) hx24) ?_
          obtain ⟨x25, hx26, HF⟩ := q_bind HF
          refine q_cll (m' := 196) (av := [.inr (.inr (30, 7, 0)), .inl x23]) (st' := []) (pc' := 65) (loc' := [some (.inr (.inr (30, 7, 0))), some (.inl a1), some (.inl a2), some (.inl s1), none]) (h' := h) 1 (fun _ _ => rfl) (eMo_stateOf (by omega) hx26) ?_
          refine q_br (P := ¬ x25 = (1 : Int32)) (pcT := 84) (pcF := 69) (loc' := [some (.inr (.inr (30, 7, 0))), some (.inl a1), some (.inl a2), some (.inl s1), none]) (stk' := []) (h' := h) 2 (fun _ _ => rfl) (fun c30 => ?_) (fun c30 => ?_)
          · rw [if_pos c30] at HF
            refine q_blk (pc' := 85) (loc' := [some (.inr (.inr (30, 7, 0))), some (.inl a1), some (.inl a2), some (.inl s1), none]) (stk' := [.inl (0 : Int32)]) (h' := h) 1 (fun _ _ => rfl) ?_
            have hz := Option.some.inj HF
            subst hz
            exact hP20 (0 : Int32) HK19
          · rw [if_neg c30] at HF
            obtain ⟨x27, hx28, HF⟩ := q_bind HF
            refine q_cll (m' := 187) (av := [.inr (.inr (30, 7, 0)), .inl s1, .inl (6 : Int32)]) (st' := []) (pc' := 76) (loc' := [some (.inr (.inr (30, 7, 0))), some (.inl a1), some (.inl a2), some (.inl s1), none]) (h' := h) 4 (fun _ _ => rfl) (eMo_of (by omega) hx28) ?_
            refine q_br (P := a2 ≤ x27) (pcT := 84) (pcF := 80) (loc' := [some (.inr (.inr (30, 7, 0))), some (.inl a1), some (.inl a2), some (.inl s1), none]) (stk' := []) (h' := h) 2 (fun _ _ => rfl) (fun c29 => ?_) (fun c29 => ?_)
            · rw [if_pos c29] at HF
              refine q_blk (pc' := 85) (loc' := [some (.inr (.inr (30, 7, 0))), some (.inl a1), some (.inl a2), some (.inl s1), none]) (stk' := [.inl (0 : Int32)]) (h' := h) 1 (fun _ _ => rfl) ?_
              have hz := Option.some.inj HF
              subst hz
              exact hP20 (0 : Int32) HK19
            · rw [if_neg c29] at HF
              refine q_blk (pc' := 85) (loc' := [some (.inr (.inr (30, 7, 0))), some (.inl a1), some (.inl a2), some (.inl s1), none]) (stk' := [.inl (1 : Int32)]) (h' := h) 2 (fun _ _ => rfl) ?_
              have hz := Option.some.inj HF
              subst hz
              exact hP20 (1 : Int32) HK19
    · rw [if_neg c39] at HF
      refine q_blk (pc' := 102) (loc' := [some (.inr (.inr (30, 7, 0))), some (.inl a1), some (.inl a2), some (.inl s1), none]) (stk' := []) (h' := h) 1 (fun _ _ => rfl) ?_
      have hz := Option.some.inj HF
      subst hz
      exact hP14 () HK13
def Mo_noTouch (a1 : Int32) (a2 : Int32) (h : q_H) : Option Int32 :=
  (Mo_enderOf a2 h).bind fun x1 => if 0 ≤ x1 then ((Mo_enderOf a2 h).bind fun x3 => (Mo_isOpen x3 h).bind fun x5 => if x5 = 0 then (some ((8 : Int32))) else (some ((7 : Int32)))) else (some ((0 : Int32)))
set_option maxRecDepth 100000 in
set_option maxHeartbeats 4000000 in
theorem eMo_noTouch {d : Nat} (hd : 3 ≤ d) {a1 : Int32} {a2 : Int32} {h : q_H} {r : Int32} (HF : Mo_noTouch a1 a2 h = some r) : q_T d 228 [.inr (.inr (30, 7, 0)), .inl a1, .inl a2] h (some (.inl r), h) := by
  obtain ⟨d, rfl⟩ : ∃ d', d = d' + 1 := ⟨d - 1, by omega⟩
  refine q_ent q_K228 rfl rfl rfl ?_
  unfold Mo_noTouch at HF
  obtain ⟨x1, hx2, HF⟩ := q_bind HF
  refine q_cll (m' := 206) (av := [.inr (.inr (30, 7, 0)), .inl a2]) (st' := []) (pc' := 5) (loc' := [some (.inr (.inr (30, 7, 0))), some (.inl a1), some (.inl a2)]) (h' := h) 3 (fun _ _ => rfl) (eMo_enderOf (by omega) hx2) ?_
  refine q_br (P := 0 ≤ x1) (pcT := 12) (pcF := 8) (loc' := [some (.inr (.inr (30, 7, 0))), some (.inl a1), some (.inl a2)]) (stk' := []) (h' := h) 1 (fun _ _ => rfl) (fun c8 => ?_) (fun c8 => ?_)
  · rw [if_pos c8] at HF
    obtain ⟨x3, hx4, HF⟩ := q_bind HF
    refine q_cll (m' := 206) (av := [.inr (.inr (30, 7, 0)), .inl a2]) (st' := [.inr (.inr (30, 7, 0))]) (pc' := 18) (loc' := [some (.inr (.inr (30, 7, 0))), some (.inl a1), some (.inl a2)]) (h' := h) 4 (fun _ _ => rfl) (eMo_enderOf (by omega) hx4) ?_
    obtain ⟨x5, hx6, HF⟩ := q_bind HF
    refine q_cll (m' := 197) (av := [.inr (.inr (30, 7, 0)), .inl x3]) (st' := []) (pc' := 21) (loc' := [some (.inr (.inr (30, 7, 0))), some (.inl a1), some (.inl a2)]) (h' := h) 1 (fun _ _ => rfl) (eMo_isOpen (by omega) hx6) ?_
    refine q_br (P := x5 = 0) (pcT := 29) (pcF := 24) (loc' := [some (.inr (.inr (30, 7, 0))), some (.inl a1), some (.inl a2)]) (stk' := []) (h' := h) 1 (fun _ _ => rfl) (fun c7 => ?_) (fun c7 => ?_)
    · rw [if_pos c7] at HF
      have hz := Option.some.inj HF
      subst hz
      exact q_rtn 2 (fun _ _ => rfl)
    · rw [if_neg c7] at HF
      have hz := Option.some.inj HF
      subst hz
      exact q_rtn 3 (fun _ _ => rfl)
  · rw [if_neg c8] at HF
    have hz := Option.some.inj HF
    subst hz
    exact q_rtn 3 (fun _ _ => rfl)
def Mo_beginNow  (h : q_H) : Option (Int32 × q_H) :=
  if (h.1 31 0 7 4) ≤ (60 : Int32) then (bif q_in ((1052 : Int32) + ((3 : Int32) * (h.1 31 0 7 4))) 1644 then (bif q_in (((1052 : Int32) + ((3 : Int32) * (h.1 31 0 7 4))) + (1 : Int32)) 1644 then ((some (q_si (q_si h 31 0 7 ((1052 : Int32) + ((3 : Int32) * (h.1 31 0 7 4))).toNatClampNeg (0 : Int32)) 31 0 7 (((1052 : Int32) + ((3 : Int32) * (h.1 31 0 7 4))) + (1 : Int32)).toNatClampNeg (0 : Int32))).bind fun h1 => bif q_in (((1052 : Int32) + ((3 : Int32) * (h.1 31 0 7 4))) + (2 : Int32)) 1644 then ((q_lp (fun s3 : Int32 × q_H => (if (h.1 31 0 7 4) ≤ s3.1 then (bif q_in ((1583 : Int32) + (h.1 31 0 7 4)) 1644 then ((some (q_si (q_si s3.2 31 0 7 ((1583 : Int32) + (h.1 31 0 7 4)).toNatClampNeg (0 : Int32)) 31 0 7 4 (((q_si s3.2 31 0 7 ((1583 : Int32) + (h.1 31 0 7 4)).toNatClampNeg (0 : Int32)).1 31 0 7 4) + (1 : Int32)))).bind fun h11 => some (.inr (((h.1 31 0 7 4), h11)))) else none) else ((Mo_isOpen s3.1 s3.2).bind fun x14 => Option.bind (α := q_H) (if x14 = 0 then (some (s3.2)) else (Option.bind (α := Int32) (if s3.1 ≤ (30 : Int32) then (some ((1 : Int32))) else (some ((2 : Int32)))) (fun p25 => bif q_in (((1052 : Int32) + ((3 : Int32) * (h.1 31 0 7 4))) + p25) 1644 then (if s3.1 ≤ (30 : Int32) then (bif q_in (((1052 : Int32) + ((3 : Int32) * (h.1 31 0 7 4))) + p25) 1644 then ((some (q_si s3.2 31 0 7 (((1052 : Int32) + ((3 : Int32) * (h.1 31 0 7 4))) + p25).toNatClampNeg ((s3.2.1 31 0 7 (((1052 : Int32) + ((3 : Int32) * (h.1 31 0 7 4))) + p25).toNatClampNeg) ||| ((1 : Int32) <<< ((s3.1 - (1 : Int32)) &&& 31))))).bind fun h26 => some (h26)) else none) else (bif q_in (((1052 : Int32) + ((3 : Int32) * (h.1 31 0 7 4))) + p25) 1644 then ((some (q_si s3.2 31 0 7 (((1052 : Int32) + ((3 : Int32) * (h.1 31 0 7 4))) + p25).toNatClampNeg ((s3.2.1 31 0 7 (((1052 : Int32) + ((3 : Int32) * (h.1 31 0 7 4))) + p25).toNatClampNeg) ||| ((1 : Int32) <<< ((s3.1 - (31 : Int32)) &&& 31))))).bind fun h29 => some (h29)) else none)) else none))) (fun p36 => some (.inl ((s3.1 + (1 : Int32)), p36)))) : Option ((Int32 × q_H) ⊕ (Int32 × q_H)))) q_fu (((1 : Int32), (q_si h1 31 0 7 (((1052 : Int32) + ((3 : Int32) * (h.1 31 0 7 4))) + (2 : Int32)).toNatClampNeg (0 : Int32))) : Int32 × q_H)).bind fun z10 => some z10) else none) else none) else none) else ((Mo_refuse (3 : Int32) h).bind fun x42 => some ((x42.1, x42.2)))
set_option maxRecDepth 100000 in
set_option maxHeartbeats 4000000 in
theorem eMo_beginNow {d : Nat} (hd : 3 ≤ d)  {h : q_H} {r : (Int32 × q_H)} (HF : Mo_beginNow  h = some r) : q_T d 236 [.inr (.inr (30, 7, 0))] h (some (.inl r.1), r.2) := by
  obtain ⟨d, rfl⟩ : ∃ d', d = d' + 1 := ⟨d - 1, by omega⟩
  refine q_ent q_K236 rfl rfl rfl ?_
  unfold Mo_beginNow at HF
  refine q_br (P := (h.1 31 0 7 4) ≤ (60 : Int32)) (pcT := 19) (pcF := 13) (loc' := [some (.inr (.inr (30, 7, 0))), some (.inl (h.1 31 0 7 4)), none]) (stk' := []) (h' := h) 8 (fun _ _ => rfl) (fun c44 => ?_) (fun c44 => ?_)
  · rw [if_pos c44] at HF
    obtain ⟨g41, HF⟩ := q_gF HF
    refine q_gd (pc' := 32) (loc' := [some (.inr (.inr (30, 7, 0))), some (.inl (h.1 31 0 7 4)), none]) (stk' := []) (h' := (q_si h 31 0 7 ((1052 : Int32) + ((3 : Int32) * (h.1 31 0 7 4))).toNatClampNeg (0 : Int32))) 9 (fun _ _ => rfl) g41 ?_
    obtain ⟨g40, HF⟩ := q_gF HF
    refine q_gd (pc' := 47) (loc' := [some (.inr (.inr (30, 7, 0))), some (.inl (h.1 31 0 7 4)), none]) (stk' := []) (h' := (q_si (q_si h 31 0 7 ((1052 : Int32) + ((3 : Int32) * (h.1 31 0 7 4))).toNatClampNeg (0 : Int32)) 31 0 7 (((1052 : Int32) + ((3 : Int32) * (h.1 31 0 7 4))) + (1 : Int32)).toNatClampNeg (0 : Int32))) 11 (fun _ _ => rfl) g40 ?_
    obtain ⟨h1, e2, HF⟩ := q_bind HF
    refine q_blk (pc' := 47) (loc' := [some (.inr (.inr (30, 7, 0))), some (.inl (h.1 31 0 7 4)), none]) (stk' := []) (h' := (q_si (q_si h 31 0 7 ((1052 : Int32) + ((3 : Int32) * (h.1 31 0 7 4))).toNatClampNeg (0 : Int32)) 31 0 7 (((1052 : Int32) + ((3 : Int32) * (h.1 31 0 7 4))) + (1 : Int32)).toNatClampNeg (0 : Int32))) 0 (fun _ _ => rfl) ?_
    rw [Option.some.inj e2]
    obtain ⟨g39, HF⟩ := q_gF HF
    refine q_gd (pc' := 62) (loc' := [some (.inr (.inr (30, 7, 0))), some (.inl (h.1 31 0 7 4)), none]) (stk' := []) (h' := (q_si h1 31 0 7 (((1052 : Int32) + ((3 : Int32) * (h.1 31 0 7 4))) + (2 : Int32)).toNatClampNeg (0 : Int32))) 11 (fun _ _ => rfl) g39 ?_
    refine q_blk (pc' := 64) (loc' := [some (.inr (.inr (30, 7, 0))), some (.inl (h.1 31 0 7 4)), some (.inl (1 : Int32))]) (stk' := []) (h' := (q_si h1 31 0 7 (((1052 : Int32) + ((3 : Int32) * (h.1 31 0 7 4))) + (2 : Int32)).toNatClampNeg (0 : Int32))) 2 (fun _ _ => rfl) ?_
    obtain ⟨r8, hl9, HK6⟩ := q_bind HF
    refine q_lpE (E := fun s3 => q_E d q_K236 64 [some (.inr (.inr (30, 7, 0))), some (.inl (h.1 31 0 7 4)), some (.inl s3.1)] [] s3.2 (some (.inl r.1), r.2)) r8 (fun s3 z10 HF H14 H25 => ?_) _ _ hl9
    refine q_br (P := (h.1 31 0 7 4) ≤ s3.1) (pcT := 128) (pcF := 69) (loc' := [some (.inr (.inr (30, 7, 0))), some (.inl (h.1 31 0 7 4)), some (.inl s3.1)]) (stk' := []) (h' := s3.2) 3 (fun _ _ => rfl) (fun c38 => ?_) (fun c38 => ?_)
    · rw [if_pos c38] at HF
      obtain ⟨g13, HF⟩ := q_gF HF
      refine q_gd (pc' := 139) (loc' := [some (.inr (.inr (30, 7, 0))), some (.inl (h.1 31 0 7 4)), some (.inl s3.1)]) (stk' := []) (h' := (q_si s3.2 31 0 7 ((1583 : Int32) + (h.1 31 0 7 4)).toNatClampNeg (0 : Int32))) 7 (fun _ _ => rfl) g13 ?_
      obtain ⟨h11, e12, HF⟩ := q_bind HF
      refine q_blk (pc' := 149) (loc' := [some (.inr (.inr (30, 7, 0))), some (.inl (h.1 31 0 7 4)), some (.inl s3.1)]) (stk' := []) (h' := (q_si (q_si s3.2 31 0 7 ((1583 : Int32) + (h.1 31 0 7 4)).toNatClampNeg (0 : Int32)) 31 0 7 4 (((q_si s3.2 31 0 7 ((1583 : Int32) + (h.1 31 0 7 4)).toNatClampNeg (0 : Int32)).1 31 0 7 4) + (1 : Int32)))) 8 (fun _ _ => rfl) ?_
      rw [Option.some.inj e12]
      have hz := Option.some.inj HF
      subst hz
      replace HF := HK6
      rw [← H25 _ rfl] at HF
      have hz := Option.some.inj HF
      subst hz
      exact q_rtn 2 (fun _ _ => rfl)
    · rw [if_neg c38] at HF
      obtain ⟨x14, hx15, HF⟩ := q_bind HF
      refine q_cll (m' := 197) (av := [.inr (.inr (30, 7, 0)), .inl s3.1]) (st' := []) (pc' := 74) (loc' := [some (.inr (.inr (30, 7, 0))), some (.inl (h.1 31 0 7 4)), some (.inl s3.1)]) (h' := s3.2) 3 (fun _ _ => rfl) (eMo_isOpen (by omega) hx15) ?_
      obtain ⟨z16, HA17, HK18⟩ := q_bind HF
      have hP19 : ∀ p36 : q_H, (some (.inl ((s3.1 + (1 : Int32)), p36)) : Option ((Int32 × q_H) ⊕ (Int32 × q_H))) = some z10 → q_E d q_K236 122 [some (.inr (.inr (30, 7, 0))), some (.inl (h.1 31 0 7 4)), some (.inl s3.1)] [] p36 (some (.inl r.1), r.2) := by
        intro p36 HF
        refine q_blk (pc' := 64) (loc' := [some (.inr (.inr (30, 7, 0))), some (.inl (h.1 31 0 7 4)), some (.inl (s3.1 + (1 : Int32)))]) (stk' := []) (h' := p36) 2 (fun _ _ => rfl) ?_
        have hz := Option.some.inj HF
        subst hz
        exact H14 ((s3.1 + (1 : Int32)), p36) rfl
      replace HF := HA17
      refine q_br (P := x14 = 0) (pcT := 122) (pcF := 77) (loc' := [some (.inr (.inr (30, 7, 0))), some (.inl (h.1 31 0 7 4)), some (.inl s3.1)]) (stk' := []) (h' := s3.2) 1 (fun _ _ => rfl) (fun c35 => ?_) (fun c35 => ?_)
      · rw [if_pos c35] at HF
        have hz := Option.some.inj HF
        subst hz
        exact hP19 (s3.2) HK18
      · rw [if_neg c35] at HF
        obtain ⟨z20, HA21, HK22⟩ := q_bind HF
        have hP23 : ∀ p25 : Int32, (bif q_in (((1052 : Int32) + ((3 : Int32) * (h.1 31 0 7 4))) + p25) 1644 then (if s3.1 ≤ (30 : Int32) then (bif q_in (((1052 : Int32) + ((3 : Int32) * (h.1 31 0 7 4))) + p25) 1644 then ((some (q_si s3.2 31 0 7 (((1052 : Int32) + ((3 : Int32) * (h.1 31 0 7 4))) + p25).toNatClampNeg ((s3.2.1 31 0 7 (((1052 : Int32) + ((3 : Int32) * (h.1 31 0 7 4))) + p25).toNatClampNeg) ||| ((1 : Int32) <<< ((s3.1 - (1 : Int32)) &&& 31))))).bind fun h26 => some (h26)) else none) else (bif q_in (((1052 : Int32) + ((3 : Int32) * (h.1 31 0 7 4))) + p25) 1644 then ((some (q_si s3.2 31 0 7 (((1052 : Int32) + ((3 : Int32) * (h.1 31 0 7 4))) + p25).toNatClampNeg ((s3.2.1 31 0 7 (((1052 : Int32) + ((3 : Int32) * (h.1 31 0 7 4))) + p25).toNatClampNeg) ||| ((1 : Int32) <<< ((s3.1 - (31 : Int32)) &&& 31))))).bind fun h29 => some (h29)) else none)) else none : Option (q_H)) = some z16 → q_E d q_K236 99 [some (.inr (.inr (30, 7, 0))), some (.inl (h.1 31 0 7 4)), some (.inl s3.1)] [.inl p25, .inl ((1052 : Int32) + ((3 : Int32) * (h.1 31 0 7 4))), .inr (.inr (31, 7, 0))] s3.2 (some (.inl r.1), r.2) := by
          intro p25 HF
          obtain ⟨g33, HF⟩ := q_gF HF
          refine q_gd (pc' := 102) (loc' := [some (.inr (.inr (30, 7, 0))), some (.inl (h.1 31 0 7 4)), some (.inl s3.1)]) (stk' := [.inl (s3.2.1 31 0 7 (((1052 : Int32) + ((3 : Int32) * (h.1 31 0 7 4))) + p25).toNatClampNeg), .inl (((1052 : Int32) + ((3 : Int32) * (h.1 31 0 7 4))) + p25), .inr (.inr (31, 7, 0))]) (h' := s3.2) 3 (fun _ _ => rfl) g33 ?_
          refine q_br (P := s3.1 ≤ (30 : Int32)) (pcT := 116) (pcF := 109) (loc' := [some (.inr (.inr (30, 7, 0))), some (.inl (h.1 31 0 7 4)), some (.inl s3.1)]) (stk' := [.inl (1 : Int32), .inl (s3.2.1 31 0 7 (((1052 : Int32) + ((3 : Int32) * (h.1 31 0 7 4))) + p25).toNatClampNeg), .inl (((1052 : Int32) + ((3 : Int32) * (h.1 31 0 7 4))) + p25), .inr (.inr (31, 7, 0))]) (h' := s3.2) 4 (fun _ _ => rfl) (fun c32 => ?_) (fun c32 => ?_)
          · rw [if_pos c32] at HF
            obtain ⟨g28, HF⟩ := q_gF HF
            refine q_gd (pc' := 122) (loc' := [some (.inr (.inr (30, 7, 0))), some (.inl (h.1 31 0 7 4)), some (.inl s3.1)]) (stk' := []) (h' := (q_si s3.2 31 0 7 (((1052 : Int32) + ((3 : Int32) * (h.1 31 0 7 4))) + p25).toNatClampNeg ((s3.2.1 31 0 7 (((1052 : Int32) + ((3 : Int32) * (h.1 31 0 7 4))) + p25).toNatClampNeg) ||| ((1 : Int32) <<< ((s3.1 - (1 : Int32)) &&& 31))))) 6 (fun _ _ => rfl) g28 ?_
            obtain ⟨h26, e27, HF⟩ := q_bind HF
            refine q_blk (pc' := 122) (loc' := [some (.inr (.inr (30, 7, 0))), some (.inl (h.1 31 0 7 4)), some (.inl s3.1)]) (stk' := []) (h' := (q_si s3.2 31 0 7 (((1052 : Int32) + ((3 : Int32) * (h.1 31 0 7 4))) + p25).toNatClampNeg ((s3.2.1 31 0 7 (((1052 : Int32) + ((3 : Int32) * (h.1 31 0 7 4))) + p25).toNatClampNeg) ||| ((1 : Int32) <<< ((s3.1 - (1 : Int32)) &&& 31))))) 0 (fun _ _ => rfl) ?_
            rw [Option.some.inj e27]
            have hz := Option.some.inj HF
            subst hz
            exact hP19 (h26) HK18
          · rw [if_neg c32] at HF
            obtain ⟨g31, HF⟩ := q_gF HF
            refine q_gd (pc' := 122) (loc' := [some (.inr (.inr (30, 7, 0))), some (.inl (h.1 31 0 7 4)), some (.inl s3.1)]) (stk' := []) (h' := (q_si s3.2 31 0 7 (((1052 : Int32) + ((3 : Int32) * (h.1 31 0 7 4))) + p25).toNatClampNeg ((s3.2.1 31 0 7 (((1052 : Int32) + ((3 : Int32) * (h.1 31 0 7 4))) + p25).toNatClampNeg) ||| ((1 : Int32) <<< ((s3.1 - (31 : Int32)) &&& 31))))) 7 (fun _ _ => rfl) g31 ?_
            obtain ⟨h29, e30, HF⟩ := q_bind HF
            refine q_blk (pc' := 122) (loc' := [some (.inr (.inr (30, 7, 0))), some (.inl (h.1 31 0 7 4)), some (.inl s3.1)]) (stk' := []) (h' := (q_si s3.2 31 0 7 (((1052 : Int32) + ((3 : Int32) * (h.1 31 0 7 4))) + p25).toNatClampNeg ((s3.2.1 31 0 7 (((1052 : Int32) + ((3 : Int32) * (h.1 31 0 7 4))) + p25).toNatClampNeg) ||| ((1 : Int32) <<< ((s3.1 - (31 : Int32)) &&& 31))))) 0 (fun _ _ => rfl) ?_
            rw [Option.some.inj e30]
            have hz := Option.some.inj HF
            subst hz
            exact hP19 (h29) HK18
        replace HF := HA21
        refine q_br (P := s3.1 ≤ (30 : Int32)) (pcT := 98) (pcF := 94) (loc' := [some (.inr (.inr (30, 7, 0))), some (.inl (h.1 31 0 7 4)), some (.inl s3.1)]) (stk' := [.inl ((1052 : Int32) + ((3 : Int32) * (h.1 31 0 7 4))), .inr (.inr (31, 7, 0))]) (h' := s3.2) 10 (fun _ _ => rfl) (fun c24 => ?_) (fun c24 => ?_)
        · rw [if_pos c24] at HF
          refine q_blk (pc' := 99) (loc' := [some (.inr (.inr (30, 7, 0))), some (.inl (h.1 31 0 7 4)), some (.inl s3.1)]) (stk' := [.inl (1 : Int32), .inl ((1052 : Int32) + ((3 : Int32) * (h.1 31 0 7 4))), .inr (.inr (31, 7, 0))]) (h' := s3.2) 1 (fun _ _ => rfl) ?_
          have hz := Option.some.inj HF
          subst hz
          exact hP23 (1 : Int32) HK22
        · rw [if_neg c24] at HF
          refine q_blk (pc' := 99) (loc' := [some (.inr (.inr (30, 7, 0))), some (.inl (h.1 31 0 7 4)), some (.inl s3.1)]) (stk' := [.inl (2 : Int32), .inl ((1052 : Int32) + ((3 : Int32) * (h.1 31 0 7 4))), .inr (.inr (31, 7, 0))]) (h' := s3.2) 2 (fun _ _ => rfl) ?_
          have hz := Option.some.inj HF
          subst hz
          exact hP23 (2 : Int32) HK22
  · rw [if_neg c44] at HF
    obtain ⟨x42, hx43, HF⟩ := q_bind HF
    refine q_cll (m' := 182) (av := [.inr (.inr (30, 7, 0)), .inl (3 : Int32)]) (st' := []) (pc' := 18) (loc' := [some (.inr (.inr (30, 7, 0))), some (.inl (h.1 31 0 7 4)), none]) (h' := h) 3 (fun _ _ => rfl) (eMo_refuse (by omega) hx43) ?_
    have hz := Option.some.inj HF
    subst hz
    exact q_rtn 1 (fun _ _ => rfl)
def Mo_isAnyOpen  (h : q_H) : Option Int32 :=
  (q_lp (fun s1 : Int32 => (if (h.1 31 0 7 4) ≤ s1 then (some (.inr ((0 : Int32)))) else ((Mo_isOpen s1 h).bind fun x9 => if x9 = 0 then (some (.inl (s1 + (1 : Int32)))) else (some (.inr ((1 : Int32))))) : Option ((Int32) ⊕ Int32))) q_fu ((1 : Int32) : Int32)).bind fun z8 => some z8
set_option maxRecDepth 100000 in
set_option maxHeartbeats 4000000 in
theorem eMo_isAnyOpen {d : Nat} (hd : 3 ≤ d)  {h : q_H} {r : Int32} (HF : Mo_isAnyOpen  h = some r) : q_T d 243 [.inr (.inr (30, 7, 0))] h (some (.inl r), h) := by
  obtain ⟨d, rfl⟩ : ∃ d', d = d' + 1 := ⟨d - 1, by omega⟩
  refine q_ent q_K243 rfl rfl rfl ?_
  unfold Mo_isAnyOpen at HF
  refine q_blk (pc' := 2) (loc' := [some (.inr (.inr (30, 7, 0))), some (.inl (1 : Int32))]) (stk' := []) (h' := h) 2 (fun _ _ => rfl) ?_
  obtain ⟨r6, hl7, HK4⟩ := q_bind HF
  refine q_lpE (E := fun s1 => q_E d q_K243 2 [some (.inr (.inr (30, 7, 0))), some (.inl s1)] [] h (some (.inl r), h)) r6 (fun s1 z8 HF H12 H23 => ?_) _ _ hl7
  refine q_br (P := (h.1 31 0 7 4) ≤ s1) (pcT := 28) (pcF := 12) (loc' := [some (.inr (.inr (30, 7, 0))), some (.inl s1)]) (stk' := []) (h' := h) 6 (fun _ _ => rfl) (fun c12 => ?_) (fun c12 => ?_)
  · rw [if_pos c12] at HF
    have hz := Option.some.inj HF
    subst hz
    replace HF := HK4
    rw [← H23 _ rfl] at HF
    have hz := Option.some.inj HF
    subst hz
    exact q_rtn 2 (fun _ _ => rfl)
  · rw [if_neg c12] at HF
    obtain ⟨x9, hx10, HF⟩ := q_bind HF
    refine q_cll (m' := 197) (av := [.inr (.inr (30, 7, 0)), .inl s1]) (st' := []) (pc' := 17) (loc' := [some (.inr (.inr (30, 7, 0))), some (.inl s1)]) (h' := h) 3 (fun _ _ => rfl) (eMo_isOpen (by omega) hx10) ?_
    refine q_br (P := x9 = 0) (pcT := 22) (pcF := 20) (loc' := [some (.inr (.inr (30, 7, 0))), some (.inl s1)]) (stk' := []) (h' := h) 1 (fun _ _ => rfl) (fun c11 => ?_) (fun c11 => ?_)
    · rw [if_pos c11] at HF
      refine q_blk (pc' := 2) (loc' := [some (.inr (.inr (30, 7, 0))), some (.inl (s1 + (1 : Int32)))]) (stk' := []) (h' := h) 2 (fun _ _ => rfl) ?_
      have hz := Option.some.inj HF
      subst hz
      exact H12 (s1 + (1 : Int32)) rfl
    · rw [if_neg c11] at HF
      have hz := Option.some.inj HF
      subst hz
      replace HF := HK4
      rw [← H23 _ rfl] at HF
      have hz := Option.some.inj HF
      subst hz
      exact q_rtn 2 (fun _ _ => rfl)
def Mo_lives (a1 : Int32) (h : q_H) : Option Int32 :=
  (Mo_of a1 (11 : Int32) h).bind fun x1 => Option.bind (α := (Unit) ⊕ Int32) (if x1 = (1 : Int32) then (some (.inl ())) else ((Mo_of a1 (6 : Int32) h).bind fun x7 => (Mo_stateOf x7 h).bind fun x9 => if ¬ x9 = (1 : Int32) then (some (.inr ((0 : Int32)))) else (some (.inl ())))) (fun z3 => match z3 with | .inl p13 => (Mo_enderOf a1 h).bind fun x14 => if 0 ≤ x14 then (some ((0 : Int32))) else (some ((1 : Int32))) | .inr z3 => some z3)
set_option maxRecDepth 100000 in
set_option maxHeartbeats 4000000 in
theorem eMo_lives {d : Nat} (hd : 3 ≤ d) {a1 : Int32} {h : q_H} {r : Int32} (HF : Mo_lives a1 h = some r) : q_T d 244 [.inr (.inr (30, 7, 0)), .inl a1] h (some (.inl r), h) := by
  obtain ⟨d, rfl⟩ : ∃ d', d = d' + 1 := ⟨d - 1, by omega⟩
  refine q_ent q_K244 rfl rfl rfl ?_
  unfold Mo_lives at HF
  obtain ⟨x1, hx2, HF⟩ := q_bind HF
  refine q_cll (m' := 187) (av := [.inr (.inr (30, 7, 0)), .inl a1, .inl (11 : Int32)]) (st' := []) (pc' := 7) (loc' := [some (.inr (.inr (30, 7, 0))), some (.inl a1)]) (h' := h) 4 (fun _ _ => rfl) (eMo_of (by omega) hx2) ?_
  obtain ⟨z3, HA4, HK5⟩ := q_bind HF
  have hP6 : ∀ p13 : Unit, ((Mo_enderOf a1 h).bind fun x14 => if 0 ≤ x14 then (some ((0 : Int32))) else (some ((1 : Int32))) : Option Int32) = some r → q_E d q_K244 26 [some (.inr (.inr (30, 7, 0))), some (.inl a1)] [] h (some (.inl r), h) := by
    intro p13 HF
    obtain ⟨x14, hx15, HF⟩ := q_bind HF
    refine q_cll (m' := 206) (av := [.inr (.inr (30, 7, 0)), .inl a1]) (st' := []) (pc' := 31) (loc' := [some (.inr (.inr (30, 7, 0))), some (.inl a1)]) (h' := h) 3 (fun _ _ => rfl) (eMo_enderOf (by omega) hx15) ?_
    refine q_br (P := 0 ≤ x14) (pcT := 38) (pcF := 34) (loc' := [some (.inr (.inr (30, 7, 0))), some (.inl a1)]) (stk' := []) (h' := h) 1 (fun _ _ => rfl) (fun c16 => ?_) (fun c16 => ?_)
    · rw [if_pos c16] at HF
      have hz := Option.some.inj HF
      subst hz
      exact q_rtn 2 (fun _ _ => rfl)
    · rw [if_neg c16] at HF
      have hz := Option.some.inj HF
      subst hz
      exact q_rtn 3 (fun _ _ => rfl)
  replace HF := HA4
  refine q_br (P := x1 = (1 : Int32)) (pcT := 26) (pcF := 11) (loc' := [some (.inr (.inr (30, 7, 0))), some (.inl a1)]) (stk' := []) (h' := h) 2 (fun _ _ => rfl) (fun c12 => ?_) (fun c12 => ?_)
  · rw [if_pos c12] at HF
    have hz := Option.some.inj HF
    subst hz
    exact hP6 () HK5
  · rw [if_neg c12] at HF
    obtain ⟨x7, hx8, HF⟩ := q_bind HF
    refine q_cll (m' := 187) (av := [.inr (.inr (30, 7, 0)), .inl a1, .inl (6 : Int32)]) (st' := [.inr (.inr (30, 7, 0))]) (pc' := 19) (loc' := [some (.inr (.inr (30, 7, 0))), some (.inl a1)]) (h' := h) 5 (fun _ _ => rfl) (eMo_of (by omega) hx8) ?_
    obtain ⟨x9, hx10, HF⟩ := q_bind HF
    refine q_cll (m' := 196) (av := [.inr (.inr (30, 7, 0)), .inl x7]) (st' := []) (pc' := 22) (loc' := [some (.inr (.inr (30, 7, 0))), some (.inl a1)]) (h' := h) 1 (fun _ _ => rfl) (eMo_stateOf (by omega) hx10) ?_
    refine q_br (P := ¬ x9 = (1 : Int32)) (pcT := 38) (pcF := 26) (loc' := [some (.inr (.inr (30, 7, 0))), some (.inl a1)]) (stk' := []) (h' := h) 2 (fun _ _ => rfl) (fun c11 => ?_) (fun c11 => ?_)
    · rw [if_pos c11] at HF
      have hz := Option.some.inj HF
      subst hz
      replace HF := HK5
      have hz := Option.some.inj HF
      subst hz
      exact q_rtn 2 (fun _ _ => rfl)
    · rw [if_neg c11] at HF
      have hz := Option.some.inj HF
      subst hz
      exact hP6 () HK5
