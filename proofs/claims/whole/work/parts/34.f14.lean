def Mo_inserts (a1 : Int32) (a2 : Int32) (a3 : Int32) (a4 : Int32) (h : q_H) : Option (Int32 × q_H) :=
  (Mo_firstPlace a4 h).bind fun x1 => (Mo_fills x1 (h.1 31 0 7 3) a2 a3 a4 a1 (0 : Int32) h).bind fun x3 => (Mo_enters a2 x1 x3).bind fun x5 => some (((((q_si x5 31 0 7 3 ((x5.1 31 0 7 3) + (1 : Int32))).1 31 0 7 3) - (1 : Int32)), (q_si x5 31 0 7 3 ((x5.1 31 0 7 3) + (1 : Int32)))))
set_option maxRecDepth 100000 in
set_option maxHeartbeats 4000000 in
theorem eMo_inserts {d : Nat} (hd : 6 ≤ d) {a1 : Int32} {a2 : Int32} {a3 : Int32} {a4 : Int32} {h : q_H} {r : (Int32 × q_H)} (HF : Mo_inserts a1 a2 a3 a4 h = some r) : q_T d 226 [.inr (.inr (30, 7, 0)), .inl a1, .inl a2, .inl a3, .inl a4] h (some (.inl r.1), r.2) := by
  obtain ⟨d, rfl⟩ : ∃ d', d = d' + 1 := ⟨d - 1, by omega⟩
  refine q_ent q_K226 rfl rfl rfl ?_
  unfold Mo_inserts at HF
  obtain ⟨x1, hx2, HF⟩ := q_bind HF
  refine q_cll (m' := 194) (av := [.inr (.inr (30, 7, 0)), .inl a4]) (st' := []) (pc' := 6) (loc' := [some (.inr (.inr (30, 7, 0))), some (.inl a1), some (.inl a2), some (.inl a3), some (.inl a4), none]) (h' := h) 3 (fun _ _ => rfl) (eMo_firstPlace (by omega) hx2) ?_
  obtain ⟨x3, hx4, HF⟩ := q_bind HF
  refine q_cll (m' := 195) (av := [.inr (.inr (30, 7, 0)), .inl x1, .inl (h.1 31 0 7 3), .inl a2, .inl a3, .inl a4, .inl a1, .inl (0 : Int32)]) (st' := []) (pc' := 26) (loc' := [some (.inr (.inr (30, 7, 0))), some (.inl a1), some (.inl a2), some (.inl a3), some (.inl a4), some (.inl x1)]) (h' := h) 13 (fun _ _ => rfl) (eMo_fills (by omega) hx4) ?_
  obtain ⟨x5, hx6, HF⟩ := q_bind HF
  refine q_cll (m' := 218) (av := [.inr (.inr (30, 7, 0)), .inl a2, .inl x1]) (st' := []) (pc' := 33) (loc' := [some (.inr (.inr (30, 7, 0))), some (.inl a1), some (.inl a2), some (.inl a3), some (.inl a4), some (.inl x1)]) (h' := x3) 4 (fun _ _ => rfl) (eMo_enters (by omega) hx6) ?_
  have hz := Option.some.inj HF
  subst hz
  exact q_rtn 15 (fun _ _ => rfl)
def Mo_deleteNow (a1 : Int32) (a2 : Int32) (h : q_H) : Option (Int32 × q_H) :=
  (Mo_touched a1 a2 h).bind fun x1 => if 0 ≤ x1.1 then ((Mo_endsAt x1.1 a1 (-1 : Int32) (-1 : Int32) x1.2).bind fun x3 => (Mo_versionsOf a2 x3).bind fun x5 => some ((x5, x3))) else (some (((-1 : Int32), x1.2)))
set_option maxRecDepth 100000 in
set_option maxHeartbeats 4000000 in
theorem eMo_deleteNow {d : Nat} (hd : 6 ≤ d) {a1 : Int32} {a2 : Int32} {h : q_H} {r : (Int32 × q_H)} (HF : Mo_deleteNow a1 a2 h = some r) : q_T d 235 [.inr (.inr (30, 7, 0)), .inl a1, .inl a2] h (some (.inl r.1), r.2) := by
  obtain ⟨d, rfl⟩ : ∃ d', d = d' + 1 := ⟨d - 1, by omega⟩
  refine q_ent q_K235 rfl rfl rfl ?_
  unfold Mo_deleteNow at HF
  obtain ⟨x1, hx2, HF⟩ := q_bind HF
  refine q_cll (m' := 232) (av := [.inr (.inr (30, 7, 0)), .inl a1, .inl a2]) (st' := []) (pc' := 6) (loc' := [some (.inr (.inr (30, 7, 0))), some (.inl a1), some (.inl a2), none]) (h' := h) 4 (fun _ _ => rfl) (eMo_touched (by omega) hx2) ?_
  refine q_br (P := 0 ≤ x1.1) (pcT := 13) (pcF := 11) (loc' := [some (.inr (.inr (30, 7, 0))), some (.inl a1), some (.inl a2), some (.inl x1.1)]) (stk' := []) (h' := x1.2) 3 (fun _ _ => rfl) (fun c7 => ?_) (fun c7 => ?_)
  · rw [if_pos c7] at HF
    obtain ⟨x3, hx4, HF⟩ := q_bind HF
    refine q_cll (m' := 227) (av := [.inr (.inr (30, 7, 0)), .inl x1.1, .inl a1, .inl (-1 : Int32), .inl (-1 : Int32)]) (st' := []) (pc' := 21) (loc' := [some (.inr (.inr (30, 7, 0))), some (.inl a1), some (.inl a2), some (.inl x1.1)]) (h' := x1.2) 6 (fun _ _ => rfl) (eMo_endsAt (by omega) hx4) ?_
    obtain ⟨x5, hx6, HF⟩ := q_bind HF
    refine q_cll (m' := 234) (av := [.inr (.inr (30, 7, 0)), .inl a2]) (st' := []) (pc' := 26) (loc' := [some (.inr (.inr (30, 7, 0))), some (.inl a1), some (.inl a2), some (.inl x1.1)]) (h' := x3) 3 (fun _ _ => rfl) (eMo_versionsOf (by omega) hx6) ?_
    have hz := Option.some.inj HF
    subst hz
    exact q_rtn 1 (fun _ _ => rfl)
  · rw [if_neg c7] at HF
    have hz := Option.some.inj HF
    subst hz
    exact q_rtn 2 (fun _ _ => rfl)
def Mo_looks (a1 : Int32) (a2 : Int32) (h : q_H) : Option (Int32 × q_H) :=
  (Mo_horizon h).bind fun x1 => (q_lp (fun s3 : Int32 × q_H => (if (s3.2.1 31 0 7 5) ≤ s3.1 then (some (.inr (((s3.2.1 31 0 7 7), s3.2)))) else ((Mo_entryOf s3.1 (0 : Int32) s3.2).bind fun x11 => Option.bind (α := q_H) (if ¬ x11 = a2 then (some (s3.2)) else ((Mo_entryOf s3.1 (3 : Int32) s3.2).bind fun x17 => Option.bind (α := (Unit) ⊕ (q_H)) (if ¬ x17 = 0 then (some (.inr (s3.2))) else (some (.inl ()))) (fun z19 => match z19 with | .inl p24 => (Mo_looksAt a1 a2 s3.1 x1 s3.2).bind fun x25 => some (x25) | .inr z19 => some z19))) (fun p29 => some (.inl ((s3.1 + (1 : Int32)), p29)))) : Option ((Int32 × q_H) ⊕ (Int32 × q_H)))) q_fu (((0 : Int32), (q_si h 31 0 7 7 (0 : Int32))) : Int32 × q_H)).bind fun z10 => some z10
set_option maxRecDepth 100000 in
set_option maxHeartbeats 4000000 in
theorem eMo_looks {d : Nat} (hd : 6 ≤ d) {a1 : Int32} {a2 : Int32} {h : q_H} {r : (Int32 × q_H)} (HF : Mo_looks a1 a2 h = some r) : q_T d 240 [.inr (.inr (30, 7, 0)), .inl a1, .inl a2] h (some (.inl r.1), r.2) := by
  obtain ⟨d, rfl⟩ : ∃ d', d = d' + 1 := ⟨d - 1, by omega⟩
  refine q_ent q_K240 rfl rfl rfl ?_
  unfold Mo_looks at HF
  obtain ⟨x1, hx2, HF⟩ := q_bind HF
  refine q_cll (m' := 205) (av := [.inr (.inr (30, 7, 0))]) (st' := []) (pc' := 4) (loc' := [some (.inr (.inr (30, 7, 0))), some (.inl a1), some (.inl a2), none, none]) (h' := h) 2 (fun _ _ => rfl) (eMo_horizon (by omega) hx2) ?_
  refine q_blk (pc' := 16) (loc' := [some (.inr (.inr (30, 7, 0))), some (.inl a1), some (.inl a2), some (.inl x1), some (.inl (0 : Int32))]) (stk' := []) (h' := (q_si h 31 0 7 7 (0 : Int32))) 8 (fun _ _ => rfl) ?_
  obtain ⟨r8, hl9, HK6⟩ := q_bind HF
  refine q_lpE (E := fun s3 => q_E d q_K240 16 [some (.inr (.inr (30, 7, 0))), some (.inl a1), some (.inl a2), some (.inl x1), some (.inl s3.1)] [] s3.2 (some (.inl r.1), r.2)) r8 (fun s3 z10 HF H14 H25 => ?_) _ _ hl9
  refine q_br (P := (s3.2.1 31 0 7 5) ≤ s3.1) (pcT := 63) (pcF := 27) (loc' := [some (.inr (.inr (30, 7, 0))), some (.inl a1), some (.inl a2), some (.inl x1), some (.inl s3.1)]) (stk' := []) (h' := s3.2) 6 (fun _ _ => rfl) (fun c31 => ?_) (fun c31 => ?_)
  · rw [if_pos c31] at HF
    have hz := Option.some.inj HF
    subst hz
    replace HF := HK6
    rw [← H25 _ rfl] at HF
    have hz := Option.some.inj HF
    subst hz
    exact q_rtn 5 (fun _ _ => rfl)
  · rw [if_neg c31] at HF
    obtain ⟨x11, hx12, HF⟩ := q_bind HF
    refine q_cll (m' := 216) (av := [.inr (.inr (30, 7, 0)), .inl s3.1, .inl (0 : Int32)]) (st' := []) (pc' := 34) (loc' := [some (.inr (.inr (30, 7, 0))), some (.inl a1), some (.inl a2), some (.inl x1), some (.inl s3.1)]) (h' := s3.2) 4 (fun _ _ => rfl) (eMo_entryOf (by omega) hx12) ?_
    obtain ⟨z13, HA14, HK15⟩ := q_bind HF
    have hP16 : ∀ p29 : q_H, (some (.inl ((s3.1 + (1 : Int32)), p29)) : Option ((Int32 × q_H) ⊕ (Int32 × q_H))) = some z10 → q_E d q_K240 57 [some (.inr (.inr (30, 7, 0))), some (.inl a1), some (.inl a2), some (.inl x1), some (.inl s3.1)] [] p29 (some (.inl r.1), r.2) := by
      intro p29 HF
      refine q_blk (pc' := 16) (loc' := [some (.inr (.inr (30, 7, 0))), some (.inl a1), some (.inl a2), some (.inl x1), some (.inl (s3.1 + (1 : Int32)))]) (stk' := []) (h' := p29) 2 (fun _ _ => rfl) ?_
      have hz := Option.some.inj HF
      subst hz
      exact H14 ((s3.1 + (1 : Int32)), p29) rfl
    replace HF := HA14
    refine q_br (P := ¬ x11 = a2) (pcT := 57) (pcF := 38) (loc' := [some (.inr (.inr (30, 7, 0))), some (.inl a1), some (.inl a2), some (.inl x1), some (.inl s3.1)]) (stk' := []) (h' := s3.2) 2 (fun _ _ => rfl) (fun c28 => ?_) (fun c28 => ?_)
    · rw [if_pos c28] at HF
      have hz := Option.some.inj HF
      subst hz
      exact hP16 (s3.2) HK15
    · rw [if_neg c28] at HF
      obtain ⟨x17, hx18, HF⟩ := q_bind HF
      refine q_cll (m' := 216) (av := [.inr (.inr (30, 7, 0)), .inl s3.1, .inl (3 : Int32)]) (st' := []) (pc' := 45) (loc' := [some (.inr (.inr (30, 7, 0))), some (.inl a1), some (.inl a2), some (.inl x1), some (.inl s3.1)]) (h' := s3.2) 4 (fun _ _ => rfl) (eMo_entryOf (by omega) hx18) ?_
      obtain ⟨z19, HA20, HK21⟩ := q_bind HF
      have hP22 : ∀ p24 : Unit, ((Mo_looksAt a1 a2 s3.1 x1 s3.2).bind fun x25 => some (x25) : Option (q_H)) = some z13 → q_E d q_K240 48 [some (.inr (.inr (30, 7, 0))), some (.inl a1), some (.inl a2), some (.inl x1), some (.inl s3.1)] [] s3.2 (some (.inl r.1), r.2) := by
        intro p24 HF
        obtain ⟨x25, hx26, HF⟩ := q_bind HF
        refine q_cll (m' := 241) (av := [.inr (.inr (30, 7, 0)), .inl a1, .inl a2, .inl s3.1, .inl x1]) (st' := []) (pc' := 57) (loc' := [some (.inr (.inr (30, 7, 0))), some (.inl a1), some (.inl a2), some (.inl x1), some (.inl s3.1)]) (h' := s3.2) 6 (fun _ _ => rfl) (eMo_looksAt (by omega) hx26) ?_
        have hz := Option.some.inj HF
        subst hz
        exact hP16 (x25) HK15
      replace HF := HA20
      refine q_br (P := ¬ x17 = 0) (pcT := 57) (pcF := 48) (loc' := [some (.inr (.inr (30, 7, 0))), some (.inl a1), some (.inl a2), some (.inl x1), some (.inl s3.1)]) (stk' := []) (h' := s3.2) 1 (fun _ _ => rfl) (fun c23 => ?_) (fun c23 => ?_)
      · rw [if_pos c23] at HF
        have hz := Option.some.inj HF
        subst hz
        replace HF := HK21
        have hz := Option.some.inj HF
        subst hz
        exact hP16 (s3.2) HK15
      · rw [if_neg c23] at HF
        have hz := Option.some.inj HF
        subst hz
        exact hP22 () HK21
def Mo_repackNow  (h : q_H) : Option (Int32 × q_H) :=
  (Mo_isAnyOpen h).bind fun x1 => if x1 = 0 then ((Mo_copy 31 7 32 7 h).bind fun x3 => (Mo_staying x3).bind fun x5 => (q_lp (fun s7 : Int32 × q_H => (Option.bind (α := (Unit) ⊕ ((Int32 × q_H) ⊕ (q_H))) (if (6 : Int32) ≤ s7.1 then (some (.inr (.inr (s7.2)))) else (some (.inl ()))) (fun z15 => match z15 with | .inl p20 => bif q_in ((17 : Int32) + s7.1) 1644 then (bif q_in ((23 : Int32) + s7.1) 1644 then (some (.inl ((s7.1 + (1 : Int32)), (q_si (q_si s7.2 31 0 7 ((17 : Int32) + s7.1).toNatClampNeg (0 : Int32)) 31 0 7 ((23 : Int32) + s7.1).toNatClampNeg (0 : Int32))))) else none) else none | .inr z15 => some z15) : Option ((Int32 × q_H) ⊕ (q_H)))) q_fu (((0 : Int32), x5.2) : Int32 × q_H)).bind fun p24 => (q_lp (fun s25 : Int32 × q_H => (Option.bind (α := (Unit) ⊕ ((Int32 × q_H) ⊕ ((q_H) ⊕ (Int32 × q_H)))) (if x5.1 ≤ s25.1 then (some (.inr (.inr (.inl s25.2)))) else (some (.inl ()))) (fun z33 => match z33 with | .inl p38 => bif q_in s25.1 60 then ((Mo_oldOf (s25.2.1 37 0 7 s25.1.toNatClampNeg) (5 : Int32) s25.2).bind fun x39 => (Mo_firstPlace x39 s25.2).bind fun x41 => if 0 ≤ x41 then ((Mo_oldOf (s25.2.1 37 0 7 s25.1.toNatClampNeg) (2 : Int32) s25.2).bind fun x43 => (Mo_oldOf (s25.2.1 37 0 7 s25.1.toNatClampNeg) (3 : Int32) s25.2).bind fun x45 => (Mo_oldOf (s25.2.1 37 0 7 s25.1.toNatClampNeg) (4 : Int32) s25.2).bind fun x47 => (Mo_oldOf (s25.2.1 37 0 7 s25.1.toNatClampNeg) (5 : Int32) s25.2).bind fun x49 => (Mo_oldOf (s25.2.1 37 0 7 s25.1.toNatClampNeg) (6 : Int32) s25.2).bind fun x51 => (Mo_fills x41 x43 x45 x47 x49 x51 (0 : Int32) s25.2).bind fun x53 => (Mo_oldOf (s25.2.1 37 0 7 s25.1.toNatClampNeg) (11 : Int32) x53).bind fun x55 => (Mo_sets x41 (11 : Int32) x55 x53).bind fun x57 => (Mo_oldOf (s25.2.1 37 0 7 s25.1.toNatClampNeg) (12 : Int32) x57).bind fun x59 => (Mo_sets x41 (12 : Int32) x59 x57).bind fun x61 => (Mo_oldOf (s25.2.1 37 0 7 s25.1.toNatClampNeg) (3 : Int32) x61).bind fun x63 => (Mo_enters x63 x41 x61).bind fun x65 => some (.inl ((s25.1 + (1 : Int32)), x65))) else ((Mo_copy 32 7 31 7 s25.2).bind fun x67 => (Mo_refuse (5 : Int32) x67).bind fun x69 => some (.inr (.inr ((x69.1, x69.2)))))) else none | .inr z33 => some z33) : Option ((Int32 × q_H) ⊕ ((q_H) ⊕ (Int32 × q_H))))) q_fu (((0 : Int32), (q_si p24 31 0 7 5 (0 : Int32))) : Int32 × q_H)).bind fun z32 => match z32 with | .inl p74 => (q_lp (fun s75 : Int32 × Int32 => (if (6 : Int32) ≤ s75.2 then (some (.inr ((s75.1, p74)))) else (bif q_in ((17 : Int32) + s75.2) 1644 then (Option.bind (α := Int32) (if (p74.1 31 0 7 ((17 : Int32) + s75.2).toNatClampNeg) ≤ 0 then (some ((0 : Int32))) else (some ((1 : Int32)))) (fun p88 => some (.inl ((s75.1 + p88), (s75.2 + (1 : Int32)))))) else none) : Option ((Int32 × Int32) ⊕ (Int32 × q_H)))) q_fu (((0 : Int32), (0 : Int32)) : Int32 × Int32)).bind fun z82 => some z82 | .inr z32 => some z32) else ((Mo_refuse (10 : Int32) h).bind fun x92 => some ((x92.1, x92.2)))
set_option maxRecDepth 100000 in
set_option maxHeartbeats 4000000 in
theorem eMo_repackNow {d : Nat} (hd : 6 ≤ d)  {h : q_H} {r : (Int32 × q_H)} (HF : Mo_repackNow  h = some r) : q_T d 248 [.inr (.inr (30, 7, 0))] h (some (.inl r.1), r.2) := by
  obtain ⟨d, rfl⟩ : ∃ d', d = d' + 1 := ⟨d - 1, by omega⟩
  refine q_ent q_K248 rfl rfl rfl ?_
  unfold Mo_repackNow at HF
  obtain ⟨x1, hx2, HF⟩ := q_bind HF
  refine q_cll (m' := 243) (av := [.inr (.inr (30, 7, 0))]) (st' := []) (pc' := 4) (loc' := [some (.inr (.inr (30, 7, 0))), none, none, none, none]) (h' := h) 2 (fun _ _ => rfl) (eMo_isAnyOpen (by omega) hx2) ?_
  refine q_br (P := x1 = 0) (pcT := 14) (pcF := 7) (loc' := [some (.inr (.inr (30, 7, 0))), none, none, none, none]) (stk' := []) (h' := h) 1 (fun _ _ => rfl) (fun c94 => ?_) (fun c94 => ?_)
  · rw [if_pos c94] at HF
    obtain ⟨x3, hx4, HF⟩ := q_bind HF
    refine q_cll (m' := 186) (av := [.inr (.inr (31, 7, 0)), .inr (.inr (32, 7, 0))]) (st' := []) (pc' := 25) (loc' := [some (.inr (.inr (30, 7, 0))), none, none, none, none]) (h' := h) 5 (fun _ _ => rfl) (eMo_copy (by omega) hx4) ?_
    obtain ⟨x5, hx6, HF⟩ := q_bind HF
    refine q_cll (m' := 247) (av := [.inr (.inr (30, 7, 0))]) (st' := []) (pc' := 29) (loc' := [some (.inr (.inr (30, 7, 0))), none, none, none, none]) (h' := x3) 2 (fun _ _ => rfl) (eMo_staying (by omega) hx6) ?_
    refine q_blk (pc' := 32) (loc' := [some (.inr (.inr (30, 7, 0))), some (.inl x5.1), some (.inl (0 : Int32)), none, none]) (stk' := []) (h' := x5.2) 3 (fun _ _ => rfl) ?_
    obtain ⟨r12, hl13, HK10⟩ := q_bind HF
    have hP11 : ∀ p24 : q_H, ((q_lp (fun s25 : Int32 × q_H => (Option.bind (α := (Unit) ⊕ ((Int32 × q_H) ⊕ ((q_H) ⊕ (Int32 × q_H)))) (if x5.1 ≤ s25.1 then (some (.inr (.inr (.inl s25.2)))) else (some (.inl ()))) (fun z33 => match z33 with | .inl p38 => bif q_in s25.1 60 then ((Mo_oldOf (s25.2.1 37 0 7 s25.1.toNatClampNeg) (5 : Int32) s25.2).bind fun x39 => (Mo_firstPlace x39 s25.2).bind fun x41 => if 0 ≤ x41 then ((Mo_oldOf (s25.2.1 37 0 7 s25.1.toNatClampNeg) (2 : Int32) s25.2).bind fun x43 => (Mo_oldOf (s25.2.1 37 0 7 s25.1.toNatClampNeg) (3 : Int32) s25.2).bind fun x45 => (Mo_oldOf (s25.2.1 37 0 7 s25.1.toNatClampNeg) (4 : Int32) s25.2).bind fun x47 => (Mo_oldOf (s25.2.1 37 0 7 s25.1.toNatClampNeg) (5 : Int32) s25.2).bind fun x49 => (Mo_oldOf (s25.2.1 37 0 7 s25.1.toNatClampNeg) (6 : Int32) s25.2).bind fun x51 => (Mo_fills x41 x43 x45 x47 x49 x51 (0 : Int32) s25.2).bind fun x53 => (Mo_oldOf (s25.2.1 37 0 7 s25.1.toNatClampNeg) (11 : Int32) x53).bind fun x55 => (Mo_sets x41 (11 : Int32) x55 x53).bind fun x57 => (Mo_oldOf (s25.2.1 37 0 7 s25.1.toNatClampNeg) (12 : Int32) x57).bind fun x59 => (Mo_sets x41 (12 : Int32) x59 x57).bind fun x61 => (Mo_oldOf (s25.2.1 37 0 7 s25.1.toNatClampNeg) (3 : Int32) x61).bind fun x63 => (Mo_enters x63 x41 x61).bind fun x65 => some (.inl ((s25.1 + (1 : Int32)), x65))) else ((Mo_copy 32 7 31 7 s25.2).bind fun x67 => (Mo_refuse (5 : Int32) x67).bind fun x69 => some (.inr (.inr ((x69.1, x69.2)))))) else none | .inr z33 => some z33) : Option ((Int32 × q_H) ⊕ ((q_H) ⊕ (Int32 × q_H))))) q_fu (((0 : Int32), (q_si p24 31 0 7 5 (0 : Int32))) : Int32 × q_H)).bind fun z32 => match z32 with | .inl p74 => (q_lp (fun s75 : Int32 × Int32 => (if (6 : Int32) ≤ s75.2 then (some (.inr ((s75.1, p74)))) else (bif q_in ((17 : Int32) + s75.2) 1644 then (Option.bind (α := Int32) (if (p74.1 31 0 7 ((17 : Int32) + s75.2).toNatClampNeg) ≤ 0 then (some ((0 : Int32))) else (some ((1 : Int32)))) (fun p88 => some (.inl ((s75.1 + p88), (s75.2 + (1 : Int32)))))) else none) : Option ((Int32 × Int32) ⊕ (Int32 × q_H)))) q_fu (((0 : Int32), (0 : Int32)) : Int32 × Int32)).bind fun z82 => some z82 | .inr z32 => some z32 : Option (Int32 × q_H)) = some r → q_E d q_K248 64 [some (.inr (.inr (30, 7, 0))), some (.inl x5.1), none, none, none] [] p24 (some (.inl r.1), r.2) := by
      intro p24 HF
      refine q_blk (pc' := 73) (loc' := [some (.inr (.inr (30, 7, 0))), some (.inl x5.1), some (.inl (0 : Int32)), none, none]) (stk' := []) (h' := (q_si p24 31 0 7 5 (0 : Int32))) 7 (fun _ _ => rfl) ?_
      obtain ⟨r30, hl31, HK28⟩ := q_bind HF
      have hP29 : ∀ p74 : q_H, ((q_lp (fun s75 : Int32 × Int32 => (if (6 : Int32) ≤ s75.2 then (some (.inr ((s75.1, p74)))) else (bif q_in ((17 : Int32) + s75.2) 1644 then (Option.bind (α := Int32) (if (p74.1 31 0 7 ((17 : Int32) + s75.2).toNatClampNeg) ≤ 0 then (some ((0 : Int32))) else (some ((1 : Int32)))) (fun p88 => some (.inl ((s75.1 + p88), (s75.2 + (1 : Int32)))))) else none) : Option ((Int32 × Int32) ⊕ (Int32 × q_H)))) q_fu (((0 : Int32), (0 : Int32)) : Int32 × Int32)).bind fun z82 => some z82 : Option (Int32 × q_H)) = some r → q_E d q_K248 205 [some (.inr (.inr (30, 7, 0))), some (.inl x5.1), none, none, none] [] p74 (some (.inl r.1), r.2) := by
        intro p74 HF
        refine q_blk (pc' := 209) (loc' := [some (.inr (.inr (30, 7, 0))), some (.inl x5.1), some (.inl (0 : Int32)), some (.inl (0 : Int32)), none]) (stk' := []) (h' := p74) 4 (fun _ _ => rfl) ?_
        obtain ⟨r80, hl81, HK78⟩ := q_bind HF
        refine q_lpE (E := fun s75 => q_E d q_K248 209 [some (.inr (.inr (30, 7, 0))), some (.inl x5.1), some (.inl s75.1), some (.inl s75.2), none] [] p74 (some (.inl r.1), r.2)) r80 (fun s75 z82 HF H176 H277 => ?_) _ _ hl81
        refine q_br (P := (6 : Int32) ≤ s75.2) (pcT := 241) (pcF := 215) (loc' := [some (.inr (.inr (30, 7, 0))), some (.inl x5.1), some (.inl s75.1), some (.inl s75.2), none]) (stk' := []) (h' := p74) 3 (fun _ _ => rfl) (fun c91 => ?_) (fun c91 => ?_)
        · rw [if_pos c91] at HF
          have hz := Option.some.inj HF
          subst hz
          replace HF := HK78
          rw [← H277 _ rfl] at HF
          have hz := Option.some.inj HF
          subst hz
          exact q_rtn 2 (fun _ _ => rfl)
        · rw [if_neg c91] at HF
          obtain ⟨g90, HF⟩ := q_gF HF
          refine q_gd (pc' := 225) (loc' := [some (.inr (.inr (30, 7, 0))), some (.inl x5.1), some (.inl s75.1), some (.inl s75.2), none]) (stk' := [.inl (p74.1 31 0 7 ((17 : Int32) + s75.2).toNatClampNeg), .inl s75.1]) (h' := p74) 7 (fun _ _ => rfl) g90 ?_
          obtain ⟨z83, HA84, HK85⟩ := q_bind HF
          have hP86 : ∀ p88 : Int32, (some (.inl ((s75.1 + p88), (s75.2 + (1 : Int32)))) : Option ((Int32 × Int32) ⊕ (Int32 × q_H))) = some z82 → q_E d q_K248 233 [some (.inr (.inr (30, 7, 0))), some (.inl x5.1), some (.inl s75.1), some (.inl s75.2), none] [.inl p88, .inl s75.1] p74 (some (.inl r.1), r.2) := by
            intro p88 HF
            refine q_blk (pc' := 209) (loc' := [some (.inr (.inr (30, 7, 0))), some (.inl x5.1), some (.inl (s75.1 + p88)), some (.inl (s75.2 + (1 : Int32))), none]) (stk' := []) (h' := p74) 4 (fun _ _ => rfl) ?_
            have hz := Option.some.inj HF
            subst hz
            exact H176 ((s75.1 + p88), (s75.2 + (1 : Int32))) rfl
          replace HF := HA84
          refine q_br (P := (p74.1 31 0 7 ((17 : Int32) + s75.2).toNatClampNeg) ≤ 0) (pcT := 232) (pcF := 228) (loc' := [some (.inr (.inr (30, 7, 0))), some (.inl x5.1), some (.inl s75.1), some (.inl s75.2), none]) (stk' := [.inl s75.1]) (h' := p74) 1 (fun _ _ => rfl) (fun c87 => ?_) (fun c87 => ?_)
          · rw [if_pos c87] at HF
            refine q_blk (pc' := 233) (loc' := [some (.inr (.inr (30, 7, 0))), some (.inl x5.1), some (.inl s75.1), some (.inl s75.2), none]) (stk' := [.inl (0 : Int32), .inl s75.1]) (h' := p74) 1 (fun _ _ => rfl) ?_
            have hz := Option.some.inj HF
            subst hz
            exact hP86 (0 : Int32) HK85
          · rw [if_neg c87] at HF
            refine q_blk (pc' := 233) (loc' := [some (.inr (.inr (30, 7, 0))), some (.inl x5.1), some (.inl s75.1), some (.inl s75.2), none]) (stk' := [.inl (1 : Int32), .inl s75.1]) (h' := p74) 2 (fun _ _ => rfl) ?_
            have hz := Option.some.inj HF
            subst hz
            exact hP86 (1 : Int32) HK85
      refine q_lpE (E := fun s25 => q_E d q_K248 73 [some (.inr (.inr (30, 7, 0))), some (.inl x5.1), some (.inl s25.1), none, none] [] s25.2 (some (.inl r.1), r.2)) r30 (fun s25 z32 HF H126 H227 => ?_) _ _ hl31
      obtain ⟨z33, HA34, HK35⟩ := q_bind HF
      have hP36 : ∀ p38 : Unit, (bif q_in s25.1 60 then ((Mo_oldOf (s25.2.1 37 0 7 s25.1.toNatClampNeg) (5 : Int32) s25.2).bind fun x39 => (Mo_firstPlace x39 s25.2).bind fun x41 => if 0 ≤ x41 then ((Mo_oldOf (s25.2.1 37 0 7 s25.1.toNatClampNeg) (2 : Int32) s25.2).bind fun x43 => (Mo_oldOf (s25.2.1 37 0 7 s25.1.toNatClampNeg) (3 : Int32) s25.2).bind fun x45 => (Mo_oldOf (s25.2.1 37 0 7 s25.1.toNatClampNeg) (4 : Int32) s25.2).bind fun x47 => (Mo_oldOf (s25.2.1 37 0 7 s25.1.toNatClampNeg) (5 : Int32) s25.2).bind fun x49 => (Mo_oldOf (s25.2.1 37 0 7 s25.1.toNatClampNeg) (6 : Int32) s25.2).bind fun x51 => (Mo_fills x41 x43 x45 x47 x49 x51 (0 : Int32) s25.2).bind fun x53 => (Mo_oldOf (s25.2.1 37 0 7 s25.1.toNatClampNeg) (11 : Int32) x53).bind fun x55 => (Mo_sets x41 (11 : Int32) x55 x53).bind fun x57 => (Mo_oldOf (s25.2.1 37 0 7 s25.1.toNatClampNeg) (12 : Int32) x57).bind fun x59 => (Mo_sets x41 (12 : Int32) x59 x57).bind fun x61 => (Mo_oldOf (s25.2.1 37 0 7 s25.1.toNatClampNeg) (3 : Int32) x61).bind fun x63 => (Mo_enters x63 x41 x61).bind fun x65 => some (.inl ((s25.1 + (1 : Int32)), x65))) else ((Mo_copy 32 7 31 7 s25.2).bind fun x67 => (Mo_refuse (5 : Int32) x67).bind fun x69 => some (.inr (.inr ((x69.1, x69.2)))))) else none : Option ((Int32 × q_H) ⊕ ((q_H) ⊕ (Int32 × q_H)))) = some z32 → q_E d q_K248 78 [some (.inr (.inr (30, 7, 0))), some (.inl x5.1), some (.inl s25.1), none, none] [] s25.2 (some (.inl r.1), r.2) := by
        intro p38 HF
        obtain ⟨g72, HF⟩ := q_gF HF
        refine q_gd (pc' := 84) (loc' := [some (.inr (.inr (30, 7, 0))), some (.inl x5.1), some (.inl s25.1), none, none]) (stk' := [.inl (s25.2.1 37 0 7 s25.1.toNatClampNeg)]) (h' := s25.2) 4 (fun _ _ => rfl) g72 ?_
        obtain ⟨x39, hx40, HF⟩ := q_bind HF
        refine q_cll (m' := 245) (av := [.inr (.inr (30, 7, 0)), .inl (s25.2.1 37 0 7 s25.1.toNatClampNeg), .inl (5 : Int32)]) (st' := [.inr (.inr (30, 7, 0))]) (pc' := 92) (loc' := [some (.inr (.inr (30, 7, 0))), some (.inl x5.1), some (.inl s25.1), some (.inl (s25.2.1 37 0 7 s25.1.toNatClampNeg)), none]) (h' := s25.2) 6 (fun _ _ => rfl) (eMo_oldOf (by omega) hx40) ?_
        obtain ⟨x41, hx42, HF⟩ := q_bind HF
        refine q_cll (m' := 194) (av := [.inr (.inr (30, 7, 0)), .inl x39]) (st' := []) (pc' := 95) (loc' := [some (.inr (.inr (30, 7, 0))), some (.inl x5.1), some (.inl s25.1), some (.inl (s25.2.1 37 0 7 s25.1.toNatClampNeg)), none]) (h' := s25.2) 1 (fun _ _ => rfl) (eMo_firstPlace (by omega) hx42) ?_
        refine q_br (P := 0 ≤ x41) (pcT := 119) (pcF := 102) (loc' := [some (.inr (.inr (30, 7, 0))), some (.inl x5.1), some (.inl s25.1), some (.inl (s25.2.1 37 0 7 s25.1.toNatClampNeg)), some (.inl x41)]) (stk' := []) (h' := s25.2) 3 (fun _ _ => rfl) (fun c71 => ?_) (fun c71 => ?_)
        · rw [if_pos c71] at HF
          obtain ⟨x43, hx44, HF⟩ := q_bind HF
          refine q_cll (m' := 245) (av := [.inr (.inr (30, 7, 0)), .inl (s25.2.1 37 0 7 s25.1.toNatClampNeg), .inl (2 : Int32)]) (st' := [.inl x41, .inr (.inr (30, 7, 0))]) (pc' := 128) (loc' := [some (.inr (.inr (30, 7, 0))), some (.inl x5.1), some (.inl s25.1), some (.inl (s25.2.1 37 0 7 s25.1.toNatClampNeg)), some (.inl x41)]) (h' := s25.2) 6 (fun _ _ => rfl) (eMo_oldOf (by omega) hx44) ?_
          obtain ⟨x45, hx46, HF⟩ := q_bind HF
          refine q_cll (m' := 245) (av := [.inr (.inr (30, 7, 0)), .inl (s25.2.1 37 0 7 s25.1.toNatClampNeg), .inl (3 : Int32)]) (st' := [.inl x43, .inl x41, .inr (.inr (30, 7, 0))]) (pc' := 134) (loc' := [some (.inr (.inr (30, 7, 0))), some (.inl x5.1), some (.inl s25.1), some (.inl (s25.2.1 37 0 7 s25.1.toNatClampNeg)), some (.inl x41)]) (h' := s25.2) 4 (fun _ _ => rfl) (eMo_oldOf (by omega) hx46) ?_
          obtain ⟨x47, hx48, HF⟩ := q_bind HF
          refine q_cll (m' := 245) (av := [.inr (.inr (30, 7, 0)), .inl (s25.2.1 37 0 7 s25.1.toNatClampNeg), .inl (4 : Int32)]) (st' := [.inl x45, .inl x43, .inl x41, .inr (.inr (30, 7, 0))]) (pc' := 140) (loc' := [some (.inr (.inr (30, 7, 0))), some (.inl x5.1), some (.inl s25.1), some (.inl (s25.2.1 37 0 7 s25.1.toNatClampNeg)), some (.inl x41)]) (h' := s25.2) 4 (fun _ _ => rfl) (eMo_oldOf (by omega) hx48) ?_
          obtain ⟨x49, hx50, HF⟩ := q_bind HF
          refine q_cll (m' := 245) (av := [.inr (.inr (30, 7, 0)), .inl (s25.2.1 37 0 7 s25.1.toNatClampNeg), .inl (5 : Int32)]) (st' := [.inl x47, .inl x45, .inl x43, .inl x41, .inr (.inr (30, 7, 0))]) (pc' := 146) (loc' := [some (.inr (.inr (30, 7, 0))), some (.inl x5.1), some (.inl s25.1), some (.inl (s25.2.1 37 0 7 s25.1.toNatClampNeg)), some (.inl x41)]) (h' := s25.2) 4 (fun _ _ => rfl) (eMo_oldOf (by omega) hx50) ?_
          obtain ⟨x51, hx52, HF⟩ := q_bind HF
          refine q_cll (m' := 245) (av := [.inr (.inr (30, 7, 0)), .inl (s25.2.1 37 0 7 s25.1.toNatClampNeg), .inl (6 : Int32)]) (st' := [.inl x49, .inl x47, .inl x45, .inl x43, .inl x41, .inr (.inr (30, 7, 0))]) (pc' := 153) (loc' := [some (.inr (.inr (30, 7, 0))), some (.inl x5.1), some (.inl s25.1), some (.inl (s25.2.1 37 0 7 s25.1.toNatClampNeg)), some (.inl x41)]) (h' := s25.2) 4 (fun _ _ => rfl) (eMo_oldOf (by omega) hx52) ?_
          obtain ⟨x53, hx54, HF⟩ := q_bind HF
          refine q_cll (m' := 195) (av := [.inr (.inr (30, 7, 0)), .inl x41, .inl x43, .inl x45, .inl x47, .inl x49, .inl x51, .inl (0 : Int32)]) (st' := []) (pc' := 157) (loc' := [some (.inr (.inr (30, 7, 0))), some (.inl x5.1), some (.inl s25.1), some (.inl (s25.2.1 37 0 7 s25.1.toNatClampNeg)), some (.inl x41)]) (h' := s25.2) 2 (fun _ _ => rfl) (eMo_fills (by omega) hx54) ?_
          obtain ⟨x55, hx56, HF⟩ := q_bind HF
          refine q_cll (m' := 245) (av := [.inr (.inr (30, 7, 0)), .inl (s25.2.1 37 0 7 s25.1.toNatClampNeg), .inl (11 : Int32)]) (st' := [.inl (11 : Int32), .inl x41, .inr (.inr (30, 7, 0))]) (pc' := 169) (loc' := [some (.inr (.inr (30, 7, 0))), some (.inl x5.1), some (.inl s25.1), some (.inl (s25.2.1 37 0 7 s25.1.toNatClampNeg)), some (.inl x41)]) (h' := x53) 7 (fun _ _ => rfl) (eMo_oldOf (by omega) hx56) ?_
          obtain ⟨x57, hx58, HF⟩ := q_bind HF
          refine q_cll (m' := 188) (av := [.inr (.inr (30, 7, 0)), .inl x41, .inl (11 : Int32), .inl x55]) (st' := []) (pc' := 172) (loc' := [some (.inr (.inr (30, 7, 0))), some (.inl x5.1), some (.inl s25.1), some (.inl (s25.2.1 37 0 7 s25.1.toNatClampNeg)), some (.inl x41)]) (h' := x53) 1 (fun _ _ => rfl) (eMo_sets (by omega) hx58) ?_
          obtain ⟨x59, hx60, HF⟩ := q_bind HF
          refine q_cll (m' := 245) (av := [.inr (.inr (30, 7, 0)), .inl (s25.2.1 37 0 7 s25.1.toNatClampNeg), .inl (12 : Int32)]) (st' := [.inl (12 : Int32), .inl x41, .inr (.inr (30, 7, 0))]) (pc' := 184) (loc' := [some (.inr (.inr (30, 7, 0))), some (.inl x5.1), some (.inl s25.1), some (.inl (s25.2.1 37 0 7 s25.1.toNatClampNeg)), some (.inl x41)]) (h' := x57) 7 (fun _ _ => rfl) (eMo_oldOf (by omega) hx60) ?_
          obtain ⟨x61, hx62, HF⟩ := q_bind HF
          refine q_cll (m' := 188) (av := [.inr (.inr (30, 7, 0)), .inl x41, .inl (12 : Int32), .inl x59]) (st' := []) (pc' := 187) (loc' := [some (.inr (.inr (30, 7, 0))), some (.inl x5.1), some (.inl s25.1), some (.inl (s25.2.1 37 0 7 s25.1.toNatClampNeg)), some (.inl x41)]) (h' := x57) 1 (fun _ _ => rfl) (eMo_sets (by omega) hx62) ?_
          obtain ⟨x63, hx64, HF⟩ := q_bind HF
          refine q_cll (m' := 245) (av := [.inr (.inr (30, 7, 0)), .inl (s25.2.1 37 0 7 s25.1.toNatClampNeg), .inl (3 : Int32)]) (st' := [.inr (.inr (30, 7, 0))]) (pc' := 194) (loc' := [some (.inr (.inr (30, 7, 0))), some (.inl x5.1), some (.inl s25.1), some (.inl (s25.2.1 37 0 7 s25.1.toNatClampNeg)), some (.inl x41)]) (h' := x61) 5 (fun _ _ => rfl) (eMo_oldOf (by omega) hx64) ?_
          obtain ⟨x65, hx66, HF⟩ := q_bind HF
          refine q_cll (m' := 218) (av := [.inr (.inr (30, 7, 0)), .inl x63, .inl x41]) (st' := []) (pc' := 199) (loc' := [some (.inr (.inr (30, 7, 0))), some (.inl x5.1), some (.inl s25.1), some (.inl (s25.2.1 37 0 7 s25.1.toNatClampNeg)), some (.inl x41)]) (h' := x61) 2 (fun _ _ => rfl) (eMo_enters (by omega) hx66) ?_
          refine q_blk (pc' := 73) (loc' := [some (.inr (.inr (30, 7, 0))), some (.inl x5.1), some (.inl (s25.1 + (1 : Int32))), some (.inl (s25.2.1 37 0 7 s25.1.toNatClampNeg)), some (.inl x41)]) (stk' := []) (h' := x65) 2 (fun _ _ => rfl) ?_
          have hz := Option.some.inj HF
          subst hz
          exact q_wk (loc := [some (.inr (.inr (30, 7, 0))), some (.inl x5.1), some (.inl (s25.1 + (1 : Int32))), none, none]) ⟨Or.inl rfl, ⟨Or.inl rfl, ⟨Or.inl rfl, ⟨Or.inr ⟨rfl, fun _ h => by cases h⟩, ⟨Or.inr ⟨rfl, fun _ h => by cases h⟩, trivial⟩⟩⟩⟩⟩ (H126 ((s25.1 + (1 : Int32)), x65) rfl)
        · rw [if_neg c71] at HF
          obtain ⟨x67, hx68, HF⟩ := q_bind HF
          refine q_cll (m' := 186) (av := [.inr (.inr (32, 7, 0)), .inr (.inr (31, 7, 0))]) (st' := []) (pc' := 113) (loc' := [some (.inr (.inr (30, 7, 0))), some (.inl x5.1), some (.inl s25.1), some (.inl (s25.2.1 37 0 7 s25.1.toNatClampNeg)), some (.inl x41)]) (h' := s25.2) 5 (fun _ _ => rfl) (eMo_copy (by omega) hx68) ?_
          obtain ⟨x69, hx70, HF⟩ := q_bind HF
          refine q_cll (m' := 182) (av := [.inr (.inr (30, 7, 0)), .inl (5 : Int32)]) (st' := []) (pc' := 118) (loc' := [some (.inr (.inr (30, 7, 0))), some (.inl x5.1), some (.inl s25.1), some (.inl (s25.2.1 37 0 7 s25.1.toNatClampNeg)), some (.inl x41)]) (h' := x67) 3 (fun _ _ => rfl) (eMo_refuse (by omega) hx70) ?_
          have hz := Option.some.inj HF
          subst hz
          replace HF := HK28
          rw [← H227 _ rfl] at HF
          have hz := Option.some.inj HF
          subst hz
          exact q_rtn 1 (fun _ _ => rfl)
      replace HF := HA34
      refine q_br (P := x5.1 ≤ s25.1) (pcT := 205) (pcF := 78) (loc' := [some (.inr (.inr (30, 7, 0))), some (.inl x5.1), some (.inl s25.1), none, none]) (stk' := []) (h' := s25.2) 3 (fun _ _ => rfl) (fun c37 => ?_) (fun c37 => ?_)
      · rw [if_pos c37] at HF
        have hz := Option.some.inj HF
        subst hz
        replace HF := HK35
        have hz := Option.some.inj HF
        subst hz
        rw [← H227 _ rfl] at HK28
        exact q_wk (loc := [some (.inr (.inr (30, 7, 0))), some (.inl x5.1), none, none, none]) ⟨Or.inl rfl, ⟨Or.inl rfl, ⟨Or.inr ⟨rfl, fun _ h => by cases h⟩, ⟨Or.inl rfl, ⟨Or.inl rfl, trivial⟩⟩⟩⟩⟩ (hP29 (s25.2) HK28)
      · rw [if_neg c37] at HF
        have hz := Option.some.inj HF
        subst hz
        exact hP36 () HK35
    refine q_lpE (E := fun s7 => q_E d q_K248 32 [some (.inr (.inr (30, 7, 0))), some (.inl x5.1), some (.inl s7.1), none, none] [] s7.2 (some (.inl r.1), r.2)) r12 (fun s7 z14 HF H18 H29 => ?_) _ _ hl13
    obtain ⟨z15, HA16, HK17⟩ := q_bind HF
    have hP18 : ∀ p20 : Unit, (bif q_in ((17 : Int32) + s7.1) 1644 then (bif q_in ((23 : Int32) + s7.1) 1644 then (some (.inl ((s7.1 + (1 : Int32)), (q_si (q_si s7.2 31 0 7 ((17 : Int32) + s7.1).toNatClampNeg (0 : Int32)) 31 0 7 ((23 : Int32) + s7.1).toNatClampNeg (0 : Int32))))) else none) else none : Option ((Int32 × q_H) ⊕ (q_H))) = some z14 → q_E d q_K248 38 [some (.inr (.inr (30, 7, 0))), some (.inl x5.1), some (.inl s7.1), none, none] [] s7.2 (some (.inl r.1), r.2) := by
      intro p20 HF
      obtain ⟨g22, HF⟩ := q_gF HF
      refine q_gd (pc' := 48) (loc' := [some (.inr (.inr (30, 7, 0))), some (.inl x5.1), some (.inl s7.1), none, none]) (stk' := []) (h' := (q_si s7.2 31 0 7 ((17 : Int32) + s7.1).toNatClampNeg (0 : Int32))) 7 (fun _ _ => rfl) g22 ?_
      obtain ⟨g21, HF⟩ := q_gF HF
      refine q_gd (pc' := 58) (loc' := [some (.inr (.inr (30, 7, 0))), some (.inl x5.1), some (.inl s7.1), none, none]) (stk' := []) (h' := (q_si (q_si s7.2 31 0 7 ((17 : Int32) + s7.1).toNatClampNeg (0 : Int32)) 31 0 7 ((23 : Int32) + s7.1).toNatClampNeg (0 : Int32))) 7 (fun _ _ => rfl) g21 ?_
      refine q_blk (pc' := 32) (loc' := [some (.inr (.inr (30, 7, 0))), some (.inl x5.1), some (.inl (s7.1 + (1 : Int32))), none, none]) (stk' := []) (h' := (q_si (q_si s7.2 31 0 7 ((17 : Int32) + s7.1).toNatClampNeg (0 : Int32)) 31 0 7 ((23 : Int32) + s7.1).toNatClampNeg (0 : Int32))) 2 (fun _ _ => rfl) ?_
      have hz := Option.some.inj HF
      subst hz
      exact H18 ((s7.1 + (1 : Int32)), (q_si (q_si s7.2 31 0 7 ((17 : Int32) + s7.1).toNatClampNeg (0 : Int32)) 31 0 7 ((23 : Int32) + s7.1).toNatClampNeg (0 : Int32))) rfl
    replace HF := HA16
    refine q_br (P := (6 : Int32) ≤ s7.1) (pcT := 64) (pcF := 38) (loc' := [some (.inr (.inr (30, 7, 0))), some (.inl x5.1), some (.inl s7.1), none, none]) (stk' := []) (h' := s7.2) 3 (fun _ _ => rfl) (fun c19 => ?_) (fun c19 => ?_)
    · rw [if_pos c19] at HF
      have hz := Option.some.inj HF
      subst hz
      replace HF := HK17
      have hz := Option.some.inj HF
      subst hz
      rw [← H29 _ rfl] at HK10
      exact q_wk (loc := [some (.inr (.inr (30, 7, 0))), some (.inl x5.1), none, none, none]) ⟨Or.inl rfl, ⟨Or.inl rfl, ⟨Or.inr ⟨rfl, fun _ h => by cases h⟩, ⟨Or.inl rfl, ⟨Or.inl rfl, trivial⟩⟩⟩⟩⟩ (hP11 (s7.2) HK10)
    · rw [if_neg c19] at HF
      have hz := Option.some.inj HF
      subst hz
      exact hP18 () HK17
  · rw [if_neg c94] at HF
    obtain ⟨x92, hx93, HF⟩ := q_bind HF
    refine q_cll (m' := 182) (av := [.inr (.inr (30, 7, 0)), .inl (10 : Int32)]) (st' := []) (pc' := 13) (loc' := [some (.inr (.inr (30, 7, 0))), none, none, none, none]) (h' := h) 3 (fun _ _ => rfl) (eMo_refuse (by omega) hx93) ?_
    have hz := Option.some.inj HF
    subst hz
    exact q_rtn 1 (fun _ _ => rfl)
def Mo_manyOf (a1 : Int32) (h : q_H) : Option Int32 :=
  (Mo_horizon h).bind fun x1 => (q_lp (fun s3 : Int32 × Int32 => (if (60 : Int32) ≤ s3.2 then (some (.inr (s3.1))) else ((Mo_isSlot s3.2 h).bind fun x11 => Option.bind (α := Int32) (if ¬ x11 = 0 then ((Mo_of s3.2 (0 : Int32) h).bind fun x17 => Option.bind (α := Int32) (if ¬ x17 = (1 : Int32) then (some ((0 : Int32))) else (some ((1 : Int32)))) (fun p24 => Option.bind (α := Int32) (if ¬ a1 = (7 : Int32) then (if ¬ a1 = (8 : Int32) then (if ¬ a1 = (9 : Int32) then (if ¬ a1 = (10 : Int32) then (if ¬ a1 = (11 : Int32) then (if ¬ a1 = (12 : Int32) then (if ¬ x17 = (2 : Int32) then (some ((0 : Int32))) else (some ((1 : Int32)))) else (if ¬ x17 = (3 : Int32) then (some ((0 : Int32))) else (some ((1 : Int32))))) else (if p24 = 0 then (some ((0 : Int32))) else ((Mo_of s3.2 (10 : Int32) h).bind fun x32 => if ¬ x32 = (1 : Int32) then (some ((0 : Int32))) else (some ((1 : Int32)))))) else (if p24 = 0 then (some ((0 : Int32))) else ((Mo_of s3.2 (11 : Int32) h).bind fun x37 => if ¬ x37 = (1 : Int32) then (some ((0 : Int32))) else (some ((1 : Int32)))))) else (if p24 = 0 then (some ((0 : Int32))) else ((Mo_isDying s3.2 h).bind fun x42 => if x42 = 0 then (some ((0 : Int32))) else (some ((1 : Int32)))))) else (if p24 = 0 then (some ((0 : Int32))) else ((Mo_isDead s3.2 x1 h).bind fun x47 => if x47 = 0 then (some ((0 : Int32))) else (some ((1 : Int32)))))) else (some (p24))) (fun p53 => if p53 = 0 then (some ((s3.1 + (0 : Int32)))) else (some ((s3.1 + (1 : Int32))))))) else (some (s3.1))) (fun p58 => some (.inl (p58, (s3.2 + (1 : Int32)))))) : Option ((Int32 × Int32) ⊕ Int32))) q_fu (((0 : Int32), (0 : Int32)) : Int32 × Int32)).bind fun z10 => some z10
set_option maxRecDepth 100000 in
set_option maxHeartbeats 4000000 in
theorem eMo_manyOf {d : Nat} (hd : 6 ≤ d) {a1 : Int32} {h : q_H} {r : Int32} (HF : Mo_manyOf a1 h = some r) : q_T d 260 [.inr (.inr (30, 7, 0)), .inl a1] h (some (.inl r), h) := by
  obtain ⟨d, rfl⟩ : ∃ d', d = d' + 1 := ⟨d - 1, by omega⟩
  refine q_ent q_K260 rfl rfl rfl ?_
  unfold Mo_manyOf at HF
  obtain ⟨x1, hx2, HF⟩ := q_bind HF
  refine q_cll (m' := 205) (av := [.inr (.inr (30, 7, 0))]) (st' := []) (pc' := 6) (loc' := [some (.inr (.inr (30, 7, 0))), some (.inl a1), some (.inl (0 : Int32)), none, none, none, none, none]) (h' := h) 4 (fun _ _ => rfl) (eMo_horizon (by omega) hx2) ?_
  refine q_blk (pc' := 10) (loc' := [some (.inr (.inr (30, 7, 0))), some (.inl a1), some (.inl (0 : Int32)), some (.inl x1), some (.inl (0 : Int32)), none, none, none]) (stk' := []) (h' := h) 3 (fun _ _ => rfl) ?_
  obtain ⟨r8, hl9, HK6⟩ := q_bind HF
  refine q_lpE (E := fun s3 => q_E d q_K260 10 [some (.inr (.inr (30, 7, 0))), some (.inl a1), some (.inl s3.1), some (.inl x1), some (.inl s3.2), none, none, none] [] h (some (.inl r), h)) r8 (fun s3 z10 HF H14 H25 => ?_) _ _ hl9
  refine q_br (P := (60 : Int32) ≤ s3.2) (pcT := 233) (pcF := 17) (loc' := [some (.inr (.inr (30, 7, 0))), some (.inl a1), some (.inl s3.1), some (.inl x1), some (.inl s3.2), none, none, none]) (stk' := []) (h' := h) 3 (fun _ _ => rfl) (fun c60 => ?_) (fun c60 => ?_)
  · rw [if_pos c60] at HF
    have hz := Option.some.inj HF
    subst hz
    replace HF := HK6
    rw [← H25 _ rfl] at HF
    have hz := Option.some.inj HF
    subst hz
    exact q_rtn 2 (fun _ _ => rfl)
  · rw [if_neg c60] at HF
    obtain ⟨x11, hx12, HF⟩ := q_bind HF
    refine q_cll (m' := 190) (av := [.inr (.inr (30, 7, 0)), .inl s3.2]) (st' := []) (pc' := 23) (loc' := [some (.inr (.inr (30, 7, 0))), some (.inl a1), some (.inl s3.1), some (.inl x1), some (.inl s3.2), none, none, none]) (h' := h) 3 (fun _ _ => rfl) (eMo_isSlot (by omega) hx12) ?_
    obtain ⟨z13, HA14, HK15⟩ := q_bind HF
    have hP16 : ∀ p58 : Int32, (some (.inl (p58, (s3.2 + (1 : Int32)))) : Option ((Int32 × Int32) ⊕ Int32)) = some z10 → q_E d q_K260 227 [some (.inr (.inr (30, 7, 0))), some (.inl a1), some (.inl p58), some (.inl x1), some (.inl s3.2), none, none, none] [] h (some (.inl r), h) := by
      intro p58 HF
      refine q_blk (pc' := 10) (loc' := [some (.inr (.inr (30, 7, 0))), some (.inl a1), some (.inl p58), some (.inl x1), some (.inl (s3.2 + (1 : Int32))), none, none, none]) (stk' := []) (h' := h) 2 (fun _ _ => rfl) ?_
      have hz := Option.some.inj HF
      subst hz
      exact H14 (p58, (s3.2 + (1 : Int32))) rfl
    replace HF := HA14
    refine q_br (P := ¬ x11 = 0) (pcT := 29) (pcF := 26) (loc' := [some (.inr (.inr (30, 7, 0))), some (.inl a1), some (.inl s3.1), some (.inl x1), some (.inl s3.2), none, none, none]) (stk' := []) (h' := h) 1 (fun _ _ => rfl) (fun c57 => ?_) (fun c57 => ?_)
    · rw [if_pos c57] at HF
      obtain ⟨x17, hx18, HF⟩ := q_bind HF
      refine q_cll (m' := 187) (av := [.inr (.inr (30, 7, 0)), .inl s3.2, .inl (0 : Int32)]) (st' := []) (pc' := 36) (loc' := [some (.inr (.inr (30, 7, 0))), some (.inl a1), some (.inl s3.1), some (.inl x1), some (.inl s3.2), none, none, none]) (h' := h) 4 (fun _ _ => rfl) (eMo_of (by omega) hx18) ?_
      obtain ⟨z19, HA20, HK21⟩ := q_bind HF
      have hP22 : ∀ p24 : Int32, (Option.bind (α := Int32) (if ¬ a1 = (7 : Int32) then (if ¬ a1 = (8 : Int32) then (if ¬ a1 = (9 : Int32) then (if ¬ a1 = (10 : Int32) then (if ¬ a1 = (11 : Int32) then (if ¬ a1 = (12 : Int32) then (if ¬ x17 = (2 : Int32) then (some ((0 : Int32))) else (some ((1 : Int32)))) else (if ¬ x17 = (3 : Int32) then (some ((0 : Int32))) else (some ((1 : Int32))))) else (if p24 = 0 then (some ((0 : Int32))) else ((Mo_of s3.2 (10 : Int32) h).bind fun x32 => if ¬ x32 = (1 : Int32) then (some ((0 : Int32))) else (some ((1 : Int32)))))) else (if p24 = 0 then (some ((0 : Int32))) else ((Mo_of s3.2 (11 : Int32) h).bind fun x37 => if ¬ x37 = (1 : Int32) then (some ((0 : Int32))) else (some ((1 : Int32)))))) else (if p24 = 0 then (some ((0 : Int32))) else ((Mo_isDying s3.2 h).bind fun x42 => if x42 = 0 then (some ((0 : Int32))) else (some ((1 : Int32)))))) else (if p24 = 0 then (some ((0 : Int32))) else ((Mo_isDead s3.2 x1 h).bind fun x47 => if x47 = 0 then (some ((0 : Int32))) else (some ((1 : Int32)))))) else (some (p24))) (fun p53 => if p53 = 0 then (some ((s3.1 + (0 : Int32)))) else (some ((s3.1 + (1 : Int32))))) : Option (Int32)) = some z13 → q_E d q_K260 49 [some (.inr (.inr (30, 7, 0))), some (.inl a1), some (.inl s3.1), some (.inl x1), some (.inl s3.2), some (.inl x17), none, none] [.inl p24] h (some (.inl r), h) := by
        intro p24 HF
        obtain ⟨z25, HA26, HK27⟩ := q_bind HF
        have hP28 : ∀ p53 : Int32, (if p53 = 0 then (some ((s3.1 + (0 : Int32)))) else (some ((s3.1 + (1 : Int32)))) : Option (Int32)) = some z13 → q_E d q_K260 212 [some (.inr (.inr (30, 7, 0))), some (.inl a1), some (.inl s3.1), some (.inl x1), some (.inl s3.2), some (.inl x17), some (.inl p24), none] [.inl p53] h (some (.inl r), h) := by
          intro p53 HF
          refine q_br (P := p53 = 0) (pcT := 224) (pcF := 220) (loc' := [some (.inr (.inr (30, 7, 0))), some (.inl a1), some (.inl s3.1), some (.inl x1), some (.inl s3.2), some (.inl x17), some (.inl p24), some (.inl p53)]) (stk' := [.inl s3.1]) (h' := h) 4 (fun _ _ => rfl) (fun c54 => ?_) (fun c54 => ?_)
          · rw [if_pos c54] at HF
            refine q_blk (pc' := 227) (loc' := [some (.inr (.inr (30, 7, 0))), some (.inl a1), some (.inl (s3.1 + (0 : Int32))), some (.inl x1), some (.inl s3.2), some (.inl x17), some (.inl p24), some (.inl p53)]) (stk' := []) (h' := h) 3 (fun _ _ => rfl) ?_
            have hz := Option.some.inj HF
            subst hz
            exact q_wk (loc := [some (.inr (.inr (30, 7, 0))), some (.inl a1), some (.inl (s3.1 + (0 : Int32))), some (.inl x1), some (.inl s3.2), none, none, none]) ⟨Or.inl rfl, ⟨Or.inl rfl, ⟨Or.inl rfl, ⟨Or.inl rfl, ⟨Or.inl rfl, ⟨Or.inr ⟨rfl, fun _ h => by cases h⟩, ⟨Or.inr ⟨rfl, fun _ h => by cases h⟩, ⟨Or.inr ⟨rfl, fun _ h => by cases h⟩, trivial⟩⟩⟩⟩⟩⟩⟩⟩ (hP16 (s3.1 + (0 : Int32)) HK15)
          · rw [if_neg c54] at HF
            refine q_blk (pc' := 227) (loc' := [some (.inr (.inr (30, 7, 0))), some (.inl a1), some (.inl (s3.1 + (1 : Int32))), some (.inl x1), some (.inl s3.2), some (.inl x17), some (.inl p24), some (.inl p53)]) (stk' := []) (h' := h) 4 (fun _ _ => rfl) ?_
            have hz := Option.some.inj HF
            subst hz
            exact q_wk (loc := [some (.inr (.inr (30, 7, 0))), some (.inl a1), some (.inl (s3.1 + (1 : Int32))), some (.inl x1), some (.inl s3.2), none, none, none]) ⟨Or.inl rfl, ⟨Or.inl rfl, ⟨Or.inl rfl, ⟨Or.inl rfl, ⟨Or.inl rfl, ⟨Or.inr ⟨rfl, fun _ h => by cases h⟩, ⟨Or.inr ⟨rfl, fun _ h => by cases h⟩, ⟨Or.inr ⟨rfl, fun _ h => by cases h⟩, trivial⟩⟩⟩⟩⟩⟩⟩⟩ (hP16 (s3.1 + (1 : Int32)) HK15)
        replace HF := HA26
        refine q_br (P := ¬ a1 = (7 : Int32)) (pcT := 62) (pcF := 57) (loc' := [some (.inr (.inr (30, 7, 0))), some (.inl a1), some (.inl s3.1), some (.inl x1), some (.inl s3.2), some (.inl x17), some (.inl p24), none]) (stk' := []) (h' := h) 4 (fun _ _ => rfl) (fun c52 => ?_) (fun c52 => ?_)
        · rw [if_pos c52] at HF
          refine q_br (P := ¬ a1 = (8 : Int32)) (pcT := 91) (pcF := 68) (loc' := [some (.inr (.inr (30, 7, 0))), some (.inl a1), some (.inl s3.1), some (.inl x1), some (.inl s3.2), some (.inl x17), some (.inl p24), none]) (stk' := []) (h' := h) 3 (fun _ _ => rfl) (fun c51 => ?_) (fun c51 => ?_)
          · rw [if_pos c51] at HF
            refine q_br (P := ¬ a1 = (9 : Int32)) (pcT := 119) (pcF := 97) (loc' := [some (.inr (.inr (30, 7, 0))), some (.inl a1), some (.inl s3.1), some (.inl x1), some (.inl s3.2), some (.inl x17), some (.inl p24), none]) (stk' := []) (h' := h) 3 (fun _ _ => rfl) (fun c46 => ?_) (fun c46 => ?_)
            · rw [if_pos c46] at HF
              refine q_br (P := ¬ a1 = (10 : Int32)) (pcT := 150) (pcF := 125) (loc' := [some (.inr (.inr (30, 7, 0))), some (.inl a1), some (.inl s3.1), some (.inl x1), some (.inl s3.2), some (.inl x17), some (.inl p24), none]) (stk' := []) (h' := h) 3 (fun _ _ => rfl) (fun c41 => ?_) (fun c41 => ?_)
              · rw [if_pos c41] at HF
                refine q_br (P := ¬ a1 = (11 : Int32)) (pcT := 181) (pcF := 156) (loc' := [some (.inr (.inr (30, 7, 0))), some (.inl a1), some (.inl s3.1), some (.inl x1), some (.inl s3.2), some (.inl x17), some (.inl p24), none]) (stk' := []) (h' := h) 3 (fun _ _ => rfl) (fun c36 => ?_) (fun c36 => ?_)
                · rw [if_pos c36] at HF
                  refine q_br (P := ¬ a1 = (12 : Int32)) (pcT := 201) (pcF := 187) (loc' := [some (.inr (.inr (30, 7, 0))), some (.inl a1), some (.inl s3.1), some (.inl x1), some (.inl s3.2), some (.inl x17), some (.inl p24), none]) (stk' := []) (h' := h) 3 (fun _ _ => rfl) (fun c31 => ?_) (fun c31 => ?_)
                  · rw [if_pos c31] at HF
                    refine q_br (P := ¬ x17 = (2 : Int32)) (pcT := 211) (pcF := 207) (loc' := [some (.inr (.inr (30, 7, 0))), some (.inl a1), some (.inl s3.1), some (.inl x1), some (.inl s3.2), some (.inl x17), some (.inl p24), none]) (stk' := []) (h' := h) 3 (fun _ _ => rfl) (fun c29 => ?_) (fun c29 => ?_)
                    · rw [if_pos c29] at HF
                      refine q_blk (pc' := 212) (loc' := [some (.inr (.inr (30, 7, 0))), some (.inl a1), some (.inl s3.1), some (.inl x1), some (.inl s3.2), some (.inl x17), some (.inl p24), none]) (stk' := [.inl (0 : Int32)]) (h' := h) 1 (fun _ _ => rfl) ?_
                      have hz := Option.some.inj HF
                      subst hz
                      exact hP28 (0 : Int32) HK27
                    · rw [if_neg c29] at HF
                      refine q_blk (pc' := 212) (loc' := [some (.inr (.inr (30, 7, 0))), some (.inl a1), some (.inl s3.1), some (.inl x1), some (.inl s3.2), some (.inl x17), some (.inl p24), none]) (stk' := [.inl (1 : Int32)]) (h' := h) 2 (fun _ _ => rfl) ?_
                      have hz := Option.some.inj HF
                      subst hz
                      exact hP28 (1 : Int32) HK27
                  · rw [if_neg c31] at HF
                    refine q_br (P := ¬ x17 = (3 : Int32)) (pcT := 197) (pcF := 193) (loc' := [some (.inr (.inr (30, 7, 0))), some (.inl a1), some (.inl s3.1), some (.inl x1), some (.inl s3.2), some (.inl x17), some (.inl p24), none]) (stk' := []) (h' := h) 3 (fun _ _ => rfl) (fun c30 => ?_) (fun c30 => ?_)
                    · rw [if_pos c30] at HF
                      refine q_blk (pc' := 212) (loc' := [some (.inr (.inr (30, 7, 0))), some (.inl a1), some (.inl s3.1), some (.inl x1), some (.inl s3.2), some (.inl x17), some (.inl p24), none]) (stk' := [.inl (0 : Int32)]) (h' := h) 2 (fun _ _ => rfl) ?_
                      have hz := Option.some.inj HF
                      subst hz
                      exact hP28 (0 : Int32) HK27
                    · rw [if_neg c30] at HF
                      refine q_blk (pc' := 212) (loc' := [some (.inr (.inr (30, 7, 0))), some (.inl a1), some (.inl s3.1), some (.inl x1), some (.inl s3.2), some (.inl x17), some (.inl p24), none]) (stk' := [.inl (1 : Int32)]) (h' := h) 2 (fun _ _ => rfl) ?_
                      have hz := Option.some.inj HF
                      subst hz
                      exact hP28 (1 : Int32) HK27
                · rw [if_neg c36] at HF
                  refine q_br (P := p24 = 0) (pcT := 177) (pcF := 161) (loc' := [some (.inr (.inr (30, 7, 0))), some (.inl a1), some (.inl s3.1), some (.inl x1), some (.inl s3.2), some (.inl x17), some (.inl p24), none]) (stk' := []) (h' := h) 2 (fun _ _ => rfl) (fun c35 => ?_) (fun c35 => ?_)
                  · rw [if_pos c35] at HF
                    refine q_blk (pc' := 212) (loc' := [some (.inr (.inr (30, 7, 0))), some (.inl a1), some (.inl s3.1), some (.inl x1), some (.inl s3.2), some (.inl x17), some (.inl p24), none]) (stk' := [.inl (0 : Int32)]) (h' := h) 2 (fun _ _ => rfl) ?_
                    have hz := Option.some.inj HF
                    subst hz
                    exact hP28 (0 : Int32) HK27
                  · rw [if_neg c35] at HF
                    obtain ⟨x32, hx33, HF⟩ := q_bind HF
                    refine q_cll (m' := 187) (av := [.inr (.inr (30, 7, 0)), .inl s3.2, .inl (10 : Int32)]) (st' := []) (pc' := 169) (loc' := [some (.inr (.inr (30, 7, 0))), some (.inl a1), some (.inl s3.1), some (.inl x1), some (.inl s3.2), some (.inl x17), some (.inl p24), none]) (h' := h) 4 (fun _ _ => rfl) (eMo_of (by omega) hx33) ?_
                    refine q_br (P := ¬ x32 = (1 : Int32)) (pcT := 177) (pcF := 173) (loc' := [some (.inr (.inr (30, 7, 0))), some (.inl a1), some (.inl s3.1), some (.inl x1), some (.inl s3.2), some (.inl x17), some (.inl p24), none]) (stk' := []) (h' := h) 2 (fun _ _ => rfl) (fun c34 => ?_) (fun c34 => ?_)
                    · rw [if_pos c34] at HF
                      refine q_blk (pc' := 212) (loc' := [some (.inr (.inr (30, 7, 0))), some (.inl a1), some (.inl s3.1), some (.inl x1), some (.inl s3.2), some (.inl x17), some (.inl p24), none]) (stk' := [.inl (0 : Int32)]) (h' := h) 2 (fun _ _ => rfl) ?_
                      have hz := Option.some.inj HF
                      subst hz
                      exact hP28 (0 : Int32) HK27
                    · rw [if_neg c34] at HF
                      refine q_blk (pc' := 212) (loc' := [some (.inr (.inr (30, 7, 0))), some (.inl a1), some (.inl s3.1), some (.inl x1), some (.inl s3.2), some (.inl x17), some (.inl p24), none]) (stk' := [.inl (1 : Int32)]) (h' := h) 2 (fun _ _ => rfl) ?_
                      have hz := Option.some.inj HF
                      subst hz
                      exact hP28 (1 : Int32) HK27
              · rw [if_neg c41] at HF
                refine q_br (P := p24 = 0) (pcT := 146) (pcF := 130) (loc' := [some (.inr (.inr (30, 7, 0))), some (.inl a1), some (.inl s3.1), some (.inl x1), some (.inl s3.2), some (.inl x17), some (.inl p24), none]) (stk' := []) (h' := h) 2 (fun _ _ => rfl) (fun c40 => ?_) (fun c40 => ?_)
                · rw [if_pos c40] at HF
                  refine q_blk (pc' := 212) (loc' := [some (.inr (.inr (30, 7, 0))), some (.inl a1), some (.inl s3.1), some (.inl x1), some (.inl s3.2), some (.inl x17), some (.inl p24), none]) (stk' := [.inl (0 : Int32)]) (h' := h) 2 (fun _ _ => rfl) ?_
                  have hz := Option.some.inj HF
                  subst hz
                  exact hP28 (0 : Int32) HK27
                · rw [if_neg c40] at HF
                  obtain ⟨x37, hx38, HF⟩ := q_bind HF
                  refine q_cll (m' := 187) (av := [.inr (.inr (30, 7, 0)), .inl s3.2, .inl (11 : Int32)]) (st' := []) (pc' := 138) (loc' := [some (.inr (.inr (30, 7, 0))), some (.inl a1), some (.inl s3.1), some (.inl x1), some (.inl s3.2), some (.inl x17), some (.inl p24), none]) (h' := h) 4 (fun _ _ => rfl) (eMo_of (by omega) hx38) ?_
                  refine q_br (P := ¬ x37 = (1 : Int32)) (pcT := 146) (pcF := 142) (loc' := [some (.inr (.inr (30, 7, 0))), some (.inl a1), some (.inl s3.1), some (.inl x1), some (.inl s3.2), some (.inl x17), some (.inl p24), none]) (stk' := []) (h' := h) 2 (fun _ _ => rfl) (fun c39 => ?_) (fun c39 => ?_)
                  · rw [if_pos c39] at HF
                    refine q_blk (pc' := 212) (loc' := [some (.inr (.inr (30, 7, 0))), some (.inl a1), some (.inl s3.1), some (.inl x1), some (.inl s3.2), some (.inl x17), some (.inl p24), none]) (stk' := [.inl (0 : Int32)]) (h' := h) 2 (fun _ _ => rfl) ?_
                    have hz := Option.some.inj HF
                    subst hz
                    exact hP28 (0 : Int32) HK27
                  · rw [if_neg c39] at HF
                    refine q_blk (pc' := 212) (loc' := [some (.inr (.inr (30, 7, 0))), some (.inl a1), some (.inl s3.1), some (.inl x1), some (.inl s3.2), some (.inl x17), some (.inl p24), none]) (stk' := [.inl (1 : Int32)]) (h' := h) 2 (fun _ _ => rfl) ?_
                    have hz := Option.some.inj HF
                    subst hz
                    exact hP28 (1 : Int32) HK27
            · rw [if_neg c46] at HF
              refine q_br (P := p24 = 0) (pcT := 115) (pcF := 102) (loc' := [some (.inr (.inr (30, 7, 0))), some (.inl a1), some (.inl s3.1), some (.inl x1), some (.inl s3.2), some (.inl x17), some (.inl p24), none]) (stk' := []) (h' := h) 2 (fun _ _ => rfl) (fun c45 => ?_) (fun c45 => ?_)
              · rw [if_pos c45] at HF
                refine q_blk (pc' := 212) (loc' := [some (.inr (.inr (30, 7, 0))), some (.inl a1), some (.inl s3.1), some (.inl x1), some (.inl s3.2), some (.inl x17), some (.inl p24), none]) (stk' := [.inl (0 : Int32)]) (h' := h) 2 (fun _ _ => rfl) ?_
                have hz := Option.some.inj HF
                subst hz
                exact hP28 (0 : Int32) HK27
              · rw [if_neg c45] at HF
                obtain ⟨x42, hx43, HF⟩ := q_bind HF
                refine q_cll (m' := 208) (av := [.inr (.inr (30, 7, 0)), .inl s3.2]) (st' := []) (pc' := 108) (loc' := [some (.inr (.inr (30, 7, 0))), some (.inl a1), some (.inl s3.1), some (.inl x1), some (.inl s3.2), some (.inl x17), some (.inl p24), none]) (h' := h) 3 (fun _ _ => rfl) (eMo_isDying (by omega) hx43) ?_
                refine q_br (P := x42 = 0) (pcT := 115) (pcF := 111) (loc' := [some (.inr (.inr (30, 7, 0))), some (.inl a1), some (.inl s3.1), some (.inl x1), some (.inl s3.2), some (.inl x17), some (.inl p24), none]) (stk' := []) (h' := h) 1 (fun _ _ => rfl) (fun c44 => ?_) (fun c44 => ?_)
                · rw [if_pos c44] at HF
                  refine q_blk (pc' := 212) (loc' := [some (.inr (.inr (30, 7, 0))), some (.inl a1), some (.inl s3.1), some (.inl x1), some (.inl s3.2), some (.inl x17), some (.inl p24), none]) (stk' := [.inl (0 : Int32)]) (h' := h) 2 (fun _ _ => rfl) ?_
                  have hz := Option.some.inj HF
                  subst hz
                  exact hP28 (0 : Int32) HK27
                · rw [if_neg c44] at HF
                  refine q_blk (pc' := 212) (loc' := [some (.inr (.inr (30, 7, 0))), some (.inl a1), some (.inl s3.1), some (.inl x1), some (.inl s3.2), some (.inl x17), some (.inl p24), none]) (stk' := [.inl (1 : Int32)]) (h' := h) 2 (fun _ _ => rfl) ?_
                  have hz := Option.some.inj HF
                  subst hz
                  exact hP28 (1 : Int32) HK27
          · rw [if_neg c51] at HF
            refine q_br (P := p24 = 0) (pcT := 87) (pcF := 73) (loc' := [some (.inr (.inr (30, 7, 0))), some (.inl a1), some (.inl s3.1), some (.inl x1), some (.inl s3.2), some (.inl x17), some (.inl p24), none]) (stk' := []) (h' := h) 2 (fun _ _ => rfl) (fun c50 => ?_) (fun c50 => ?_)
            · rw [if_pos c50] at HF
              refine q_blk (pc' := 212) (loc' := [some (.inr (.inr (30, 7, 0))), some (.inl a1), some (.inl s3.1), some (.inl x1), some (.inl s3.2), some (.inl x17), some (.inl p24), none]) (stk' := [.inl (0 : Int32)]) (h' := h) 2 (fun _ _ => rfl) ?_
              have hz := Option.some.inj HF
              subst hz
              exact hP28 (0 : Int32) HK27
            · rw [if_neg c50] at HF
              obtain ⟨x47, hx48, HF⟩ := q_bind HF
              refine q_cll (m' := 207) (av := [.inr (.inr (30, 7, 0)), .inl s3.2, .inl x1]) (st' := []) (pc' := 80) (loc' := [some (.inr (.inr (30, 7, 0))), some (.inl a1), some (.inl s3.1), some (.inl x1), some (.inl s3.2), some (.inl x17), some (.inl p24), none]) (h' := h) 4 (fun _ _ => rfl) (eMo_isDead (by omega) hx48) ?_
              refine q_br (P := x47 = 0) (pcT := 87) (pcF := 83) (loc' := [some (.inr (.inr (30, 7, 0))), some (.inl a1), some (.inl s3.1), some (.inl x1), some (.inl s3.2), some (.inl x17), some (.inl p24), none]) (stk' := []) (h' := h) 1 (fun _ _ => rfl) (fun c49 => ?_) (fun c49 => ?_)
              · rw [if_pos c49] at HF
                refine q_blk (pc' := 212) (loc' := [some (.inr (.inr (30, 7, 0))), some (.inl a1), some (.inl s3.1), some (.inl x1), some (.inl s3.2), some (.inl x17), some (.inl p24), none]) (stk' := [.inl (0 : Int32)]) (h' := h) 2 (fun _ _ => rfl) ?_
                have hz := Option.some.inj HF
                subst hz
                exact hP28 (0 : Int32) HK27
              · rw [if_neg c49] at HF
                refine q_blk (pc' := 212) (loc' := [some (.inr (.inr (30, 7, 0))), some (.inl a1), some (.inl s3.1), some (.inl x1), some (.inl s3.2), some (.inl x17), some (.inl p24), none]) (stk' := [.inl (1 : Int32)]) (h' := h) 2 (fun _ _ => rfl) ?_
                have hz := Option.some.inj HF
                subst hz
                exact hP28 (1 : Int32) HK27
        · rw [if_neg c52] at HF
          refine q_blk (pc' := 212) (loc' := [some (.inr (.inr (30, 7, 0))), some (.inl a1), some (.inl s3.1), some (.inl x1), some (.inl s3.2), some (.inl x17), some (.inl p24), none]) (stk' := [.inl p24]) (h' := h) 2 (fun _ _ => rfl) ?_
          have hz := Option.some.inj HF
          subst hz
          exact hP28 (p24) HK27
      replace HF := HA20
      refine q_br (P := ¬ x17 = (1 : Int32)) (pcT := 48) (pcF := 44) (loc' := [some (.inr (.inr (30, 7, 0))), some (.inl a1), some (.inl s3.1), some (.inl x1), some (.inl s3.2), some (.inl x17), none, none]) (stk' := []) (h' := h) 4 (fun _ _ => rfl) (fun c23 => ?_) (fun c23 => ?_)
      · rw [if_pos c23] at HF
        refine q_blk (pc' := 49) (loc' := [some (.inr (.inr (30, 7, 0))), some (.inl a1), some (.inl s3.1), some (.inl x1), some (.inl s3.2), some (.inl x17), none, none]) (stk' := [.inl (0 : Int32)]) (h' := h) 1 (fun _ _ => rfl) ?_
        have hz := Option.some.inj HF
        subst hz
        exact hP22 (0 : Int32) HK21
      · rw [if_neg c23] at HF
        refine q_blk (pc' := 49) (loc' := [some (.inr (.inr (30, 7, 0))), some (.inl a1), some (.inl s3.1), some (.inl x1), some (.inl s3.2), some (.inl x17), none, none]) (stk' := [.inl (1 : Int32)]) (h' := h) 2 (fun _ _ => rfl) ?_
        have hz := Option.some.inj HF
        subst hz
        exact hP22 (1 : Int32) HK21
    · rw [if_neg c57] at HF
      refine q_blk (pc' := 227) (loc' := [some (.inr (.inr (30, 7, 0))), some (.inl a1), some (.inl s3.1), some (.inl x1), some (.inl s3.2), none, none, none]) (stk' := []) (h' := h) 1 (fun _ _ => rfl) ?_
      have hz := Option.some.inj HF
      subst hz
      exact hP16 (s3.1) HK15
def Mo_slot (a1 : Int32) (a2 : Int32) (a3 : Int32) (h : q_H) : Option (Int32 × q_H) :=
  (Mo_isIn a3 (0 : Int32) (3 : Int32) h).bind fun x1 => (Mo_asksSlot x1 a1 a2 h).bind fun x3 => if ¬ x3.1 = 0 then (if ¬ a3 = 0 then (if ¬ a3 = (1 : Int32) then (if ¬ a3 = (2 : Int32) then ((Mo_chainMany (((10 : Int32) * a1) + a2) x3.2).bind fun x5 => some ((x5, x3.2))) else ((Mo_entriesTo (((10 : Int32) * a1) + a2) x3.2).bind fun x7 => some ((x7, x3.2)))) else ((Mo_of (((10 : Int32) * a1) + a2) (0 : Int32) x3.2).bind fun x10 => if ¬ x10 = (2 : Int32) then (some (((-1 : Int32), x3.2))) else ((Mo_of (((10 : Int32) * a1) + a2) (1 : Int32) x3.2).bind fun x12 => some ((x12, x3.2))))) else ((Mo_of (((10 : Int32) * a1) + a2) (0 : Int32) x3.2).bind fun x16 => some ((x16, x3.2)))) else (some (((-1 : Int32), x3.2)))
set_option maxRecDepth 100000 in
set_option maxHeartbeats 4000000 in
theorem eMo_slot {d : Nat} (hd : 6 ≤ d) {a1 : Int32} {a2 : Int32} {a3 : Int32} {h : q_H} {r : (Int32 × q_H)} (HF : Mo_slot a1 a2 a3 h = some r) : q_T d 270 [.inr (.inr (30, 7, 0)), .inl a1, .inl a2, .inl a3] h (some (.inl r.1), r.2) := by
  obtain ⟨d, rfl⟩ : ∃ d', d = d' + 1 := ⟨d - 1, by omega⟩
  refine q_ent q_K270 rfl rfl rfl ?_
  unfold Mo_slot at HF
  obtain ⟨x1, hx2, HF⟩ := q_bind HF
  refine q_cll (m' := 184) (av := [.inl a3, .inl (0 : Int32), .inl (3 : Int32)]) (st' := [.inr (.inr (30, 7, 0))]) (pc' := 7) (loc' := [some (.inr (.inr (30, 7, 0))), some (.inl a1), some (.inl a2), some (.inl a3), none]) (h' := h) 5 (fun _ _ => rfl) (eMo_isIn (by omega) hx2) ?_
  obtain ⟨x3, hx4, HF⟩ := q_bind HF
  refine q_cll (m' := 269) (av := [.inr (.inr (30, 7, 0)), .inl x1, .inl a1, .inl a2]) (st' := []) (pc' := 12) (loc' := [some (.inr (.inr (30, 7, 0))), some (.inl a1), some (.inl a2), some (.inl a3), none]) (h' := h) 3 (fun _ _ => rfl) (eMo_asksSlot (by omega) hx4) ?_
  refine q_br (P := ¬ x3.1 = 0) (pcT := 17) (pcF := 15) (loc' := [some (.inr (.inr (30, 7, 0))), some (.inl a1), some (.inl a2), some (.inl a3), none]) (stk' := []) (h' := x3.2) 1 (fun _ _ => rfl) (fun c19 => ?_) (fun c19 => ?_)
  · rw [if_pos c19] at HF
    refine q_br (P := ¬ a3 = 0) (pcT := 39) (pcF := 29) (loc' := [some (.inr (.inr (30, 7, 0))), some (.inl a1), some (.inl a2), some (.inl a3), some (.inl (((10 : Int32) * a1) + a2))]) (stk' := []) (h' := x3.2) 8 (fun _ _ => rfl) (fun c18 => ?_) (fun c18 => ?_)
    · rw [if_pos c18] at HF
      refine q_br (P := ¬ a3 = (1 : Int32)) (pcT := 69) (pcF := 44) (loc' := [some (.inr (.inr (30, 7, 0))), some (.inl a1), some (.inl a2), some (.inl a3), some (.inl (((10 : Int32) * a1) + a2))]) (stk' := []) (h' := x3.2) 3 (fun _ _ => rfl) (fun c15 => ?_) (fun c15 => ?_)
      · rw [if_pos c15] at HF
        refine q_br (P := ¬ a3 = (2 : Int32)) (pcT := 83) (pcF := 74) (loc' := [some (.inr (.inr (30, 7, 0))), some (.inl a1), some (.inl a2), some (.inl a3), some (.inl (((10 : Int32) * a1) + a2))]) (stk' := []) (h' := x3.2) 3 (fun _ _ => rfl) (fun c9 => ?_) (fun c9 => ?_)
        · rw [if_pos c9] at HF
          obtain ⟨x5, hx6, HF⟩ := q_bind HF
          refine q_cll (m' := 211) (av := [.inr (.inr (30, 7, 0)), .inl (((10 : Int32) * a1) + a2)]) (st' := []) (pc' := 89) (loc' := [some (.inr (.inr (30, 7, 0))), some (.inl a1), some (.inl a2), some (.inl a3), some (.inl (((10 : Int32) * a1) + a2))]) (h' := x3.2) 3 (fun _ _ => rfl) (eMo_chainMany (by omega) hx6) ?_
          have hz := Option.some.inj HF
          subst hz
          exact q_rtn 1 (fun _ _ => rfl)
        · rw [if_neg c9] at HF
          obtain ⟨x7, hx8, HF⟩ := q_bind HF
          refine q_cll (m' := 219) (av := [.inr (.inr (30, 7, 0)), .inl (((10 : Int32) * a1) + a2)]) (st' := []) (pc' := 80) (loc' := [some (.inr (.inr (30, 7, 0))), some (.inl a1), some (.inl a2), some (.inl a3), some (.inl (((10 : Int32) * a1) + a2))]) (h' := x3.2) 3 (fun _ _ => rfl) (eMo_entriesTo (by omega) hx8) ?_
          have hz := Option.some.inj HF
          subst hz
          exact q_rtn 2 (fun _ _ => rfl)
      · rw [if_neg c15] at HF
        obtain ⟨x10, hx11, HF⟩ := q_bind HF
        refine q_cll (m' := 187) (av := [.inr (.inr (30, 7, 0)), .inl (((10 : Int32) * a1) + a2), .inl (0 : Int32)]) (st' := []) (pc' := 51) (loc' := [some (.inr (.inr (30, 7, 0))), some (.inl a1), some (.inl a2), some (.inl a3), some (.inl (((10 : Int32) * a1) + a2))]) (h' := x3.2) 4 (fun _ _ => rfl) (eMo_of (by omega) hx11) ?_
        refine q_br (P := ¬ x10 = (2 : Int32)) (pcT := 65) (pcF := 55) (loc' := [some (.inr (.inr (30, 7, 0))), some (.inl a1), some (.inl a2), some (.inl a3), some (.inl (((10 : Int32) * a1) + a2))]) (stk' := []) (h' := x3.2) 2 (fun _ _ => rfl) (fun c14 => ?_) (fun c14 => ?_)
        · rw [if_pos c14] at HF
          have hz := Option.some.inj HF
          subst hz
          exact q_rtn 3 (fun _ _ => rfl)
        · rw [if_neg c14] at HF
          obtain ⟨x12, hx13, HF⟩ := q_bind HF
          refine q_cll (m' := 187) (av := [.inr (.inr (30, 7, 0)), .inl (((10 : Int32) * a1) + a2), .inl (1 : Int32)]) (st' := []) (pc' := 62) (loc' := [some (.inr (.inr (30, 7, 0))), some (.inl a1), some (.inl a2), some (.inl a3), some (.inl (((10 : Int32) * a1) + a2))]) (h' := x3.2) 4 (fun _ _ => rfl) (eMo_of (by omega) hx13) ?_
          have hz := Option.some.inj HF
          subst hz
          exact q_rtn 2 (fun _ _ => rfl)
    · rw [if_neg c18] at HF
      obtain ⟨x16, hx17, HF⟩ := q_bind HF
      refine q_cll (m' := 187) (av := [.inr (.inr (30, 7, 0)), .inl (((10 : Int32) * a1) + a2), .inl (0 : Int32)]) (st' := []) (pc' := 36) (loc' := [some (.inr (.inr (30, 7, 0))), some (.inl a1), some (.inl a2), some (.inl a3), some (.inl (((10 : Int32) * a1) + a2))]) (h' := x3.2) 4 (fun _ _ => rfl) (eMo_of (by omega) hx17) ?_
      have hz := Option.some.inj HF
      subst hz
      exact q_rtn 2 (fun _ _ => rfl)
  · rw [if_neg c19] at HF
    have hz := Option.some.inj HF
    subst hz
    exact q_rtn 2 (fun _ _ => rfl)
def Mo_version (a1 : Int32) (a2 : Int32) (a3 : Int32) (h : q_H) : Option (Int32 × q_H) :=
  (Mo_isIn a3 (0 : Int32) (11 : Int32) h).bind fun x1 => (Mo_asksSlot x1 a1 a2 h).bind fun x3 => if ¬ x3.1 = 0 then ((Mo_isFull (((10 : Int32) * a1) + a2) x3.2).bind fun x5 => if ¬ x5 = 0 then (if (10 : Int32) ≤ a3 then (if ¬ a3 = (10 : Int32) then ((Mo_isDying (((10 : Int32) * a1) + a2) x3.2).bind fun x7 => if x7 = 0 then (some (((0 : Int32), x3.2))) else (some (((1 : Int32), x3.2)))) else ((Mo_horizon x3.2).bind fun x10 => (Mo_isDead (((10 : Int32) * a1) + a2) x10 x3.2).bind fun x12 => if x12 = 0 then (some (((0 : Int32), x3.2))) else (some (((1 : Int32), x3.2))))) else ((Mo_of (((10 : Int32) * a1) + a2) ((2 : Int32) + a3) x3.2).bind fun x16 => some ((x16, x3.2)))) else ((Mo_refuse (5 : Int32) x3.2).bind fun x19 => some ((x19.1, x19.2)))) else (some (((-1 : Int32), x3.2)))
set_option maxRecDepth 100000 in
set_option maxHeartbeats 4000000 in
theorem eMo_version {d : Nat} (hd : 6 ≤ d) {a1 : Int32} {a2 : Int32} {a3 : Int32} {h : q_H} {r : (Int32 × q_H)} (HF : Mo_version a1 a2 a3 h = some r) : q_T d 271 [.inr (.inr (30, 7, 0)), .inl a1, .inl a2, .inl a3] h (some (.inl r.1), r.2) := by
  obtain ⟨d, rfl⟩ : ∃ d', d = d' + 1 := ⟨d - 1, by omega⟩
  refine q_ent q_K271 rfl rfl rfl ?_
  unfold Mo_version at HF
  obtain ⟨x1, hx2, HF⟩ := q_bind HF
  refine q_cll (m' := 184) (av := [.inl a3, .inl (0 : Int32), .inl (11 : Int32)]) (st' := [.inr (.inr (30, 7, 0))]) (pc' := 8) (loc' := [some (.inr (.inr (30, 7, 0))), some (.inl a1), some (.inl a2), some (.inl a3), none]) (h' := h) 5 (fun _ _ => rfl) (eMo_isIn (by omega) hx2) ?_
  obtain ⟨x3, hx4, HF⟩ := q_bind HF
  refine q_cll (m' := 269) (av := [.inr (.inr (30, 7, 0)), .inl x1, .inl a1, .inl a2]) (st' := []) (pc' := 13) (loc' := [some (.inr (.inr (30, 7, 0))), some (.inl a1), some (.inl a2), some (.inl a3), none]) (h' := h) 3 (fun _ _ => rfl) (eMo_asksSlot (by omega) hx4) ?_
  refine q_br (P := ¬ x3.1 = 0) (pcT := 18) (pcF := 16) (loc' := [some (.inr (.inr (30, 7, 0))), some (.inl a1), some (.inl a2), some (.inl a3), none]) (stk' := []) (h' := x3.2) 1 (fun _ _ => rfl) (fun c22 => ?_) (fun c22 => ?_)
  · rw [if_pos c22] at HF
    obtain ⟨x5, hx6, HF⟩ := q_bind HF
    refine q_cll (m' := 189) (av := [.inr (.inr (30, 7, 0)), .inl (((10 : Int32) * a1) + a2)]) (st' := []) (pc' := 32) (loc' := [some (.inr (.inr (30, 7, 0))), some (.inl a1), some (.inl a2), some (.inl a3), some (.inl (((10 : Int32) * a1) + a2))]) (h' := x3.2) 9 (fun _ _ => rfl) (eMo_isFull (by omega) hx6) ?_
    refine q_br (P := ¬ x5 = 0) (pcT := 41) (pcF := 35) (loc' := [some (.inr (.inr (30, 7, 0))), some (.inl a1), some (.inl a2), some (.inl a3), some (.inl (((10 : Int32) * a1) + a2))]) (stk' := []) (h' := x3.2) 1 (fun _ _ => rfl) (fun c21 => ?_) (fun c21 => ?_)
    · rw [if_pos c21] at HF
      refine q_br (P := (10 : Int32) ≤ a3) (pcT := 57) (pcF := 47) (loc' := [some (.inr (.inr (30, 7, 0))), some (.inl a1), some (.inl a2), some (.inl a3), some (.inl (((10 : Int32) * a1) + a2))]) (stk' := []) (h' := x3.2) 3 (fun _ _ => rfl) (fun c18 => ?_) (fun c18 => ?_)
      · rw [if_pos c18] at HF
        refine q_br (P := ¬ a3 = (10 : Int32)) (pcT := 79) (pcF := 63) (loc' := [some (.inr (.inr (30, 7, 0))), some (.inl a1), some (.inl a2), some (.inl a3), some (.inl (((10 : Int32) * a1) + a2))]) (stk' := []) (h' := x3.2) 3 (fun _ _ => rfl) (fun c15 => ?_) (fun c15 => ?_)
        · rw [if_pos c15] at HF
          obtain ⟨x7, hx8, HF⟩ := q_bind HF
          refine q_cll (m' := 208) (av := [.inr (.inr (30, 7, 0)), .inl (((10 : Int32) * a1) + a2)]) (st' := []) (pc' := 85) (loc' := [some (.inr (.inr (30, 7, 0))), some (.inl a1), some (.inl a2), some (.inl a3), some (.inl (((10 : Int32) * a1) + a2))]) (h' := x3.2) 3 (fun _ _ => rfl) (eMo_isDying (by omega) hx8) ?_
          refine q_br (P := x7 = 0) (pcT := 92) (pcF := 88) (loc' := [some (.inr (.inr (30, 7, 0))), some (.inl a1), some (.inl a2), some (.inl a3), some (.inl (((10 : Int32) * a1) + a2))]) (stk' := []) (h' := x3.2) 1 (fun _ _ => rfl) (fun c9 => ?_) (fun c9 => ?_)
          · rw [if_pos c9] at HF
            have hz := Option.some.inj HF
            subst hz
            exact q_rtn 2 (fun _ _ => rfl)
          · rw [if_neg c9] at HF
            have hz := Option.some.inj HF
            subst hz
            exact q_rtn 3 (fun _ _ => rfl)
        · rw [if_neg c15] at HF
          obtain ⟨x10, hx11, HF⟩ := q_bind HF
          refine q_cll (m' := 205) (av := [.inr (.inr (30, 7, 0))]) (st' := [.inl (((10 : Int32) * a1) + a2), .inr (.inr (30, 7, 0))]) (pc' := 70) (loc' := [some (.inr (.inr (30, 7, 0))), some (.inl a1), some (.inl a2), some (.inl a3), some (.inl (((10 : Int32) * a1) + a2))]) (h' := x3.2) 4 (fun _ _ => rfl) (eMo_horizon (by omega) hx11) ?_
          obtain ⟨x12, hx13, HF⟩ := q_bind HF
          refine q_cll (m' := 207) (av := [.inr (.inr (30, 7, 0)), .inl (((10 : Int32) * a1) + a2), .inl x10]) (st' := []) (pc' := 73) (loc' := [some (.inr (.inr (30, 7, 0))), some (.inl a1), some (.inl a2), some (.inl a3), some (.inl (((10 : Int32) * a1) + a2))]) (h' := x3.2) 1 (fun _ _ => rfl) (eMo_isDead (by omega) hx13) ?_
          refine q_br (P := x12 = 0) (pcT := 92) (pcF := 76) (loc' := [some (.inr (.inr (30, 7, 0))), some (.inl a1), some (.inl a2), some (.inl a3), some (.inl (((10 : Int32) * a1) + a2))]) (stk' := []) (h' := x3.2) 1 (fun _ _ => rfl) (fun c14 => ?_) (fun c14 => ?_)
          · rw [if_pos c14] at HF
            have hz := Option.some.inj HF
            subst hz
            exact q_rtn 2 (fun _ _ => rfl)
          · rw [if_neg c14] at HF
            have hz := Option.some.inj HF
            subst hz
            exact q_rtn 4 (fun _ _ => rfl)
      · rw [if_neg c18] at HF
        obtain ⟨x16, hx17, HF⟩ := q_bind HF
        refine q_cll (m' := 187) (av := [.inr (.inr (30, 7, 0)), .inl (((10 : Int32) * a1) + a2), .inl ((2 : Int32) + a3)]) (st' := []) (pc' := 56) (loc' := [some (.inr (.inr (30, 7, 0))), some (.inl a1), some (.inl a2), some (.inl a3), some (.inl (((10 : Int32) * a1) + a2))]) (h' := x3.2) 6 (fun _ _ => rfl) (eMo_of (by omega) hx17) ?_
        have hz := Option.some.inj HF
        subst hz
        exact q_rtn 1 (fun _ _ => rfl)
    · rw [if_neg c21] at HF
      obtain ⟨x19, hx20, HF⟩ := q_bind HF
      refine q_cll (m' := 182) (av := [.inr (.inr (30, 7, 0)), .inl (5 : Int32)]) (st' := []) (pc' := 40) (loc' := [some (.inr (.inr (30, 7, 0))), some (.inl a1), some (.inl a2), some (.inl a3), some (.inl (((10 : Int32) * a1) + a2))]) (h' := x3.2) 3 (fun _ _ => rfl) (eMo_refuse (by omega) hx20) ?_
      have hz := Option.some.inj HF
      subst hz
      exact q_rtn 1 (fun _ _ => rfl)
  · rw [if_neg c22] at HF
    have hz := Option.some.inj HF
    subst hz
    exact q_rtn 2 (fun _ _ => rfl)
def Mo_commit (a1 : Int32) (h : q_H) : Option (Int32 × q_H) :=
  (Mo_is (0 : Int32) h).bind fun x1 => (Mo_closeNow a1 (1 : Int32) x1.2).bind fun x3 => some ((x3.1, x3.2))
set_option maxRecDepth 100000 in
set_option maxHeartbeats 4000000 in
theorem eMo_commit {d : Nat} (hd : 6 ≤ d) {a1 : Int32} {h : q_H} {r : (Int32 × q_H)} (HF : Mo_commit a1 h = some r) : q_T d 282 [.inr (.inr (30, 7, 0)), .inl a1] h (some (.inl r.1), r.2) := by
  obtain ⟨d, rfl⟩ : ∃ d', d = d' + 1 := ⟨d - 1, by omega⟩
  refine q_ent q_K282 rfl rfl rfl ?_
  unfold Mo_commit at HF
  obtain ⟨x1, hx2, HF⟩ := q_bind HF
  refine q_cll (m' := 183) (av := [.inr (.inr (30, 7, 0)), .inl (0 : Int32)]) (st' := []) (pc' := 5) (loc' := [some (.inr (.inr (30, 7, 0))), some (.inl a1)]) (h' := h) 3 (fun _ _ => rfl) (eMo_is (by omega) hx2) ?_
  obtain ⟨x3, hx4, HF⟩ := q_bind HF
  refine q_cll (m' := 237) (av := [.inr (.inr (30, 7, 0)), .inl a1, .inl (1 : Int32)]) (st' := []) (pc' := 12) (loc' := [some (.inr (.inr (30, 7, 0))), some (.inl a1)]) (h' := x1.2) 5 (fun _ _ => rfl) (eMo_closeNow (by omega) hx4) ?_
  have hz := Option.some.inj HF
  subst hz
  exact q_rtn 1 (fun _ _ => rfl)
def Mo_abort (a1 : Int32) (h : q_H) : Option (Int32 × q_H) :=
  (Mo_is (0 : Int32) h).bind fun x1 => (Mo_closeNow a1 (2 : Int32) x1.2).bind fun x3 => some ((x3.1, x3.2))
set_option maxRecDepth 100000 in
set_option maxHeartbeats 4000000 in
theorem eMo_abort {d : Nat} (hd : 6 ≤ d) {a1 : Int32} {h : q_H} {r : (Int32 × q_H)} (HF : Mo_abort a1 h = some r) : q_T d 283 [.inr (.inr (30, 7, 0)), .inl a1] h (some (.inl r.1), r.2) := by
  obtain ⟨d, rfl⟩ : ∃ d', d = d' + 1 := ⟨d - 1, by omega⟩
  refine q_ent q_K283 rfl rfl rfl ?_
  unfold Mo_abort at HF
  obtain ⟨x1, hx2, HF⟩ := q_bind HF
  refine q_cll (m' := 183) (av := [.inr (.inr (30, 7, 0)), .inl (0 : Int32)]) (st' := []) (pc' := 5) (loc' := [some (.inr (.inr (30, 7, 0))), some (.inl a1)]) (h' := h) 3 (fun _ _ => rfl) (eMo_is (by omega) hx2) ?_
  obtain ⟨x3, hx4, HF⟩ := q_bind HF
  refine q_cll (m' := 237) (av := [.inr (.inr (30, 7, 0)), .inl a1, .inl (2 : Int32)]) (st' := []) (pc' := 12) (loc' := [some (.inr (.inr (30, 7, 0))), some (.inl a1)]) (h' := x1.2) 5 (fun _ _ => rfl) (eMo_closeNow (by omega) hx4) ?_
  have hz := Option.some.inj HF
  subst hz
  exact q_rtn 1 (fun _ _ => rfl)
def Mo_await (a1 : Int32) (a2 : Int32) (h : q_H) : Option (Int32 × q_H) :=
  (Mo_enderFor a1 a2 h).bind fun x1 => if 0 ≤ x1.1 then ((Mo_ringOf a1 x1.1 x1.2).bind fun x3 => if x3 ≤ 0 then (bif q_in ((1583 : Int32) + a1) 1644 then (some ((x1.1, (q_si x1.2 31 0 7 ((1583 : Int32) + a1).toNatClampNeg x1.1)))) else none) else ((Mo_refuse (12 : Int32) x1.2).bind fun x6 => some ((x6.1, x6.2)))) else (some (((-1 : Int32), x1.2)))
set_option maxRecDepth 100000 in
set_option maxHeartbeats 4000000 in
theorem eMo_await {d : Nat} (hd : 6 ≤ d) {a1 : Int32} {a2 : Int32} {h : q_H} {r : (Int32 × q_H)} (HF : Mo_await a1 a2 h = some r) : q_T d 299 [.inr (.inr (30, 7, 0)), .inl a1, .inl a2] h (some (.inl r.1), r.2) := by
  obtain ⟨d, rfl⟩ : ∃ d', d = d' + 1 := ⟨d - 1, by omega⟩
  refine q_ent q_K299 rfl rfl rfl ?_
  unfold Mo_await at HF
  obtain ⟨x1, hx2, HF⟩ := q_bind HF
  refine q_cll (m' := 297) (av := [.inr (.inr (30, 7, 0)), .inl a1, .inl a2]) (st' := []) (pc' := 6) (loc' := [some (.inr (.inr (30, 7, 0))), some (.inl a1), some (.inl a2), none]) (h' := h) 4 (fun _ _ => rfl) (eMo_enderFor (by omega) hx2) ?_
  refine q_br (P := 0 ≤ x1.1) (pcT := 13) (pcF := 11) (loc' := [some (.inr (.inr (30, 7, 0))), some (.inl a1), some (.inl a2), some (.inl x1.1)]) (stk' := []) (h' := x1.2) 3 (fun _ _ => rfl) (fun c9 => ?_) (fun c9 => ?_)
  · rw [if_pos c9] at HF
    obtain ⟨x3, hx4, HF⟩ := q_bind HF
    refine q_cll (m' := 298) (av := [.inr (.inr (30, 7, 0)), .inl a1, .inl x1.1]) (st' := []) (pc' := 19) (loc' := [some (.inr (.inr (30, 7, 0))), some (.inl a1), some (.inl a2), some (.inl x1.1)]) (h' := x1.2) 4 (fun _ _ => rfl) (eMo_ringOf (by omega) hx4) ?_
    refine q_br (P := x3 ≤ 0) (pcT := 29) (pcF := 22) (loc' := [some (.inr (.inr (30, 7, 0))), some (.inl a1), some (.inl a2), some (.inl x1.1)]) (stk' := []) (h' := x1.2) 1 (fun _ _ => rfl) (fun c8 => ?_) (fun c8 => ?_)
    · rw [if_pos c8] at HF
      obtain ⟨g5, HF⟩ := q_gF HF
      refine q_gd (pc' := 40) (loc' := [some (.inr (.inr (30, 7, 0))), some (.inl a1), some (.inl a2), some (.inl x1.1)]) (stk' := []) (h' := (q_si x1.2 31 0 7 ((1583 : Int32) + a1).toNatClampNeg x1.1)) 7 (fun _ _ => rfl) g5 ?_
      have hz := Option.some.inj HF
      subst hz
      exact q_rtn 2 (fun _ _ => rfl)
    · rw [if_neg c8] at HF
      obtain ⟨x6, hx7, HF⟩ := q_bind HF
      refine q_cll (m' := 182) (av := [.inr (.inr (30, 7, 0)), .inl (12 : Int32)]) (st' := []) (pc' := 28) (loc' := [some (.inr (.inr (30, 7, 0))), some (.inl a1), some (.inl a2), some (.inl x1.1)]) (h' := x1.2) 3 (fun _ _ => rfl) (eMo_refuse (by omega) hx7) ?_
      have hz := Option.some.inj HF
      subst hz
      exact q_rtn 1 (fun _ _ => rfl)
  · rw [if_neg c9] at HF
    have hz := Option.some.inj HF
    subst hz
    exact q_rtn 2 (fun _ _ => rfl)
def Mo_ring (a1 : Int32) (a2 : Int32) (h : q_H) : Option (Int32 × q_H) :=
  (Mo_enderFor a1 a2 h).bind fun x1 => if 0 ≤ x1.1 then ((Mo_ringOf a1 x1.1 x1.2).bind fun x3 => some ((x3, x1.2))) else (some (((-1 : Int32), x1.2)))
set_option maxRecDepth 100000 in
set_option maxHeartbeats 4000000 in
theorem eMo_ring {d : Nat} (hd : 6 ≤ d) {a1 : Int32} {a2 : Int32} {h : q_H} {r : (Int32 × q_H)} (HF : Mo_ring a1 a2 h = some r) : q_T d 300 [.inr (.inr (30, 7, 0)), .inl a1, .inl a2] h (some (.inl r.1), r.2) := by
  obtain ⟨d, rfl⟩ : ∃ d', d = d' + 1 := ⟨d - 1, by omega⟩
  refine q_ent q_K300 rfl rfl rfl ?_
  unfold Mo_ring at HF
  obtain ⟨x1, hx2, HF⟩ := q_bind HF
  refine q_cll (m' := 297) (av := [.inr (.inr (30, 7, 0)), .inl a1, .inl a2]) (st' := []) (pc' := 6) (loc' := [some (.inr (.inr (30, 7, 0))), some (.inl a1), some (.inl a2), none]) (h' := h) 4 (fun _ _ => rfl) (eMo_enderFor (by omega) hx2) ?_
  refine q_br (P := 0 ≤ x1.1) (pcT := 15) (pcF := 11) (loc' := [some (.inr (.inr (30, 7, 0))), some (.inl a1), some (.inl a2), some (.inl x1.1)]) (stk' := []) (h' := x1.2) 3 (fun _ _ => rfl) (fun c5 => ?_) (fun c5 => ?_)
  · rw [if_pos c5] at HF
    obtain ⟨x3, hx4, HF⟩ := q_bind HF
    refine q_cll (m' := 298) (av := [.inr (.inr (30, 7, 0)), .inl a1, .inl x1.1]) (st' := []) (pc' := 21) (loc' := [some (.inr (.inr (30, 7, 0))), some (.inl a1), some (.inl a2), some (.inl x1.1)]) (h' := x1.2) 4 (fun _ _ => rfl) (eMo_ringOf (by omega) hx4) ?_
    have hz := Option.some.inj HF
    subst hz
    exact q_rtn 1 (fun _ _ => rfl)
  · rw [if_neg c5] at HF
    have hz := Option.some.inj HF
    subst hz
    exact q_rtn 3 (fun _ _ => rfl)
def Mo_holds (a1 : Int32) (h : q_H) : Option (Int32 × q_H) :=
  (Mo_asksOpen a1 h).bind fun x1 => if ¬ x1.1 = 0 then ((Mo_allDead x1.2).bind fun x3 => bif q_in ((1052 : Int32) + ((3 : Int32) * a1)) 1644 then ((Mo_allDead (q_si x1.2 31 0 7 ((1052 : Int32) + ((3 : Int32) * a1)).toNatClampNeg (1 : Int32))).bind fun x5 => bif q_in ((1052 : Int32) + ((3 : Int32) * a1)) 1644 then (some (((x5 - x3), (q_si (q_si x1.2 31 0 7 ((1052 : Int32) + ((3 : Int32) * a1)).toNatClampNeg (1 : Int32)) 31 0 7 ((1052 : Int32) + ((3 : Int32) * a1)).toNatClampNeg (0 : Int32))))) else none) else none) else (some (((-1 : Int32), x1.2)))
set_option maxRecDepth 100000 in
set_option maxHeartbeats 4000000 in
theorem eMo_holds {d : Nat} (hd : 6 ≤ d) {a1 : Int32} {h : q_H} {r : (Int32 × q_H)} (HF : Mo_holds a1 h = some r) : q_T d 304 [.inr (.inr (30, 7, 0)), .inl a1] h (some (.inl r.1), r.2) := by
  obtain ⟨d, rfl⟩ : ∃ d', d = d' + 1 := ⟨d - 1, by omega⟩
  refine q_ent q_K304 rfl rfl rfl ?_
  unfold Mo_holds at HF
  obtain ⟨x1, hx2, HF⟩ := q_bind HF
  refine q_cll (m' := 295) (av := [.inr (.inr (30, 7, 0)), .inl a1]) (st' := []) (pc' := 5) (loc' := [some (.inr (.inr (30, 7, 0))), some (.inl a1), none, none]) (h' := h) 3 (fun _ _ => rfl) (eMo_asksOpen (by omega) hx2) ?_
  refine q_br (P := ¬ x1.1 = 0) (pcT := 10) (pcF := 8) (loc' := [some (.inr (.inr (30, 7, 0))), some (.inl a1), none, none]) (stk' := []) (h' := x1.2) 1 (fun _ _ => rfl) (fun c9 => ?_) (fun c9 => ?_)
  · rw [if_pos c9] at HF
    obtain ⟨x3, hx4, HF⟩ := q_bind HF
    refine q_cll (m' := 303) (av := [.inr (.inr (30, 7, 0))]) (st' := []) (pc' := 14) (loc' := [some (.inr (.inr (30, 7, 0))), some (.inl a1), none, none]) (h' := x1.2) 2 (fun _ _ => rfl) (eMo_allDead (by omega) hx4) ?_
    obtain ⟨g8, HF⟩ := q_gF HF
    refine q_gd (pc' := 28) (loc' := [some (.inr (.inr (30, 7, 0))), some (.inl a1), some (.inl x3), none]) (stk' := []) (h' := (q_si x1.2 31 0 7 ((1052 : Int32) + ((3 : Int32) * a1)).toNatClampNeg (1 : Int32))) 10 (fun _ _ => rfl) g8 ?_
    obtain ⟨x5, hx6, HF⟩ := q_bind HF
    refine q_cll (m' := 303) (av := [.inr (.inr (30, 7, 0))]) (st' := []) (pc' := 32) (loc' := [some (.inr (.inr (30, 7, 0))), some (.inl a1), some (.inl x3), none]) (h' := (q_si x1.2 31 0 7 ((1052 : Int32) + ((3 : Int32) * a1)).toNatClampNeg (1 : Int32))) 2 (fun _ _ => rfl) (eMo_allDead (by omega) hx6) ?_
    obtain ⟨g7, HF⟩ := q_gF HF
    refine q_gd (pc' := 46) (loc' := [some (.inr (.inr (30, 7, 0))), some (.inl a1), some (.inl x3), some (.inl x5)]) (stk' := []) (h' := (q_si (q_si x1.2 31 0 7 ((1052 : Int32) + ((3 : Int32) * a1)).toNatClampNeg (1 : Int32)) 31 0 7 ((1052 : Int32) + ((3 : Int32) * a1)).toNatClampNeg (0 : Int32))) 10 (fun _ _ => rfl) g7 ?_
    have hz := Option.some.inj HF
    subst hz
    exact q_rtn 4 (fun _ _ => rfl)
  · rw [if_neg c9] at HF
    have hz := Option.some.inj HF
    subst hz
    exact q_rtn 2 (fun _ _ => rfl)
