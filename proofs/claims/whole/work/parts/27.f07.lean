def Mo_reads  (h : q_H) : Option q_H :=
  (q_lp (fun s1 : q_H => (if (s1.1 30 21 7 0) ≤ (s1.1 30 17 7 0) then (some (.inr (s1))) else (bif q_in (s1.1 30 17 7 0) 700 then (if (s1.1 38 0 7 (s1.1 30 17 7 0).toNatClampNeg) = (10 : Int32) then (some (.inl (q_si s1 30 17 7 0 ((s1.1 30 17 7 0) + (1 : Int32))))) else (bif q_in (s1.1 30 17 7 0) 700 then (if ¬ (s1.1 38 0 7 (s1.1 30 17 7 0).toNatClampNeg) = (32 : Int32) then (some (.inr (s1))) else (some (.inl (q_si s1 30 17 7 0 ((s1.1 30 17 7 0) + (1 : Int32)))))) else none)) else none) : Option ((q_H) ⊕ (q_H)))) q_fu ((q_si h 30 17 7 0 (h.1 30 18 7 0)) : q_H)).bind fun p14 => Option.bind (α := Int32) (if ((q_si p14 30 18 7 0 ((p14.1 30 17 7 0) + (1 : Int32))).1 30 17 7 0) < ((q_si p14 30 18 7 0 ((p14.1 30 17 7 0) + (1 : Int32))).1 30 21 7 0) then (bif q_in ((q_si p14 30 18 7 0 ((p14.1 30 17 7 0) + (1 : Int32))).1 30 17 7 0) 700 then (if ¬ ((q_si p14 30 18 7 0 ((p14.1 30 17 7 0) + (1 : Int32))).1 38 0 7 ((q_si p14 30 18 7 0 ((p14.1 30 17 7 0) + (1 : Int32))).1 30 17 7 0).toNatClampNeg) = (59 : Int32) then (some ((4 : Int32))) else (some ((3 : Int32)))) else none) else (some ((0 : Int32)))) (fun p22 => (Mo_isOf ((q_si (q_si p14 30 18 7 0 ((p14.1 30 17 7 0) + (1 : Int32))) 30 19 7 0 p22).1 30 17 7 0) (97 : Int32) (122 : Int32) (q_si (q_si p14 30 18 7 0 ((p14.1 30 17 7 0) + (1 : Int32))) 30 19 7 0 p22)).bind fun x23 => if x23 = 0 then ((Mo_isOf ((q_si (q_si p14 30 18 7 0 ((p14.1 30 17 7 0) + (1 : Int32))) 30 19 7 0 p22).1 30 17 7 0) (48 : Int32) (57 : Int32) (q_si (q_si p14 30 18 7 0 ((p14.1 30 17 7 0) + (1 : Int32))) 30 19 7 0 p22)).bind fun x25 => if x25 = 0 then (some ((q_si (q_si p14 30 18 7 0 ((p14.1 30 17 7 0) + (1 : Int32))) 30 19 7 0 p22))) else ((some (q_si (q_si (q_si (q_si p14 30 18 7 0 ((p14.1 30 17 7 0) + (1 : Int32))) 30 19 7 0 p22) 30 20 7 0 (0 : Int32)) 30 18 7 0 ((q_si (q_si (q_si p14 30 18 7 0 ((p14.1 30 17 7 0) + (1 : Int32))) 30 19 7 0 p22) 30 20 7 0 (0 : Int32)).1 30 17 7 0))).bind fun h27 => (q_lp (fun s29 : q_H => ((Mo_isOf (s29.1 30 18 7 0) (48 : Int32) (57 : Int32) s29).bind fun x37 => if x37 = 0 then (some (.inr (s29))) else (Option.bind (α := Int32) (if (3 : Int32) ≤ ((s29.1 30 18 7 0) - (s29.1 30 17 7 0)) then (some ((s29.1 30 20 7 0))) else (bif q_in (s29.1 30 18 7 0) 700 then (some (((((10 : Int32) * (s29.1 30 20 7 0)) + (s29.1 38 0 7 (s29.1 30 18 7 0).toNatClampNeg)) - (48 : Int32)))) else none)) (fun p45 => some (.inl (q_si (q_si s29 30 20 7 0 p45) 30 18 7 0 (((q_si s29 30 20 7 0 p45).1 30 18 7 0) + (1 : Int32)))))) : Option ((q_H) ⊕ (q_H)))) q_fu (h27 : q_H)).bind fun p48 => if ((p48.1 30 18 7 0) - (p48.1 30 17 7 0)) ≤ (3 : Int32) then (some ((q_si p48 30 19 7 0 (2 : Int32)))) else (some ((q_si p48 30 19 7 0 (4 : Int32)))))) else ((some (q_si (q_sl (q_si (q_si (q_si p14 30 18 7 0 ((p14.1 30 17 7 0) + (1 : Int32))) 30 19 7 0 p22) 30 19 7 0 (1 : Int32)) 30 22 7 0 (0 : Int64)) 30 18 7 0 ((q_sl (q_si (q_si (q_si p14 30 18 7 0 ((p14.1 30 17 7 0) + (1 : Int32))) 30 19 7 0 p22) 30 19 7 0 (1 : Int32)) 30 22 7 0 (0 : Int64)).1 30 17 7 0))).bind fun h51 => (q_lp (fun s53 : q_H => ((Mo_isOf (s53.1 30 18 7 0) (97 : Int32) (122 : Int32) s53).bind fun x61 => if x61 = 0 then (some (.inr (s53))) else (Option.bind (α := Int64) (if (8 : Int32) ≤ ((s53.1 30 18 7 0) - (s53.1 30 17 7 0)) then (some ((s53.2 30 22 7 0))) else (bif q_in (s53.1 30 18 7 0) 700 then (some (((((27 : Int64) * (s53.2 30 22 7 0)) + ((s53.1 38 0 7 (s53.1 30 18 7 0).toNatClampNeg)).toInt64) - (96 : Int64)))) else none)) (fun p69 => some (.inl (q_si (q_sl s53 30 22 7 0 p69) 30 18 7 0 (((q_sl s53 30 22 7 0 p69).1 30 18 7 0) + (1 : Int32)))))) : Option ((q_H) ⊕ q_H))) q_fu (h51 : q_H)).bind fun z60 => some z60))
set_option maxRecDepth 100000 in
set_option maxHeartbeats 4000000 in
theorem eMo_reads {d : Nat} (hd : 3 ≤ d)  {h : q_H} {r : q_H} (HF : Mo_reads  h = some r) : q_T d 252 [.inr (.inr (30, 7, 0))] h (none, r) := by
  obtain ⟨d, rfl⟩ : ∃ d', d = d' + 1 := ⟨d - 1, by omega⟩
  refine q_ent q_K252 rfl rfl rfl ?_
  unfold Mo_reads at HF
  refine q_blk (pc' := 8) (loc' := [some (.inr (.inr (30, 7, 0)))]) (stk' := []) (h' := (q_si h 30 17 7 0 (h.1 30 18 7 0))) 4 (fun _ _ => rfl) ?_
  obtain ⟨r6, hl7, HK4⟩ := q_bind HF
  have hP5 : ∀ p14 : q_H, (Option.bind (α := Int32) (if ((q_si p14 30 18 7 0 ((p14.1 30 17 7 0) + (1 : Int32))).1 30 17 7 0) < ((q_si p14 30 18 7 0 ((p14.1 30 17 7 0) + (1 : Int32))).1 30 21 7 0) then (bif q_in ((q_si p14 30 18 7 0 ((p14.1 30 17 7 0) + (1 : Int32))).1 30 17 7 0) 700 then (if ¬ ((q_si p14 30 18 7 0 ((p14.1 30 17 7 0) + (1 : Int32))).1 38 0 7 ((q_si p14 30 18 7 0 ((p14.1 30 17 7 0) + (1 : Int32))).1 30 17 7 0).toNatClampNeg) = (59 : Int32) then (some ((4 : Int32))) else (some ((3 : Int32)))) else none) else (some ((0 : Int32)))) (fun p22 => (Mo_isOf ((q_si (q_si p14 30 18 7 0 ((p14.1 30 17 7 0) + (1 : Int32))) 30 19 7 0 p22).1 30 17 7 0) (97 : Int32) (122 : Int32) (q_si (q_si p14 30 18 7 0 ((p14.1 30 17 7 0) + (1 : Int32))) 30 19 7 0 p22)).bind fun x23 => if x23 = 0 then ((Mo_isOf ((q_si (q_si p14 30 18 7 0 ((p14.1 30 17 7 0) + (1 : Int32))) 30 19 7 0 p22).1 30 17 7 0) (48 : Int32) (57 : Int32) (q_si (q_si p14 30 18 7 0 ((p14.1 30 17 7 0) + (1 : Int32))) 30 19 7 0 p22)).bind fun x25 => if x25 = 0 then (some ((q_si (q_si p14 30 18 7 0 ((p14.1 30 17 7 0) + (1 : Int32))) 30 19 7 0 p22))) else ((some (q_si (q_si (q_si (q_si p14 30 18 7 0 ((p14.1 30 17 7 0) + (1 : Int32))) 30 19 7 0 p22) 30 20 7 0 (0 : Int32)) 30 18 7 0 ((q_si (q_si (q_si p14 30 18 7 0 ((p14.1 30 17 7 0) + (1 : Int32))) 30 19 7 0 p22) 30 20 7 0 (0 : Int32)).1 30 17 7 0))).bind fun h27 => (q_lp (fun s29 : q_H => ((Mo_isOf (s29.1 30 18 7 0) (48 : Int32) (57 : Int32) s29).bind fun x37 => if x37 = 0 then (some (.inr (s29))) else (Option.bind (α := Int32) (if (3 : Int32) ≤ ((s29.1 30 18 7 0) - (s29.1 30 17 7 0)) then (some ((s29.1 30 20 7 0))) else (bif q_in (s29.1 30 18 7 0) 700 then (some (((((10 : Int32) * (s29.1 30 20 7 0)) + (s29.1 38 0 7 (s29.1 30 18 7 0).toNatClampNeg)) - (48 : Int32)))) else none)) (fun p45 => some (.inl (q_si (q_si s29 30 20 7 0 p45) 30 18 7 0 (((q_si s29 30 20 7 0 p45).1 30 18 7 0) + (1 : Int32)))))) : Option ((q_H) ⊕ (q_H)))) q_fu (h27 : q_H)).bind fun p48 => if ((p48.1 30 18 7 0) - (p48.1 30 17 7 0)) ≤ (3 : Int32) then (some ((q_si p48 30 19 7 0 (2 : Int32)))) else (some ((q_si p48 30 19 7 0 (4 : Int32)))))) else ((some (q_si (q_sl (q_si (q_si (q_si p14 30 18 7 0 ((p14.1 30 17 7 0) + (1 : Int32))) 30 19 7 0 p22) 30 19 7 0 (1 : Int32)) 30 22 7 0 (0 : Int64)) 30 18 7 0 ((q_sl (q_si (q_si (q_si p14 30 18 7 0 ((p14.1 30 17 7 0) + (1 : Int32))) 30 19 7 0 p22) 30 19 7 0 (1 : Int32)) 30 22 7 0 (0 : Int64)).1 30 17 7 0))).bind fun h51 => (q_lp (fun s53 : q_H => ((Mo_isOf (s53.1 30 18 7 0) (97 : Int32) (122 : Int32) s53).bind fun x61 => if x61 = 0 then (some (.inr (s53))) else (Option.bind (α := Int64) (if (8 : Int32) ≤ ((s53.1 30 18 7 0) - (s53.1 30 17 7 0)) then (some ((s53.2 30 22 7 0))) else (bif q_in (s53.1 30 18 7 0) 700 then (some (((((27 : Int64) * (s53.2 30 22 7 0)) + ((s53.1 38 0 7 (s53.1 30 18 7 0).toNatClampNeg)).toInt64) - (96 : Int64)))) else none)) (fun p69 => some (.inl (q_si (q_sl s53 30 22 7 0 p69) 30 18 7 0 (((q_sl s53 30 22 7 0 p69).1 30 18 7 0) + (1 : Int32)))))) : Option ((q_H) ⊕ q_H))) q_fu (h51 : q_H)).bind fun z60 => some z60)) : Option q_H) = some r → q_E d q_K252 60 [some (.inr (.inr (30, 7, 0)))] [] p14 (none, r) := by
    intro p14 HF
    obtain ⟨z15, HA16, HK17⟩ := q_bind HF
    have hP18 : ∀ p22 : Int32, ((Mo_isOf ((q_si (q_si p14 30 18 7 0 ((p14.1 30 17 7 0) + (1 : Int32))) 30 19 7 0 p22).1 30 17 7 0) (97 : Int32) (122 : Int32) (q_si (q_si p14 30 18 7 0 ((p14.1 30 17 7 0) + (1 : Int32))) 30 19 7 0 p22)).bind fun x23 => if x23 = 0 then ((Mo_isOf ((q_si (q_si p14 30 18 7 0 ((p14.1 30 17 7 0) + (1 : Int32))) 30 19 7 0 p22).1 30 17 7 0) (48 : Int32) (57 : Int32) (q_si (q_si p14 30 18 7 0 ((p14.1 30 17 7 0) + (1 : Int32))) 30 19 7 0 p22)).bind fun x25 => if x25 = 0 then (some ((q_si (q_si p14 30 18 7 0 ((p14.1 30 17 7 0) + (1 : Int32))) 30 19 7 0 p22))) else ((some (q_si (q_si (q_si (q_si p14 30 18 7 0 ((p14.1 30 17 7 0) + (1 : Int32))) 30 19 7 0 p22) 30 20 7 0 (0 : Int32)) 30 18 7 0 ((q_si (q_si (q_si p14 30 18 7 0 ((p14.1 30 17 7 0) + (1 : Int32))) 30 19 7 0 p22) 30 20 7 0 (0 : Int32)).1 30 17 7 0))).bind fun h27 => (q_lp (fun s29 : q_H => ((Mo_isOf (s29.1 30 18 7 0) (48 : Int32) (57 : Int32) s29).bind fun x37 => if x37 = 0 then (some (.inr (s29))) else (Option.bind (α := Int32) (if (3 : Int32) ≤ ((s29.1 30 18 7 0) - (s29.1 30 17 7 0)) then (some ((s29.1 30 20 7 0))) else (bif q_in (s29.1 30 18 7 0) 700 then (some (((((10 : Int32) * (s29.1 30 20 7 0)) + (s29.1 38 0 7 (s29.1 30 18 7 0).toNatClampNeg)) - (48 : Int32)))) else none)) (fun p45 => some (.inl (q_si (q_si s29 30 20 7 0 p45) 30 18 7 0 (((q_si s29 30 20 7 0 p45).1 30 18 7 0) + (1 : Int32)))))) : Option ((q_H) ⊕ (q_H)))) q_fu (h27 : q_H)).bind fun p48 => if ((p48.1 30 18 7 0) - (p48.1 30 17 7 0)) ≤ (3 : Int32) then (some ((q_si p48 30 19 7 0 (2 : Int32)))) else (some ((q_si p48 30 19 7 0 (4 : Int32)))))) else ((some (q_si (q_sl (q_si (q_si (q_si p14 30 18 7 0 ((p14.1 30 17 7 0) + (1 : Int32))) 30 19 7 0 p22) 30 19 7 0 (1 : Int32)) 30 22 7 0 (0 : Int64)) 30 18 7 0 ((q_sl (q_si (q_si (q_si p14 30 18 7 0 ((p14.1 30 17 7 0) + (1 : Int32))) 30 19 7 0 p22) 30 19 7 0 (1 : Int32)) 30 22 7 0 (0 : Int64)).1 30 17 7 0))).bind fun h51 => (q_lp (fun s53 : q_H => ((Mo_isOf (s53.1 30 18 7 0) (97 : Int32) (122 : Int32) s53).bind fun x61 => if x61 = 0 then (some (.inr (s53))) else (Option.bind (α := Int64) (if (8 : Int32) ≤ ((s53.1 30 18 7 0) - (s53.1 30 17 7 0)) then (some ((s53.2 30 22 7 0))) else (bif q_in (s53.1 30 18 7 0) 700 then (some (((((27 : Int64) * (s53.2 30 22 7 0)) + ((s53.1 38 0 7 (s53.1 30 18 7 0).toNatClampNeg)).toInt64) - (96 : Int64)))) else none)) (fun p69 => some (.inl (q_si (q_sl s53 30 22 7 0 p69) 30 18 7 0 (((q_sl s53 30 22 7 0 p69).1 30 18 7 0) + (1 : Int32)))))) : Option ((q_H) ⊕ q_H))) q_fu (h51 : q_H)).bind fun z60 => some z60) : Option q_H) = some r → q_E d q_K252 105 [some (.inr (.inr (30, 7, 0)))] [.inl p22, .inr (.inr (30, 7, 0))] (q_si p14 30 18 7 0 ((p14.1 30 17 7 0) + (1 : Int32))) (none, r) := by
      intro p22 HF
      obtain ⟨x23, hx24, HF⟩ := q_bind HF
      refine q_cll (m' := 251) (av := [.inr (.inr (30, 7, 0)), .inl ((q_si (q_si p14 30 18 7 0 ((p14.1 30 17 7 0) + (1 : Int32))) 30 19 7 0 p22).1 30 17 7 0), .inl (97 : Int32), .inl (122 : Int32)]) (st' := []) (pc' := 120) (loc' := [some (.inr (.inr (30, 7, 0)))]) (h' := (q_si (q_si p14 30 18 7 0 ((p14.1 30 17 7 0) + (1 : Int32))) 30 19 7 0 p22)) 7 (fun _ _ => rfl) (eMo_isOf (by omega) hx24) ?_
      refine q_br (P := x23 = 0) (pcT := 217) (pcF := 123) (loc' := [some (.inr (.inr (30, 7, 0)))]) (stk' := []) (h' := (q_si (q_si p14 30 18 7 0 ((p14.1 30 17 7 0) + (1 : Int32))) 30 19 7 0 p22)) 1 (fun _ _ => rfl) (fun c72 => ?_) (fun c72 => ?_)
      · rw [if_pos c72] at HF
        obtain ⟨x25, hx26, HF⟩ := q_bind HF
        refine q_cll (m' := 251) (av := [.inr (.inr (30, 7, 0)), .inl ((q_si (q_si p14 30 18 7 0 ((p14.1 30 17 7 0) + (1 : Int32))) 30 19 7 0 p22).1 30 17 7 0), .inl (48 : Int32), .inl (57 : Int32)]) (st' := []) (pc' := 229) (loc' := [some (.inr (.inr (30, 7, 0)))]) (h' := (q_si (q_si p14 30 18 7 0 ((p14.1 30 17 7 0) + (1 : Int32))) 30 19 7 0 p22)) 6 (fun _ _ => rfl) (eMo_isOf (by omega) hx26) ?_
        refine q_br (P := x25 = 0) (pcT := 339) (pcF := 232) (loc' := [some (.inr (.inr (30, 7, 0)))]) (stk' := []) (h' := (q_si (q_si p14 30 18 7 0 ((p14.1 30 17 7 0) + (1 : Int32))) 30 19 7 0 p22)) 1 (fun _ _ => rfl) (fun c50 => ?_) (fun c50 => ?_)
        · rw [if_pos c50] at HF
          have hz := Option.some.inj HF
          subst hz
          exact q_rtn 1 (fun _ _ => rfl)
        · rw [if_neg c50] at HF
          obtain ⟨h27, e28, HF⟩ := q_bind HF
          refine q_blk (pc' := 245) (loc' := [some (.inr (.inr (30, 7, 0)))]) (stk' := []) (h' := (q_si (q_si (q_si (q_si p14 30 18 7 0 ((p14.1 30 17 7 0) + (1 : Int32))) 30 19 7 0 p22) 30 20 7 0 (0 : Int32)) 30 18 7 0 ((q_si (q_si (q_si p14 30 18 7 0 ((p14.1 30 17 7 0) + (1 : Int32))) 30 19 7 0 p22) 30 20 7 0 (0 : Int32)).1 30 17 7 0))) 7 (fun _ _ => rfl) ?_
          rw [Option.some.inj e28]
          obtain ⟨r34, hl35, HK32⟩ := q_bind HF
          have hP33 : ∀ p48 : q_H, (if ((p48.1 30 18 7 0) - (p48.1 30 17 7 0)) ≤ (3 : Int32) then (some ((q_si p48 30 19 7 0 (2 : Int32)))) else (some ((q_si p48 30 19 7 0 (4 : Int32)))) : Option q_H) = some r → q_E d q_K252 317 [some (.inr (.inr (30, 7, 0)))] [] p48 (none, r) := by
            intro p48 HF
            refine q_br (P := ((p48.1 30 18 7 0) - (p48.1 30 17 7 0)) ≤ (3 : Int32)) (pcT := 335) (pcF := 331) (loc' := [some (.inr (.inr (30, 7, 0)))]) (stk' := [.inr (.inr (30, 7, 0))]) (h' := p48) 8 (fun _ _ => rfl) (fun c49 => ?_) (fun c49 => ?_)
            · rw [if_pos c49] at HF
              have hz := Option.some.inj HF
              subst hz
              exact q_rtn 3 (fun _ _ => rfl)
            · rw [if_neg c49] at HF
              have hz := Option.some.inj HF
              subst hz
              exact q_rtn 4 (fun _ _ => rfl)
          refine q_lpE (E := fun s29 => q_E d q_K252 245 [some (.inr (.inr (30, 7, 0)))] [] s29 (none, r)) r34 (fun s29 z36 HF H130 H231 => ?_) _ _ hl35
          obtain ⟨x37, hx38, HF⟩ := q_bind HF
          refine q_cll (m' := 251) (av := [.inr (.inr (30, 7, 0)), .inl (s29.1 30 18 7 0), .inl (48 : Int32), .inl (57 : Int32)]) (st' := []) (pc' := 257) (loc' := [some (.inr (.inr (30, 7, 0)))]) (h' := s29) 6 (fun _ _ => rfl) (eMo_isOf (by omega) hx38) ?_
          refine q_br (P := x37 = 0) (pcT := 317) (pcF := 260) (loc' := [some (.inr (.inr (30, 7, 0)))]) (stk' := []) (h' := s29) 1 (fun _ _ => rfl) (fun c47 => ?_) (fun c47 => ?_)
          · rw [if_pos c47] at HF
            have hz := Option.some.inj HF
            subst hz
            rw [← H231 _ rfl] at HK32
            exact hP33 (s29) HK32
          · rw [if_neg c47] at HF
            obtain ⟨z39, HA40, HK41⟩ := q_bind HF
            have hP42 : ∀ p45 : Int32, (some (.inl (q_si (q_si s29 30 20 7 0 p45) 30 18 7 0 (((q_si s29 30 20 7 0 p45).1 30 18 7 0) + (1 : Int32)))) : Option ((q_H) ⊕ (q_H))) = some z36 → q_E d q_K252 301 [some (.inr (.inr (30, 7, 0)))] [.inl p45, .inr (.inr (30, 7, 0))] s29 (none, r) := by
              intro p45 HF
              refine q_blk (pc' := 245) (loc' := [some (.inr (.inr (30, 7, 0)))]) (stk' := []) (h' := (q_si (q_si s29 30 20 7 0 p45) 30 18 7 0 (((q_si s29 30 20 7 0 p45).1 30 18 7 0) + (1 : Int32)))) 8 (fun _ _ => rfl) ?_
              have hz := Option.some.inj HF
              subst hz
              exact H130 (q_si (q_si s29 30 20 7 0 p45) 30 18 7 0 (((q_si s29 30 20 7 0 p45).1 30 18 7 0) + (1 : Int32))) rfl
            replace HF := HA40
            refine q_br (P := (3 : Int32) ≤ ((s29.1 30 18 7 0) - (s29.1 30 17 7 0))) (pcT := 297) (pcF := 274) (loc' := [some (.inr (.inr (30, 7, 0)))]) (stk' := [.inr (.inr (30, 7, 0))]) (h' := s29) 8 (fun _ _ => rfl) (fun c44 => ?_) (fun c44 => ?_)
            · rw [if_pos c44] at HF
              refine q_blk (pc' := 301) (loc' := [some (.inr (.inr (30, 7, 0)))]) (stk' := [.inl (s29.1 30 20 7 0), .inr (.inr (30, 7, 0))]) (h' := s29) 2 (fun _ _ => rfl) ?_
              have hz := Option.some.inj HF
              subst hz
              exact hP42 (s29.1 30 20 7 0) HK41
            · rw [if_neg c44] at HF
              obtain ⟨g43, HF⟩ := q_gF HF
              refine q_gd (pc' := 290) (loc' := [some (.inr (.inr (30, 7, 0)))]) (stk' := [.inl (s29.1 38 0 7 (s29.1 30 18 7 0).toNatClampNeg), .inl ((10 : Int32) * (s29.1 30 20 7 0)), .inr (.inr (30, 7, 0))]) (h' := s29) 9 (fun _ _ => rfl) g43 ?_
              refine q_blk (pc' := 301) (loc' := [some (.inr (.inr (30, 7, 0)))]) (stk' := [.inl ((((10 : Int32) * (s29.1 30 20 7 0)) + (s29.1 38 0 7 (s29.1 30 18 7 0).toNatClampNeg)) - (48 : Int32)), .inr (.inr (30, 7, 0))]) (h' := s29) 4 (fun _ _ => rfl) ?_
              have hz := Option.some.inj HF
              subst hz
              exact hP42 ((((10 : Int32) * (s29.1 30 20 7 0)) + (s29.1 38 0 7 (s29.1 30 18 7 0).toNatClampNeg)) - (48 : Int32)) HK41
      · rw [if_neg c72] at HF
        obtain ⟨h51, e52, HF⟩ := q_bind HF
        refine q_blk (pc' := 141) (loc' := [some (.inr (.inr (30, 7, 0)))]) (stk' := []) (h' := (q_si (q_sl (q_si (q_si (q_si p14 30 18 7 0 ((p14.1 30 17 7 0) + (1 : Int32))) 30 19 7 0 p22) 30 19 7 0 (1 : Int32)) 30 22 7 0 (0 : Int64)) 30 18 7 0 ((q_sl (q_si (q_si (q_si p14 30 18 7 0 ((p14.1 30 17 7 0) + (1 : Int32))) 30 19 7 0 p22) 30 19 7 0 (1 : Int32)) 30 22 7 0 (0 : Int64)).1 30 17 7 0))) 10 (fun _ _ => rfl) ?_
        rw [Option.some.inj e52]
        obtain ⟨r58, hl59, HK56⟩ := q_bind HF
        refine q_lpE (E := fun s53 => q_E d q_K252 141 [some (.inr (.inr (30, 7, 0)))] [] s53 (none, r)) r58 (fun s53 z60 HF H154 H255 => ?_) _ _ hl59
        obtain ⟨x61, hx62, HF⟩ := q_bind HF
        refine q_cll (m' := 251) (av := [.inr (.inr (30, 7, 0)), .inl (s53.1 30 18 7 0), .inl (97 : Int32), .inl (122 : Int32)]) (st' := []) (pc' := 153) (loc' := [some (.inr (.inr (30, 7, 0)))]) (h' := s53) 6 (fun _ _ => rfl) (eMo_isOf (by omega) hx62) ?_
        refine q_br (P := x61 = 0) (pcT := 339) (pcF := 156) (loc' := [some (.inr (.inr (30, 7, 0)))]) (stk' := []) (h' := s53) 1 (fun _ _ => rfl) (fun c71 => ?_) (fun c71 => ?_)
        · rw [if_pos c71] at HF
          have hz := Option.some.inj HF
          subst hz
          replace HF := HK56
          rw [← H255 _ rfl] at HF
          have hz := Option.some.inj HF
          subst hz
          exact q_rtn 1 (fun _ _ => rfl)
        · rw [if_neg c71] at HF
          obtain ⟨z63, HA64, HK65⟩ := q_bind HF
          have hP66 : ∀ p69 : Int64, (some (.inl (q_si (q_sl s53 30 22 7 0 p69) 30 18 7 0 (((q_sl s53 30 22 7 0 p69).1 30 18 7 0) + (1 : Int32)))) : Option ((q_H) ⊕ q_H)) = some z60 → q_E d q_K252 201 [some (.inr (.inr (30, 7, 0)))] [.inr (.inl p69), .inr (.inr (30, 7, 0))] s53 (none, r) := by
            intro p69 HF
            refine q_blk (pc' := 141) (loc' := [some (.inr (.inr (30, 7, 0)))]) (stk' := []) (h' := (q_si (q_sl s53 30 22 7 0 p69) 30 18 7 0 (((q_sl s53 30 22 7 0 p69).1 30 18 7 0) + (1 : Int32)))) 8 (fun _ _ => rfl) ?_
            have hz := Option.some.inj HF
            subst hz
            exact H154 (q_si (q_sl s53 30 22 7 0 p69) 30 18 7 0 (((q_sl s53 30 22 7 0 p69).1 30 18 7 0) + (1 : Int32))) rfl
          replace HF := HA64
          refine q_br (P := (8 : Int32) ≤ ((s53.1 30 18 7 0) - (s53.1 30 17 7 0))) (pcT := 197) (pcF := 171) (loc' := [some (.inr (.inr (30, 7, 0)))]) (stk' := [.inr (.inr (30, 7, 0))]) (h' := s53) 8 (fun _ _ => rfl) (fun c68 => ?_) (fun c68 => ?_)
          · rw [if_pos c68] at HF
            refine q_blk (pc' := 201) (loc' := [some (.inr (.inr (30, 7, 0)))]) (stk' := [.inr (.inl (s53.2 30 22 7 0)), .inr (.inr (30, 7, 0))]) (h' := s53) 2 (fun _ _ => rfl) ?_
            have hz := Option.some.inj HF
            subst hz
            exact hP66 (s53.2 30 22 7 0) HK65
          · rw [if_neg c68] at HF
            obtain ⟨g67, HF⟩ := q_gF HF
            refine q_gd (pc' := 188) (loc' := [some (.inr (.inr (30, 7, 0)))]) (stk' := [.inl (s53.1 38 0 7 (s53.1 30 18 7 0).toNatClampNeg), .inr (.inl ((27 : Int64) * (s53.2 30 22 7 0))), .inr (.inr (30, 7, 0))]) (h' := s53) 9 (fun _ _ => rfl) g67 ?_
            refine q_blk (pc' := 201) (loc' := [some (.inr (.inr (30, 7, 0)))]) (stk' := [.inr (.inl ((((27 : Int64) * (s53.2 30 22 7 0)) + ((s53.1 38 0 7 (s53.1 30 18 7 0).toNatClampNeg)).toInt64) - (96 : Int64))), .inr (.inr (30, 7, 0))]) (h' := s53) 5 (fun _ _ => rfl) ?_
            have hz := Option.some.inj HF
            subst hz
            exact hP66 ((((27 : Int64) * (s53.2 30 22 7 0)) + ((s53.1 38 0 7 (s53.1 30 18 7 0).toNatClampNeg)).toInt64) - (96 : Int64)) HK65
    replace HF := HA16
    refine q_br (P := ((q_si p14 30 18 7 0 ((p14.1 30 17 7 0) + (1 : Int32))).1 30 17 7 0) < ((q_si p14 30 18 7 0 ((p14.1 30 17 7 0) + (1 : Int32))).1 30 21 7 0)) (pcT := 86) (pcF := 82) (loc' := [some (.inr (.inr (30, 7, 0)))]) (stk' := [.inr (.inr (30, 7, 0))]) (h' := (q_si p14 30 18 7 0 ((p14.1 30 17 7 0) + (1 : Int32)))) 12 (fun _ _ => rfl) (fun c21 => ?_) (fun c21 => ?_)
    · rw [if_pos c21] at HF
      obtain ⟨g20, HF⟩ := q_gF HF
      refine q_gd (pc' := 95) (loc' := [some (.inr (.inr (30, 7, 0)))]) (stk' := [.inl ((q_si p14 30 18 7 0 ((p14.1 30 17 7 0) + (1 : Int32))).1 38 0 7 ((q_si p14 30 18 7 0 ((p14.1 30 17 7 0) + (1 : Int32))).1 30 17 7 0).toNatClampNeg), .inr (.inr (30, 7, 0))]) (h' := (q_si p14 30 18 7 0 ((p14.1 30 17 7 0) + (1 : Int32)))) 5 (fun _ _ => rfl) g20 ?_
      refine q_br (P := ¬ ((q_si p14 30 18 7 0 ((p14.1 30 17 7 0) + (1 : Int32))).1 38 0 7 ((q_si p14 30 18 7 0 ((p14.1 30 17 7 0) + (1 : Int32))).1 30 17 7 0).toNatClampNeg) = (59 : Int32)) (pcT := 104) (pcF := 100) (loc' := [some (.inr (.inr (30, 7, 0)))]) (stk' := [.inr (.inr (30, 7, 0))]) (h' := (q_si p14 30 18 7 0 ((p14.1 30 17 7 0) + (1 : Int32)))) 2 (fun _ _ => rfl) (fun c19 => ?_) (fun c19 => ?_)
      · rw [if_pos c19] at HF
        refine q_blk (pc' := 105) (loc' := [some (.inr (.inr (30, 7, 0)))]) (stk' := [.inl (4 : Int32), .inr (.inr (30, 7, 0))]) (h' := (q_si p14 30 18 7 0 ((p14.1 30 17 7 0) + (1 : Int32)))) 1 (fun _ _ => rfl) ?_
        have hz := Option.some.inj HF
        subst hz
        exact hP18 (4 : Int32) HK17
      · rw [if_neg c19] at HF
        refine q_blk (pc' := 105) (loc' := [some (.inr (.inr (30, 7, 0)))]) (stk' := [.inl (3 : Int32), .inr (.inr (30, 7, 0))]) (h' := (q_si p14 30 18 7 0 ((p14.1 30 17 7 0) + (1 : Int32)))) 2 (fun _ _ => rfl) ?_
        have hz := Option.some.inj HF
        subst hz
        exact hP18 (3 : Int32) HK17
    · rw [if_neg c21] at HF
      refine q_blk (pc' := 105) (loc' := [some (.inr (.inr (30, 7, 0)))]) (stk' := [.inl (0 : Int32), .inr (.inr (30, 7, 0))]) (h' := (q_si p14 30 18 7 0 ((p14.1 30 17 7 0) + (1 : Int32)))) 2 (fun _ _ => rfl) ?_
      have hz := Option.some.inj HF
      subst hz
      exact hP18 (0 : Int32) HK17
  refine q_lpE (E := fun s1 => q_E d q_K252 8 [some (.inr (.inr (30, 7, 0)))] [] s1 (none, r)) r6 (fun s1 z8 HF H12 H23 => ?_) _ _ hl7
  refine q_br (P := (s1.1 30 21 7 0) ≤ (s1.1 30 17 7 0)) (pcT := 60) (pcF := 19) (loc' := [some (.inr (.inr (30, 7, 0)))]) (stk' := []) (h' := s1) 5 (fun _ _ => rfl) (fun c13 => ?_) (fun c13 => ?_)
  · rw [if_pos c13] at HF
    have hz := Option.some.inj HF
    subst hz
    rw [← H23 _ rfl] at HK4
    exact hP5 (s1) HK4
  · rw [if_neg c13] at HF
    obtain ⟨g12, HF⟩ := q_gF HF
    refine q_gd (pc' := 28) (loc' := [some (.inr (.inr (30, 7, 0)))]) (stk' := [.inl (s1.1 38 0 7 (s1.1 30 17 7 0).toNatClampNeg)]) (h' := s1) 5 (fun _ _ => rfl) g12 ?_
    refine q_br (P := (s1.1 38 0 7 (s1.1 30 17 7 0).toNatClampNeg) = (10 : Int32)) (pcT := 47) (pcF := 33) (loc' := [some (.inr (.inr (30, 7, 0)))]) (stk' := []) (h' := s1) 2 (fun _ _ => rfl) (fun c11 => ?_) (fun c11 => ?_)
    · rw [if_pos c11] at HF
      refine q_blk (pc' := 8) (loc' := [some (.inr (.inr (30, 7, 0)))]) (stk' := []) (h' := (q_si s1 30 17 7 0 ((s1.1 30 17 7 0) + (1 : Int32)))) 7 (fun _ _ => rfl) ?_
      have hz := Option.some.inj HF
      subst hz
      exact H12 (q_si s1 30 17 7 0 ((s1.1 30 17 7 0) + (1 : Int32))) rfl
    · rw [if_neg c11] at HF
      obtain ⟨g10, HF⟩ := q_gF HF
      refine q_gd (pc' := 42) (loc' := [some (.inr (.inr (30, 7, 0)))]) (stk' := [.inl (s1.1 38 0 7 (s1.1 30 17 7 0).toNatClampNeg)]) (h' := s1) 5 (fun _ _ => rfl) g10 ?_
      refine q_br (P := ¬ (s1.1 38 0 7 (s1.1 30 17 7 0).toNatClampNeg) = (32 : Int32)) (pcT := 60) (pcF := 47) (loc' := [some (.inr (.inr (30, 7, 0)))]) (stk' := []) (h' := s1) 2 (fun _ _ => rfl) (fun c9 => ?_) (fun c9 => ?_)
      · rw [if_pos c9] at HF
        have hz := Option.some.inj HF
        subst hz
        rw [← H23 _ rfl] at HK4
        exact hP5 (s1) HK4
      · rw [if_neg c9] at HF
        refine q_blk (pc' := 8) (loc' := [some (.inr (.inr (30, 7, 0)))]) (stk' := []) (h' := (q_si s1 30 17 7 0 ((s1.1 30 17 7 0) + (1 : Int32)))) 7 (fun _ _ => rfl) ?_
        have hz := Option.some.inj HF
        subst hz
        exact H12 (q_si s1 30 17 7 0 ((s1.1 30 17 7 0) + (1 : Int32))) rfl
def Mo_openMany  (h : q_H) : Option Int32 :=
  (q_lp (fun s1 : Int32 × Int32 => (if (h.1 31 0 7 4) ≤ s1.2 then (some (.inr (s1.1))) else ((Mo_isOpen s1.2 h).bind fun x9 => Option.bind (α := Int32) (if x9 = 0 then (some ((0 : Int32))) else (some ((1 : Int32)))) (fun p16 => some (.inl ((s1.1 + p16), (s1.2 + (1 : Int32)))))) : Option ((Int32 × Int32) ⊕ Int32))) q_fu (((0 : Int32), (1 : Int32)) : Int32 × Int32)).bind fun z8 => some z8
set_option maxRecDepth 100000 in
set_option maxHeartbeats 4000000 in
theorem eMo_openMany {d : Nat} (hd : 3 ≤ d)  {h : q_H} {r : Int32} (HF : Mo_openMany  h = some r) : q_T d 262 [.inr (.inr (30, 7, 0))] h (some (.inl r), h) := by
  obtain ⟨d, rfl⟩ : ∃ d', d = d' + 1 := ⟨d - 1, by omega⟩
  refine q_ent q_K262 rfl rfl rfl ?_
  unfold Mo_openMany at HF
  refine q_blk (pc' := 4) (loc' := [some (.inr (.inr (30, 7, 0))), some (.inl (0 : Int32)), some (.inl (1 : Int32))]) (stk' := []) (h' := h) 4 (fun _ _ => rfl) ?_
  obtain ⟨r6, hl7, HK4⟩ := q_bind HF
  refine q_lpE (E := fun s1 => q_E d q_K262 4 [some (.inr (.inr (30, 7, 0))), some (.inl s1.1), some (.inl s1.2)] [] h (some (.inl r), h)) r6 (fun s1 z8 HF H12 H23 => ?_) _ _ hl7
  refine q_br (P := (h.1 31 0 7 4) ≤ s1.2) (pcT := 36) (pcF := 14) (loc' := [some (.inr (.inr (30, 7, 0))), some (.inl s1.1), some (.inl s1.2)]) (stk' := []) (h' := h) 6 (fun _ _ => rfl) (fun c18 => ?_) (fun c18 => ?_)
  · rw [if_pos c18] at HF
    have hz := Option.some.inj HF
    subst hz
    replace HF := HK4
    rw [← H23 _ rfl] at HF
    have hz := Option.some.inj HF
    subst hz
    exact q_rtn 2 (fun _ _ => rfl)
  · rw [if_neg c18] at HF
    obtain ⟨x9, hx10, HF⟩ := q_bind HF
    refine q_cll (m' := 197) (av := [.inr (.inr (30, 7, 0)), .inl s1.2]) (st' := [.inl s1.1]) (pc' := 20) (loc' := [some (.inr (.inr (30, 7, 0))), some (.inl s1.1), some (.inl s1.2)]) (h' := h) 4 (fun _ _ => rfl) (eMo_isOpen (by omega) hx10) ?_
    obtain ⟨z11, HA12, HK13⟩ := q_bind HF
    have hP14 : ∀ p16 : Int32, (some (.inl ((s1.1 + p16), (s1.2 + (1 : Int32)))) : Option ((Int32 × Int32) ⊕ Int32)) = some z8 → q_E d q_K262 28 [some (.inr (.inr (30, 7, 0))), some (.inl s1.1), some (.inl s1.2)] [.inl p16, .inl s1.1] h (some (.inl r), h) := by
      intro p16 HF
      refine q_blk (pc' := 4) (loc' := [some (.inr (.inr (30, 7, 0))), some (.inl (s1.1 + p16)), some (.inl (s1.2 + (1 : Int32)))]) (stk' := []) (h' := h) 4 (fun _ _ => rfl) ?_
      have hz := Option.some.inj HF
      subst hz
      exact H12 ((s1.1 + p16), (s1.2 + (1 : Int32))) rfl
    replace HF := HA12
    refine q_br (P := x9 = 0) (pcT := 27) (pcF := 23) (loc' := [some (.inr (.inr (30, 7, 0))), some (.inl s1.1), some (.inl s1.2)]) (stk' := [.inl s1.1]) (h' := h) 1 (fun _ _ => rfl) (fun c15 => ?_) (fun c15 => ?_)
    · rw [if_pos c15] at HF
      refine q_blk (pc' := 28) (loc' := [some (.inr (.inr (30, 7, 0))), some (.inl s1.1), some (.inl s1.2)]) (stk' := [.inl (0 : Int32), .inl s1.1]) (h' := h) 1 (fun _ _ => rfl) ?_
      have hz := Option.some.inj HF
      subst hz
      exact hP14 (0 : Int32) HK13
    · rw [if_neg c15] at HF
      refine q_blk (pc' := 28) (loc' := [some (.inr (.inr (30, 7, 0))), some (.inl s1.1), some (.inl s1.2)]) (stk' := [.inl (1 : Int32), .inl s1.1]) (h' := h) 2 (fun _ _ => rfl) ?_
      have hz := Option.some.inj HF
      subst hz
      exact hP14 (1 : Int32) HK13
def Mo_asksSlot (a1 : Int32) (a2 : Int32) (a3 : Int32) (h : q_H) : Option (Int32 × q_H) :=
  if ¬ a1 = 0 then ((Mo_isPage a2 h).bind fun x1 => if x1 = 0 then ((Mo_is (2 : Int32) h).bind fun x3 => bif q_01 x3.1 then some ((x3.1, x3.2)) else none) else (bif q_in ((17 : Int32) + a2) 1644 then ((Mo_isIn a3 (0 : Int32) ((h.1 31 0 7 ((17 : Int32) + a2).toNatClampNeg) - (1 : Int32)) h).bind fun x6 => if ¬ x6 = 0 then ((Mo_is (0 : Int32) h).bind fun x8 => bif q_01 x8.1 then some ((x8.1, x8.2)) else none) else ((Mo_is (2 : Int32) h).bind fun x11 => bif q_01 x11.1 then some ((x11.1, x11.2)) else none)) else none)) else ((Mo_is (1 : Int32) h).bind fun x17 => bif q_01 x17.1 then some ((x17.1, x17.2)) else none)
set_option maxRecDepth 100000 in
set_option maxHeartbeats 4000000 in
theorem eMo_asksSlot {d : Nat} (hd : 3 ≤ d) {a1 : Int32} {a2 : Int32} {a3 : Int32} {h : q_H} {r : (Int32 × q_H)} (HF : Mo_asksSlot a1 a2 a3 h = some r) : q_T d 269 [.inr (.inr (30, 7, 0)), .inl a1, .inl a2, .inl a3] h (some (.inl r.1), r.2) := by
  obtain ⟨d, rfl⟩ : ∃ d', d = d' + 1 := ⟨d - 1, by omega⟩
  refine q_ent q_K269 rfl rfl rfl ?_
  unfold Mo_asksSlot at HF
  refine q_br (P := ¬ a1 = 0) (pcT := 9) (pcF := 5) (loc' := [some (.inr (.inr (30, 7, 0))), some (.inl a1), some (.inl a2), some (.inl a3)]) (stk' := [.inr (.inr (30, 7, 0))]) (h' := h) 3 (fun _ _ => rfl) (fun c20 => ?_) (fun c20 => ?_)
  · rw [if_pos c20] at HF
    obtain ⟨x1, hx2, HF⟩ := q_bind HF
    refine q_cll (m' := 265) (av := [.inl a2]) (st' := [.inr (.inr (30, 7, 0))]) (pc' := 13) (loc' := [some (.inr (.inr (30, 7, 0))), some (.inl a1), some (.inl a2), some (.inl a3)]) (h' := h) 2 (fun _ _ => rfl) (eMo_isPage (by omega) hx2) ?_
    refine q_br (P := x1 = 0) (pcT := 35) (pcF := 16) (loc' := [some (.inr (.inr (30, 7, 0))), some (.inl a1), some (.inl a2), some (.inl a3)]) (stk' := [.inr (.inr (30, 7, 0))]) (h' := h) 1 (fun _ _ => rfl) (fun c16 => ?_) (fun c16 => ?_)
    · rw [if_pos c16] at HF
      obtain ⟨x3, hx4, HF⟩ := q_bind HF
      refine q_cll (m' := 183) (av := [.inr (.inr (30, 7, 0)), .inl (2 : Int32)]) (st' := []) (pc' := 43) (loc' := [some (.inr (.inr (30, 7, 0))), some (.inl a1), some (.inl a2), some (.inl a3)]) (h' := h) 3 (fun _ _ => rfl) (eMo_is (by omega) hx4) ?_
      obtain ⟨g5, HF⟩ := q_gF HF
      have hz := Option.some.inj HF
      subst hz
      exact q_rtz 1 (fun _ _ => rfl) g5
    · rw [if_neg c16] at HF
      obtain ⟨g15, HF⟩ := q_gF HF
      refine q_gd (pc' := 27) (loc' := [some (.inr (.inr (30, 7, 0))), some (.inl a1), some (.inl a2), some (.inl a3)]) (stk' := [.inl (h.1 31 0 7 ((17 : Int32) + a2).toNatClampNeg), .inl (0 : Int32), .inl a3, .inr (.inr (30, 7, 0))]) (h' := h) 8 (fun _ _ => rfl) g15 ?_
      obtain ⟨x6, hx7, HF⟩ := q_bind HF
      refine q_cll (m' := 184) (av := [.inl a3, .inl (0 : Int32), .inl ((h.1 31 0 7 ((17 : Int32) + a2).toNatClampNeg) - (1 : Int32))]) (st' := [.inr (.inr (30, 7, 0))]) (pc' := 32) (loc' := [some (.inr (.inr (30, 7, 0))), some (.inl a1), some (.inl a2), some (.inl a3)]) (h' := h) 3 (fun _ _ => rfl) (eMo_isIn (by omega) hx7) ?_
      refine q_br (P := ¬ x6 = 0) (pcT := 39) (pcF := 35) (loc' := [some (.inr (.inr (30, 7, 0))), some (.inl a1), some (.inl a2), some (.inl a3)]) (stk' := [.inr (.inr (30, 7, 0))]) (h' := h) 1 (fun _ _ => rfl) (fun c14 => ?_) (fun c14 => ?_)
      · rw [if_pos c14] at HF
        obtain ⟨x8, hx9, HF⟩ := q_bind HF
        refine q_cll (m' := 183) (av := [.inr (.inr (30, 7, 0)), .inl (0 : Int32)]) (st' := []) (pc' := 43) (loc' := [some (.inr (.inr (30, 7, 0))), some (.inl a1), some (.inl a2), some (.inl a3)]) (h' := h) 2 (fun _ _ => rfl) (eMo_is (by omega) hx9) ?_
        obtain ⟨g10, HF⟩ := q_gF HF
        have hz := Option.some.inj HF
        subst hz
        exact q_rtz 1 (fun _ _ => rfl) g10
      · rw [if_neg c14] at HF
        obtain ⟨x11, hx12, HF⟩ := q_bind HF
        refine q_cll (m' := 183) (av := [.inr (.inr (30, 7, 0)), .inl (2 : Int32)]) (st' := []) (pc' := 43) (loc' := [some (.inr (.inr (30, 7, 0))), some (.inl a1), some (.inl a2), some (.inl a3)]) (h' := h) 3 (fun _ _ => rfl) (eMo_is (by omega) hx12) ?_
        obtain ⟨g13, HF⟩ := q_gF HF
        have hz := Option.some.inj HF
        subst hz
        exact q_rtz 1 (fun _ _ => rfl) g13
  · rw [if_neg c20] at HF
    obtain ⟨x17, hx18, HF⟩ := q_bind HF
    refine q_cll (m' := 183) (av := [.inr (.inr (30, 7, 0)), .inl (1 : Int32)]) (st' := []) (pc' := 43) (loc' := [some (.inr (.inr (30, 7, 0))), some (.inl a1), some (.inl a2), some (.inl a3)]) (h' := h) 3 (fun _ _ => rfl) (eMo_is (by omega) hx18) ?_
    obtain ⟨g19, HF⟩ := q_gF HF
    have hz := Option.some.inj HF
    subst hz
    exact q_rtz 1 (fun _ _ => rfl) g19
def Mo_txn (a1 : Int32) (a2 : Int32) (h : q_H) : Option (Int32 × q_H) :=
  (Mo_isIn a2 (0 : Int32) (3 : Int32) h).bind fun x1 => Option.bind (α := Int32) (if ¬ x1 = 0 then ((Mo_isTxn a1 h).bind fun x7 => if ¬ x7 = 0 then (some ((0 : Int32))) else (some ((2 : Int32)))) else (some ((1 : Int32)))) (fun p11 => (Mo_is p11 h).bind fun x12 => if ¬ x12.1 = 0 then (if ¬ a2 = (3 : Int32) then (if ¬ a2 = (1 : Int32) then (if ¬ a2 = 0 then ((Mo_notedMany a1 x12.2).bind fun x14 => some ((x14, x12.2))) else ((Mo_stateOf a1 x12.2).bind fun x16 => some ((x16, x12.2)))) else ((Mo_isOpen a1 x12.2).bind fun x19 => if x19 = 0 then ((Mo_refuse (5 : Int32) x12.2).bind fun x21 => some ((x21.1, x21.2))) else ((Mo_lowOf a1 x12.2).bind fun x23 => some ((x23, x12.2))))) else ((Mo_isWaiting a1 x12.2).bind fun x27 => if x27 = 0 then (some (((-1 : Int32), x12.2))) else (bif q_in ((1583 : Int32) + a1) 1644 then (some (((x12.2.1 31 0 7 ((1583 : Int32) + a1).toNatClampNeg), x12.2))) else none))) else (some (((-1 : Int32), x12.2))))
set_option maxRecDepth 100000 in
set_option maxHeartbeats 4000000 in
theorem eMo_txn {d : Nat} (hd : 3 ≤ d) {a1 : Int32} {a2 : Int32} {h : q_H} {r : (Int32 × q_H)} (HF : Mo_txn a1 a2 h = some r) : q_T d 274 [.inr (.inr (30, 7, 0)), .inl a1, .inl a2] h (some (.inl r.1), r.2) := by
  obtain ⟨d, rfl⟩ : ∃ d', d = d' + 1 := ⟨d - 1, by omega⟩
  refine q_ent q_K274 rfl rfl rfl ?_
  unfold Mo_txn at HF
  obtain ⟨x1, hx2, HF⟩ := q_bind HF
  refine q_cll (m' := 184) (av := [.inl a2, .inl (0 : Int32), .inl (3 : Int32)]) (st' := [.inr (.inr (30, 7, 0))]) (pc' := 7) (loc' := [some (.inr (.inr (30, 7, 0))), some (.inl a1), some (.inl a2)]) (h' := h) 5 (fun _ _ => rfl) (eMo_isIn (by omega) hx2) ?_
  obtain ⟨z3, HA4, HK5⟩ := q_bind HF
  have hP6 : ∀ p11 : Int32, ((Mo_is p11 h).bind fun x12 => if ¬ x12.1 = 0 then (if ¬ a2 = (3 : Int32) then (if ¬ a2 = (1 : Int32) then (if ¬ a2 = 0 then ((Mo_notedMany a1 x12.2).bind fun x14 => some ((x14, x12.2))) else ((Mo_stateOf a1 x12.2).bind fun x16 => some ((x16, x12.2)))) else ((Mo_isOpen a1 x12.2).bind fun x19 => if x19 = 0 then ((Mo_refuse (5 : Int32) x12.2).bind fun x21 => some ((x21.1, x21.2))) else ((Mo_lowOf a1 x12.2).bind fun x23 => some ((x23, x12.2))))) else ((Mo_isWaiting a1 x12.2).bind fun x27 => if x27 = 0 then (some (((-1 : Int32), x12.2))) else (bif q_in ((1583 : Int32) + a1) 1644 then (some (((x12.2.1 31 0 7 ((1583 : Int32) + a1).toNatClampNeg), x12.2))) else none))) else (some (((-1 : Int32), x12.2))) : Option (Int32 × q_H)) = some r → q_E d q_K274 27 [some (.inr (.inr (30, 7, 0))), some (.inl a1), some (.inl a2)] [.inl p11, .inr (.inr (30, 7, 0))] h (some (.inl r.1), r.2) := by
    intro p11 HF
    obtain ⟨x12, hx13, HF⟩ := q_bind HF
    refine q_cll (m' := 183) (av := [.inr (.inr (30, 7, 0)), .inl p11]) (st' := []) (pc' := 30) (loc' := [some (.inr (.inr (30, 7, 0))), some (.inl a1), some (.inl a2)]) (h' := h) 1 (fun _ _ => rfl) (eMo_is (by omega) hx13) ?_
    refine q_br (P := ¬ x12.1 = 0) (pcT := 35) (pcF := 33) (loc' := [some (.inr (.inr (30, 7, 0))), some (.inl a1), some (.inl a2)]) (stk' := []) (h' := x12.2) 1 (fun _ _ => rfl) (fun c32 => ?_) (fun c32 => ?_)
    · rw [if_pos c32] at HF
      refine q_br (P := ¬ a2 = (3 : Int32)) (pcT := 63) (pcF := 40) (loc' := [some (.inr (.inr (30, 7, 0))), some (.inl a1), some (.inl a2)]) (stk' := []) (h' := x12.2) 3 (fun _ _ => rfl) (fun c31 => ?_) (fun c31 => ?_)
      · rw [if_pos c31] at HF
        refine q_br (P := ¬ a2 = (1 : Int32)) (pcT := 90) (pcF := 68) (loc' := [some (.inr (.inr (30, 7, 0))), some (.inl a1), some (.inl a2)]) (stk' := []) (h' := x12.2) 3 (fun _ _ => rfl) (fun c26 => ?_) (fun c26 => ?_)
        · rw [if_pos c26] at HF
          refine q_br (P := ¬ a2 = 0) (pcT := 102) (pcF := 94) (loc' := [some (.inr (.inr (30, 7, 0))), some (.inl a1), some (.inl a2)]) (stk' := []) (h' := x12.2) 2 (fun _ _ => rfl) (fun c18 => ?_) (fun c18 => ?_)
          · rw [if_pos c18] at HF
            obtain ⟨x14, hx15, HF⟩ := q_bind HF
            refine q_cll (m' := 273) (av := [.inr (.inr (30, 7, 0)), .inl a1]) (st' := []) (pc' := 107) (loc' := [some (.inr (.inr (30, 7, 0))), some (.inl a1), some (.inl a2)]) (h' := x12.2) 3 (fun _ _ => rfl) (eMo_notedMany (by omega) hx15) ?_
            have hz := Option.some.inj HF
            subst hz
            exact q_rtn 1 (fun _ _ => rfl)
          · rw [if_neg c18] at HF
            obtain ⟨x16, hx17, HF⟩ := q_bind HF
            refine q_cll (m' := 196) (av := [.inr (.inr (30, 7, 0)), .inl a1]) (st' := []) (pc' := 99) (loc' := [some (.inr (.inr (30, 7, 0))), some (.inl a1), some (.inl a2)]) (h' := x12.2) 3 (fun _ _ => rfl) (eMo_stateOf (by omega) hx17) ?_
            have hz := Option.some.inj HF
            subst hz
            exact q_rtn 2 (fun _ _ => rfl)
        · rw [if_neg c26] at HF
          obtain ⟨x19, hx20, HF⟩ := q_bind HF
          refine q_cll (m' := 197) (av := [.inr (.inr (30, 7, 0)), .inl a1]) (st' := []) (pc' := 73) (loc' := [some (.inr (.inr (30, 7, 0))), some (.inl a1), some (.inl a2)]) (h' := x12.2) 3 (fun _ _ => rfl) (eMo_isOpen (by omega) hx20) ?_
          refine q_br (P := x19 = 0) (pcT := 84) (pcF := 76) (loc' := [some (.inr (.inr (30, 7, 0))), some (.inl a1), some (.inl a2)]) (stk' := []) (h' := x12.2) 1 (fun _ _ => rfl) (fun c25 => ?_) (fun c25 => ?_)
          · rw [if_pos c25] at HF
            obtain ⟨x21, hx22, HF⟩ := q_bind HF
            refine q_cll (m' := 182) (av := [.inr (.inr (30, 7, 0)), .inl (5 : Int32)]) (st' := []) (pc' := 89) (loc' := [some (.inr (.inr (30, 7, 0))), some (.inl a1), some (.inl a2)]) (h' := x12.2) 3 (fun _ _ => rfl) (eMo_refuse (by omega) hx22) ?_
            have hz := Option.some.inj HF
            subst hz
            exact q_rtn 1 (fun _ _ => rfl)
          · rw [if_neg c25] at HF
            obtain ⟨x23, hx24, HF⟩ := q_bind HF
            refine q_cll (m' := 203) (av := [.inr (.inr (30, 7, 0)), .inl a1]) (st' := []) (pc' := 81) (loc' := [some (.inr (.inr (30, 7, 0))), some (.inl a1), some (.inl a2)]) (h' := x12.2) 3 (fun _ _ => rfl) (eMo_lowOf (by omega) hx24) ?_
            have hz := Option.some.inj HF
            subst hz
            exact q_rtn 2 (fun _ _ => rfl)
      · rw [if_neg c31] at HF
        obtain ⟨x27, hx28, HF⟩ := q_bind HF
        refine q_cll (m' := 201) (av := [.inr (.inr (30, 7, 0)), .inl a1]) (st' := []) (pc' := 45) (loc' := [some (.inr (.inr (30, 7, 0))), some (.inl a1), some (.inl a2)]) (h' := x12.2) 3 (fun _ _ => rfl) (eMo_isWaiting (by omega) hx28) ?_
        refine q_br (P := x27 = 0) (pcT := 61) (pcF := 48) (loc' := [some (.inr (.inr (30, 7, 0))), some (.inl a1), some (.inl a2)]) (stk' := []) (h' := x12.2) 1 (fun _ _ => rfl) (fun c30 => ?_) (fun c30 => ?_)
        · rw [if_pos c30] at HF
          have hz := Option.some.inj HF
          subst hz
          exact q_rtn 2 (fun _ _ => rfl)
        · rw [if_neg c30] at HF
          obtain ⟨g29, HF⟩ := q_gF HF
          refine q_gd (pc' := 58) (loc' := [some (.inr (.inr (30, 7, 0))), some (.inl a1), some (.inl a2)]) (stk' := [.inl (x12.2.1 31 0 7 ((1583 : Int32) + a1).toNatClampNeg)]) (h' := x12.2) 6 (fun _ _ => rfl) g29 ?_
          have hz := Option.some.inj HF
          subst hz
          exact q_rtn 2 (fun _ _ => rfl)
    · rw [if_neg c32] at HF
      have hz := Option.some.inj HF
      subst hz
      exact q_rtn 2 (fun _ _ => rfl)
  replace HF := HA4
  refine q_br (P := ¬ x1 = 0) (pcT := 14) (pcF := 10) (loc' := [some (.inr (.inr (30, 7, 0))), some (.inl a1), some (.inl a2)]) (stk' := [.inr (.inr (30, 7, 0))]) (h' := h) 1 (fun _ _ => rfl) (fun c10 => ?_) (fun c10 => ?_)
  · rw [if_pos c10] at HF
    obtain ⟨x7, hx8, HF⟩ := q_bind HF
    refine q_cll (m' := 198) (av := [.inr (.inr (30, 7, 0)), .inl a1]) (st' := [.inr (.inr (30, 7, 0))]) (pc' := 19) (loc' := [some (.inr (.inr (30, 7, 0))), some (.inl a1), some (.inl a2)]) (h' := h) 3 (fun _ _ => rfl) (eMo_isTxn (by omega) hx8) ?_
    refine q_br (P := ¬ x7 = 0) (pcT := 26) (pcF := 22) (loc' := [some (.inr (.inr (30, 7, 0))), some (.inl a1), some (.inl a2)]) (stk' := [.inr (.inr (30, 7, 0))]) (h' := h) 1 (fun _ _ => rfl) (fun c9 => ?_) (fun c9 => ?_)
    · rw [if_pos c9] at HF
      refine q_blk (pc' := 27) (loc' := [some (.inr (.inr (30, 7, 0))), some (.inl a1), some (.inl a2)]) (stk' := [.inl (0 : Int32), .inr (.inr (30, 7, 0))]) (h' := h) 1 (fun _ _ => rfl) ?_
      have hz := Option.some.inj HF
      subst hz
      exact hP6 (0 : Int32) HK5
    · rw [if_neg c9] at HF
      refine q_blk (pc' := 27) (loc' := [some (.inr (.inr (30, 7, 0))), some (.inl a1), some (.inl a2)]) (stk' := [.inl (2 : Int32), .inr (.inr (30, 7, 0))]) (h' := h) 2 (fun _ _ => rfl) ?_
      have hz := Option.some.inj HF
      subst hz
      exact hP6 (2 : Int32) HK5
  · rw [if_neg c10] at HF
    refine q_blk (pc' := 27) (loc' := [some (.inr (.inr (30, 7, 0))), some (.inl a1), some (.inl a2)]) (stk' := [.inl (1 : Int32), .inr (.inr (30, 7, 0))]) (h' := h) 2 (fun _ _ => rfl) ?_
    have hz := Option.some.inj HF
    subst hz
    exact hP6 (1 : Int32) HK5
def Mo_knows (a1 : Int32) (a2 : Int32) (h : q_H) : Option (Int32 × q_H) :=
  (Mo_isTxn a1 h).bind fun x1 => Option.bind (α := Int32) (if x1 = 0 then (some ((2 : Int32))) else ((Mo_isTxn a2 h).bind fun x7 => if x7 = 0 then (some ((2 : Int32))) else (some ((0 : Int32))))) (fun p11 => (Mo_is p11 h).bind fun x12 => if ¬ x12.1 = 0 then ((Mo_isKnown a1 a2 x12.2).bind fun x14 => if x14 = 0 then (some (((0 : Int32), x12.2))) else (some (((1 : Int32), x12.2)))) else (some (((-1 : Int32), x12.2))))
set_option maxRecDepth 100000 in
set_option maxHeartbeats 4000000 in
theorem eMo_knows {d : Nat} (hd : 3 ≤ d) {a1 : Int32} {a2 : Int32} {h : q_H} {r : (Int32 × q_H)} (HF : Mo_knows a1 a2 h = some r) : q_T d 275 [.inr (.inr (30, 7, 0)), .inl a1, .inl a2] h (some (.inl r.1), r.2) := by
  obtain ⟨d, rfl⟩ : ∃ d', d = d' + 1 := ⟨d - 1, by omega⟩
  refine q_ent q_K275 rfl rfl rfl ?_
  unfold Mo_knows at HF
  obtain ⟨x1, hx2, HF⟩ := q_bind HF
  refine q_cll (m' := 198) (av := [.inr (.inr (30, 7, 0)), .inl a1]) (st' := [.inr (.inr (30, 7, 0))]) (pc' := 6) (loc' := [some (.inr (.inr (30, 7, 0))), some (.inl a1), some (.inl a2)]) (h' := h) 4 (fun _ _ => rfl) (eMo_isTxn (by omega) hx2) ?_
  obtain ⟨z3, HA4, HK5⟩ := q_bind HF
  have hP6 : ∀ p11 : Int32, ((Mo_is p11 h).bind fun x12 => if ¬ x12.1 = 0 then ((Mo_isKnown a1 a2 x12.2).bind fun x14 => if x14 = 0 then (some (((0 : Int32), x12.2))) else (some (((1 : Int32), x12.2)))) else (some (((-1 : Int32), x12.2))) : Option (Int32 × q_H)) = some r → q_E d q_K275 22 [some (.inr (.inr (30, 7, 0))), some (.inl a1), some (.inl a2)] [.inl p11, .inr (.inr (30, 7, 0))] h (some (.inl r.1), r.2) := by
    intro p11 HF
    obtain ⟨x12, hx13, HF⟩ := q_bind HF
    refine q_cll (m' := 183) (av := [.inr (.inr (30, 7, 0)), .inl p11]) (st' := []) (pc' := 25) (loc' := [some (.inr (.inr (30, 7, 0))), some (.inl a1), some (.inl a2)]) (h' := h) 1 (fun _ _ => rfl) (eMo_is (by omega) hx13) ?_
    refine q_br (P := ¬ x12.1 = 0) (pcT := 30) (pcF := 28) (loc' := [some (.inr (.inr (30, 7, 0))), some (.inl a1), some (.inl a2)]) (stk' := []) (h' := x12.2) 1 (fun _ _ => rfl) (fun c17 => ?_) (fun c17 => ?_)
    · rw [if_pos c17] at HF
      obtain ⟨x14, hx15, HF⟩ := q_bind HF
      refine q_cll (m' := 200) (av := [.inr (.inr (30, 7, 0)), .inl a1, .inl a2]) (st' := []) (pc' := 36) (loc' := [some (.inr (.inr (30, 7, 0))), some (.inl a1), some (.inl a2)]) (h' := x12.2) 4 (fun _ _ => rfl) (eMo_isKnown (by omega) hx15) ?_
      refine q_br (P := x14 = 0) (pcT := 43) (pcF := 39) (loc' := [some (.inr (.inr (30, 7, 0))), some (.inl a1), some (.inl a2)]) (stk' := []) (h' := x12.2) 1 (fun _ _ => rfl) (fun c16 => ?_) (fun c16 => ?_)
      · rw [if_pos c16] at HF
        have hz := Option.some.inj HF
        subst hz
        exact q_rtn 2 (fun _ _ => rfl)
      · rw [if_neg c16] at HF
        have hz := Option.some.inj HF
        subst hz
        exact q_rtn 3 (fun _ _ => rfl)
    · rw [if_neg c17] at HF
      have hz := Option.some.inj HF
      subst hz
      exact q_rtn 2 (fun _ _ => rfl)
  replace HF := HA4
  refine q_br (P := x1 = 0) (pcT := 21) (pcF := 9) (loc' := [some (.inr (.inr (30, 7, 0))), some (.inl a1), some (.inl a2)]) (stk' := [.inr (.inr (30, 7, 0))]) (h' := h) 1 (fun _ _ => rfl) (fun c10 => ?_) (fun c10 => ?_)
  · rw [if_pos c10] at HF
    refine q_blk (pc' := 22) (loc' := [some (.inr (.inr (30, 7, 0))), some (.inl a1), some (.inl a2)]) (stk' := [.inl (2 : Int32), .inr (.inr (30, 7, 0))]) (h' := h) 1 (fun _ _ => rfl) ?_
    have hz := Option.some.inj HF
    subst hz
    exact hP6 (2 : Int32) HK5
  · rw [if_neg c10] at HF
    obtain ⟨x7, hx8, HF⟩ := q_bind HF
    refine q_cll (m' := 198) (av := [.inr (.inr (30, 7, 0)), .inl a2]) (st' := [.inr (.inr (30, 7, 0))]) (pc' := 14) (loc' := [some (.inr (.inr (30, 7, 0))), some (.inl a1), some (.inl a2)]) (h' := h) 3 (fun _ _ => rfl) (eMo_isTxn (by omega) hx8) ?_
    refine q_br (P := x7 = 0) (pcT := 21) (pcF := 17) (loc' := [some (.inr (.inr (30, 7, 0))), some (.inl a1), some (.inl a2)]) (stk' := [.inr (.inr (30, 7, 0))]) (h' := h) 1 (fun _ _ => rfl) (fun c9 => ?_) (fun c9 => ?_)
    · rw [if_pos c9] at HF
      refine q_blk (pc' := 22) (loc' := [some (.inr (.inr (30, 7, 0))), some (.inl a1), some (.inl a2)]) (stk' := [.inl (2 : Int32), .inr (.inr (30, 7, 0))]) (h' := h) 1 (fun _ _ => rfl) ?_
      have hz := Option.some.inj HF
      subst hz
      exact hP6 (2 : Int32) HK5
    · rw [if_neg c9] at HF
      refine q_blk (pc' := 22) (loc' := [some (.inr (.inr (30, 7, 0))), some (.inl a1), some (.inl a2)]) (stk' := [.inl (0 : Int32), .inr (.inr (30, 7, 0))]) (h' := h) 2 (fun _ _ => rfl) ?_
      have hz := Option.some.inj HF
      subst hz
      exact hP6 (0 : Int32) HK5
def Mo_asksOpen (a1 : Int32) (h : q_H) : Option (Int32 × q_H) :=
  (Mo_isTxn a1 h).bind fun x1 => if ¬ x1 = 0 then ((Mo_isOpen a1 h).bind fun x3 => if ¬ x3 = 0 then ((Mo_is (0 : Int32) h).bind fun x5 => bif q_01 x5.1 then some ((x5.1, x5.2)) else none) else ((Mo_is (4 : Int32) h).bind fun x8 => bif q_01 x8.1 then some ((x8.1, x8.2)) else none)) else ((Mo_is (2 : Int32) h).bind fun x12 => bif q_01 x12.1 then some ((x12.1, x12.2)) else none)
set_option maxRecDepth 100000 in
set_option maxHeartbeats 4000000 in
theorem eMo_asksOpen {d : Nat} (hd : 3 ≤ d) {a1 : Int32} {h : q_H} {r : (Int32 × q_H)} (HF : Mo_asksOpen a1 h = some r) : q_T d 295 [.inr (.inr (30, 7, 0)), .inl a1] h (some (.inl r.1), r.2) := by
  obtain ⟨d, rfl⟩ : ∃ d', d = d' + 1 := ⟨d - 1, by omega⟩
  refine q_ent q_K295 rfl rfl rfl ?_
  unfold Mo_asksOpen at HF
  obtain ⟨x1, hx2, HF⟩ := q_bind HF
  refine q_cll (m' := 198) (av := [.inr (.inr (30, 7, 0)), .inl a1]) (st' := [.inr (.inr (30, 7, 0))]) (pc' := 6) (loc' := [some (.inr (.inr (30, 7, 0))), some (.inl a1)]) (h' := h) 4 (fun _ _ => rfl) (eMo_isTxn (by omega) hx2) ?_
  refine q_br (P := ¬ x1 = 0) (pcT := 13) (pcF := 9) (loc' := [some (.inr (.inr (30, 7, 0))), some (.inl a1)]) (stk' := [.inr (.inr (30, 7, 0))]) (h' := h) 1 (fun _ _ => rfl) (fun c15 => ?_) (fun c15 => ?_)
  · rw [if_pos c15] at HF
    obtain ⟨x3, hx4, HF⟩ := q_bind HF
    refine q_cll (m' := 197) (av := [.inr (.inr (30, 7, 0)), .inl a1]) (st' := [.inr (.inr (30, 7, 0))]) (pc' := 18) (loc' := [some (.inr (.inr (30, 7, 0))), some (.inl a1)]) (h' := h) 3 (fun _ _ => rfl) (eMo_isOpen (by omega) hx4) ?_
    refine q_br (P := ¬ x3 = 0) (pcT := 25) (pcF := 21) (loc' := [some (.inr (.inr (30, 7, 0))), some (.inl a1)]) (stk' := [.inr (.inr (30, 7, 0))]) (h' := h) 1 (fun _ _ => rfl) (fun c11 => ?_) (fun c11 => ?_)
    · rw [if_pos c11] at HF
      obtain ⟨x5, hx6, HF⟩ := q_bind HF
      refine q_cll (m' := 183) (av := [.inr (.inr (30, 7, 0)), .inl (0 : Int32)]) (st' := []) (pc' := 29) (loc' := [some (.inr (.inr (30, 7, 0))), some (.inl a1)]) (h' := h) 2 (fun _ _ => rfl) (eMo_is (by omega) hx6) ?_
      obtain ⟨g7, HF⟩ := q_gF HF
      have hz := Option.some.inj HF
      subst hz
      exact q_rtz 1 (fun _ _ => rfl) g7
    · rw [if_neg c11] at HF
      obtain ⟨x8, hx9, HF⟩ := q_bind HF
      refine q_cll (m' := 183) (av := [.inr (.inr (30, 7, 0)), .inl (4 : Int32)]) (st' := []) (pc' := 29) (loc' := [some (.inr (.inr (30, 7, 0))), some (.inl a1)]) (h' := h) 3 (fun _ _ => rfl) (eMo_is (by omega) hx9) ?_
      obtain ⟨g10, HF⟩ := q_gF HF
      have hz := Option.some.inj HF
      subst hz
      exact q_rtz 1 (fun _ _ => rfl) g10
  · rw [if_neg c15] at HF
    obtain ⟨x12, hx13, HF⟩ := q_bind HF
    refine q_cll (m' := 183) (av := [.inr (.inr (30, 7, 0)), .inl (2 : Int32)]) (st' := []) (pc' := 29) (loc' := [some (.inr (.inr (30, 7, 0))), some (.inl a1)]) (h' := h) 3 (fun _ _ => rfl) (eMo_is (by omega) hx13) ?_
    obtain ⟨g14, HF⟩ := q_gF HF
    have hz := Option.some.inj HF
    subst hz
    exact q_rtz 1 (fun _ _ => rfl) g14
def Rp_page (a1 : Int32) (a2 : Int32) (h : q_H) : Option (Int32 × q_H) :=
  if a2 < 0 then ((Rp_refuse (1 : Int32) h).bind fun x1 => some ((x1.1, x1.2))) else (if a2 ≤ (4 : Int32) then ((Rp_isPage a1 h).bind fun x3 => if ¬ x3 = 0 then (if a2 = 0 then ((Pg_lengthOf 0 a1 h).bind fun x5 => (Rp_answer x5 h).bind fun x7 => some ((x7.1, x7.2))) else (if a2 = 1 then ((Pg_freeOf 0 a1 h).bind fun x9 => (Rp_answer x9 h).bind fun x11 => some ((x11.1, x11.2))) else (if a2 = 2 then ((St_deadUnitsOf 0 a1 h).bind fun x13 => (Rp_answer x13 h).bind fun x15 => some ((x15.1, x15.2))) else (if a2 = 3 then ((Pg_unusedOf 0 a1 h).bind fun x17 => (Rp_answer x17 h).bind fun x19 => some ((x19.1, x19.2))) else ((Pg_isClear 0 a1 h).bind fun x21 => if x21 = 0 then ((Rp_answer (0 : Int32) h).bind fun x23 => some ((x23.1, x23.2))) else ((Rp_answer (1 : Int32) h).bind fun x25 => some ((x25.1, x25.2)))))))) else ((Rp_refuse (2 : Int32) h).bind fun x32 => some ((x32.1, x32.2)))) else ((Rp_refuse (1 : Int32) h).bind fun x35 => some ((x35.1, x35.2))))
set_option maxRecDepth 100000 in
set_option maxHeartbeats 4000000 in
theorem eRp_page {d : Nat} (hd : 4 ≤ d) {a1 : Int32} {a2 : Int32} {h : q_H} {r : (Int32 × q_H)} (HF : Rp_page a1 a2 h = some r) : q_T d 11 [.inr (.inr (24, 6, 0)), .inl a1, .inl a2] h (some (.inl r.1), r.2) := by
  obtain ⟨d, rfl⟩ : ∃ d', d = d' + 1 := ⟨d - 1, by omega⟩
  refine q_ent q_K11 rfl rfl rfl ?_
  unfold Rp_page at HF
  refine q_br (P := a2 < 0) (pcT := 9) (pcF := 4) (loc' := [some (.inr (.inr (24, 6, 0))), some (.inl a1), some (.inl a2)]) (stk' := []) (h' := h) 2 (fun _ _ => rfl) (fun c38 => ?_) (fun c38 => ?_)
  · rw [if_pos c38] at HF
    obtain ⟨x1, hx2, HF⟩ := q_bind HF
    refine q_cll (m' := 46) (av := [.inr (.inr (24, 6, 0)), .inl (1 : Int32)]) (st' := []) (pc' := 14) (loc' := [some (.inr (.inr (24, 6, 0))), some (.inl a1), some (.inl a2)]) (h' := h) 3 (fun _ _ => rfl) (eRp_refuse (by omega) hx2) ?_
    have hz := Option.some.inj HF
    subst hz
    exact q_rtn 1 (fun _ _ => rfl)
  · rw [if_neg c38] at HF
    refine q_br (P := a2 ≤ (4 : Int32)) (pcT := 15) (pcF := 9) (loc' := [some (.inr (.inr (24, 6, 0))), some (.inl a1), some (.inl a2)]) (stk' := []) (h' := h) 3 (fun _ _ => rfl) (fun c37 => ?_) (fun c37 => ?_)
    · rw [if_pos c37] at HF
      obtain ⟨x3, hx4, HF⟩ := q_bind HF
      refine q_cll (m' := 56) (av := [.inl a1]) (st' := []) (pc' := 19) (loc' := [some (.inr (.inr (24, 6, 0))), some (.inl a1), some (.inl a2)]) (h' := h) 2 (fun _ _ => rfl) (eRp_isPage (by omega) hx4) ?_
      refine q_br (P := ¬ x3 = 0) (pcT := 28) (pcF := 22) (loc' := [some (.inr (.inr (24, 6, 0))), some (.inl a1), some (.inl a2)]) (stk' := []) (h' := h) 1 (fun _ _ => rfl) (fun c34 => ?_) (fun c34 => ?_)
      · rw [if_pos c34] at HF
        by_cases c28 : a2 = 0
        · rw [if_pos c28] at HF
          refine q_sw (o1 := 31) (pcx := 29) (pc' := 60) (loc' := [some (.inr (.inr (24, 6, 0))), some (.inl a1), some (.inl a2)]) (stk' := []) (h' := h) 2 (fun _ _ => rfl) (q_tsI c28 rfl) rfl ?_
          obtain ⟨x5, hx6, HF⟩ := q_bind HF
          refine q_cll (m' := 90) (av := [.inr (.inr (1, 0, 0)), .inl a1]) (st' := [.inr (.inr (24, 6, 0))]) (pc' := 72) (loc' := [some (.inr (.inr (24, 6, 0))), some (.inl a1), some (.inl a2)]) (h' := h) 6 (fun _ _ => rfl) (ePg_lengthOf (by omega) hx6) ?_
          obtain ⟨x7, hx8, HF⟩ := q_bind HF
          refine q_cll (m' := 45) (av := [.inr (.inr (24, 6, 0)), .inl x5]) (st' := []) (pc' := 75) (loc' := [some (.inr (.inr (24, 6, 0))), some (.inl a1), some (.inl a2)]) (h' := h) 1 (fun _ _ => rfl) (eRp_answer (by omega) hx8) ?_
          have hz := Option.some.inj HF
          subst hz
          exact q_rtn 1 (fun _ _ => rfl)
        · rw [if_neg c28] at HF
          by_cases c29 : a2 = 1
          · rw [if_pos c29] at HF
            refine q_sw (o1 := 47) (pcx := 29) (pc' := 76) (loc' := [some (.inr (.inr (24, 6, 0))), some (.inl a1), some (.inl a2)]) (stk' := []) (h' := h) 2 (fun _ _ => rfl) (q_tsI c29 rfl) rfl ?_
            obtain ⟨x9, hx10, HF⟩ := q_bind HF
            refine q_cll (m' := 94) (av := [.inr (.inr (1, 0, 0)), .inl a1]) (st' := [.inr (.inr (24, 6, 0))]) (pc' := 88) (loc' := [some (.inr (.inr (24, 6, 0))), some (.inl a1), some (.inl a2)]) (h' := h) 6 (fun _ _ => rfl) (ePg_freeOf (by omega) hx10) ?_
            obtain ⟨x11, hx12, HF⟩ := q_bind HF
            refine q_cll (m' := 45) (av := [.inr (.inr (24, 6, 0)), .inl x9]) (st' := []) (pc' := 91) (loc' := [some (.inr (.inr (24, 6, 0))), some (.inl a1), some (.inl a2)]) (h' := h) 1 (fun _ _ => rfl) (eRp_answer (by omega) hx12) ?_
            have hz := Option.some.inj HF
            subst hz
            exact q_rtn 1 (fun _ _ => rfl)
          · rw [if_neg c29] at HF
            by_cases c30 : a2 = 2
            · rw [if_pos c30] at HF
              refine q_sw (o1 := 63) (pcx := 29) (pc' := 92) (loc' := [some (.inr (.inr (24, 6, 0))), some (.inl a1), some (.inl a2)]) (stk' := []) (h' := h) 2 (fun _ _ => rfl) (q_tsI c30 rfl) rfl ?_
              obtain ⟨x13, hx14, HF⟩ := q_bind HF
              refine q_cll (m' := 153) (av := [.inr (.inr (0, 0, 0)), .inl a1]) (st' := [.inr (.inr (24, 6, 0))]) (pc' := 101) (loc' := [some (.inr (.inr (24, 6, 0))), some (.inl a1), some (.inl a2)]) (h' := h) 5 (fun _ _ => rfl) (eSt_deadUnitsOf (by omega) hx14) ?_
              obtain ⟨x15, hx16, HF⟩ := q_bind HF
              refine q_cll (m' := 45) (av := [.inr (.inr (24, 6, 0)), .inl x13]) (st' := []) (pc' := 104) (loc' := [some (.inr (.inr (24, 6, 0))), some (.inl a1), some (.inl a2)]) (h' := h) 1 (fun _ _ => rfl) (eRp_answer (by omega) hx16) ?_
              have hz := Option.some.inj HF
              subst hz
              exact q_rtn 1 (fun _ _ => rfl)
            · rw [if_neg c30] at HF
              by_cases c31 : a2 = 3
              · rw [if_pos c31] at HF
                refine q_sw (o1 := 76) (pcx := 29) (pc' := 105) (loc' := [some (.inr (.inr (24, 6, 0))), some (.inl a1), some (.inl a2)]) (stk' := []) (h' := h) 2 (fun _ _ => rfl) (q_tsI c31 rfl) rfl ?_
                obtain ⟨x17, hx18, HF⟩ := q_bind HF
                refine q_cll (m' := 96) (av := [.inr (.inr (1, 0, 0)), .inl a1]) (st' := [.inr (.inr (24, 6, 0))]) (pc' := 117) (loc' := [some (.inr (.inr (24, 6, 0))), some (.inl a1), some (.inl a2)]) (h' := h) 6 (fun _ _ => rfl) (ePg_unusedOf (by omega) hx18) ?_
                obtain ⟨x19, hx20, HF⟩ := q_bind HF
                refine q_cll (m' := 45) (av := [.inr (.inr (24, 6, 0)), .inl x17]) (st' := []) (pc' := 120) (loc' := [some (.inr (.inr (24, 6, 0))), some (.inl a1), some (.inl a2)]) (h' := h) 1 (fun _ _ => rfl) (eRp_answer (by omega) hx20) ?_
                have hz := Option.some.inj HF
                subst hz
                exact q_rtn 1 (fun _ _ => rfl)
              · rw [if_neg c31] at HF
                refine q_sw (o1 := 92) (pcx := 29) (pc' := 121) (loc' := [some (.inr (.inr (24, 6, 0))), some (.inl a1), some (.inl a2)]) (stk' := []) (h' := h) 2 (fun _ _ => rfl) (q_tsD (a := a2) (lo := 0) (hi := 3) (by have z0 := q_neI c28 (a := 0) rfl; have z1 := q_neI c29 (a := 1) rfl; have z2 := q_neI c30 (a := 2) rfl; have z3 := q_neI c31 (a := 3) rfl; omega)) rfl ?_
                obtain ⟨x21, hx22, HF⟩ := q_bind HF
                refine q_cll (m' := 92) (av := [.inr (.inr (1, 0, 0)), .inl a1]) (st' := [.inr (.inr (24, 6, 0))]) (pc' := 133) (loc' := [some (.inr (.inr (24, 6, 0))), some (.inl a1), some (.inl a2)]) (h' := h) 6 (fun _ _ => rfl) (ePg_isClear (by omega) hx22) ?_
                refine q_br (P := x21 = 0) (pcT := 140) (pcF := 136) (loc' := [some (.inr (.inr (24, 6, 0))), some (.inl a1), some (.inl a2)]) (stk' := [.inr (.inr (24, 6, 0))]) (h' := h) 1 (fun _ _ => rfl) (fun c27 => ?_) (fun c27 => ?_)
                · rw [if_pos c27] at HF
                  obtain ⟨x23, hx24, HF⟩ := q_bind HF
                  refine q_cll (m' := 45) (av := [.inr (.inr (24, 6, 0)), .inl (0 : Int32)]) (st' := []) (pc' := 144) (loc' := [some (.inr (.inr (24, 6, 0))), some (.inl a1), some (.inl a2)]) (h' := h) 2 (fun _ _ => rfl) (eRp_answer (by omega) hx24) ?_
                  have hz := Option.some.inj HF
                  subst hz
                  exact q_rtn 1 (fun _ _ => rfl)
                · rw [if_neg c27] at HF
                  obtain ⟨x25, hx26, HF⟩ := q_bind HF
                  refine q_cll (m' := 45) (av := [.inr (.inr (24, 6, 0)), .inl (1 : Int32)]) (st' := []) (pc' := 144) (loc' := [some (.inr (.inr (24, 6, 0))), some (.inl a1), some (.inl a2)]) (h' := h) 3 (fun _ _ => rfl) (eRp_answer (by omega) hx26) ?_
                  have hz := Option.some.inj HF
                  subst hz
                  exact q_rtn 1 (fun _ _ => rfl)
      · rw [if_neg c34] at HF
        obtain ⟨x32, hx33, HF⟩ := q_bind HF
        refine q_cll (m' := 46) (av := [.inr (.inr (24, 6, 0)), .inl (2 : Int32)]) (st' := []) (pc' := 27) (loc' := [some (.inr (.inr (24, 6, 0))), some (.inl a1), some (.inl a2)]) (h' := h) 3 (fun _ _ => rfl) (eRp_refuse (by omega) hx33) ?_
        have hz := Option.some.inj HF
        subst hz
        exact q_rtn 1 (fun _ _ => rfl)
    · rw [if_neg c37] at HF
      obtain ⟨x35, hx36, HF⟩ := q_bind HF
      refine q_cll (m' := 46) (av := [.inr (.inr (24, 6, 0)), .inl (1 : Int32)]) (st' := []) (pc' := 14) (loc' := [some (.inr (.inr (24, 6, 0))), some (.inl a1), some (.inl a2)]) (h' := h) 3 (fun _ _ => rfl) (eRp_refuse (by omega) hx36) ?_
      have hz := Option.some.inj HF
      subst hz
      exact q_rtn 1 (fun _ _ => rfl)
def Rp_slot (a1 : Int32) (a2 : Int32) (a3 : Int32) (h : q_H) : Option (Int32 × q_H) :=
  if a3 < 0 then ((Rp_refuse (1 : Int32) h).bind fun x1 => some ((x1.1, x1.2))) else (if a3 ≤ (3 : Int32) then ((Pg_hasSlot 0 a1 a2 h).bind fun x3 => if ¬ x3 = 0 then (if a3 = 0 then ((Pg_at 0 ((a1 * (10 : Int32)) + a2) h).bind fun x5 => (Rp_answer (h.1 3 0 0 x5) h).bind fun x7 => some ((x7.1, x7.2))) else (if a3 = 1 then ((Pg_at 0 ((a1 * (10 : Int32)) + a2) h).bind fun x9 => (Rp_slotOf (h.1 3 1 0 x9) h).bind fun x11 => (Rp_answer x11 h).bind fun x13 => some ((x13.1, x13.2))) else (if a3 = 2 then ((Ix_howManyLeadTo 0 ((a1 * (10 : Int32)) + a2) h).bind fun x15 => (Rp_answer x15 h).bind fun x17 => some ((x17.1, x17.2))) else ((St_chainLength 0 ((a1 * (10 : Int32)) + a2) h).bind fun x19 => (Rp_answer x19 h).bind fun x21 => some ((x21.1, x21.2)))))) else ((Rp_refuse (2 : Int32) h).bind fun x26 => some ((x26.1, x26.2)))) else ((Rp_refuse (1 : Int32) h).bind fun x29 => some ((x29.1, x29.2))))
set_option maxRecDepth 100000 in
set_option maxHeartbeats 4000000 in
theorem eRp_slot {d : Nat} (hd : 4 ≤ d) {a1 : Int32} {a2 : Int32} {a3 : Int32} {h : q_H} {r : (Int32 × q_H)} (HF : Rp_slot a1 a2 a3 h = some r) : q_T d 12 [.inr (.inr (24, 6, 0)), .inl a1, .inl a2, .inl a3] h (some (.inl r.1), r.2) := by
  obtain ⟨d, rfl⟩ : ∃ d', d = d' + 1 := ⟨d - 1, by omega⟩
  refine q_ent q_K12 rfl rfl rfl ?_
  unfold Rp_slot at HF
  refine q_br (P := a3 < 0) (pcT := 9) (pcF := 4) (loc' := [some (.inr (.inr (24, 6, 0))), some (.inl a1), some (.inl a2), some (.inl a3), none]) (stk' := []) (h' := h) 2 (fun _ _ => rfl) (fun c32 => ?_) (fun c32 => ?_)
  · rw [if_pos c32] at HF
    obtain ⟨x1, hx2, HF⟩ := q_bind HF
    refine q_cll (m' := 46) (av := [.inr (.inr (24, 6, 0)), .inl (1 : Int32)]) (st' := []) (pc' := 14) (loc' := [some (.inr (.inr (24, 6, 0))), some (.inl a1), some (.inl a2), some (.inl a3), none]) (h' := h) 3 (fun _ _ => rfl) (eRp_refuse (by omega) hx2) ?_
    have hz := Option.some.inj HF
    subst hz
    exact q_rtn 1 (fun _ _ => rfl)
  · rw [if_neg c32] at HF
    refine q_br (P := a3 ≤ (3 : Int32)) (pcT := 15) (pcF := 9) (loc' := [some (.inr (.inr (24, 6, 0))), some (.inl a1), some (.inl a2), some (.inl a3), none]) (stk' := []) (h' := h) 3 (fun _ _ => rfl) (fun c31 => ?_) (fun c31 => ?_)
    · rw [if_pos c31] at HF
      obtain ⟨x3, hx4, HF⟩ := q_bind HF
      refine q_cll (m' := 91) (av := [.inr (.inr (1, 0, 0)), .inl a1, .inl a2]) (st' := []) (pc' := 27) (loc' := [some (.inr (.inr (24, 6, 0))), some (.inl a1), some (.inl a2), some (.inl a3), none]) (h' := h) 6 (fun _ _ => rfl) (ePg_hasSlot (by omega) hx4) ?_
      refine q_br (P := ¬ x3 = 0) (pcT := 36) (pcF := 30) (loc' := [some (.inr (.inr (24, 6, 0))), some (.inl a1), some (.inl a2), some (.inl a3), none]) (stk' := []) (h' := h) 1 (fun _ _ => rfl) (fun c28 => ?_) (fun c28 => ?_)
      · rw [if_pos c28] at HF
        by_cases c23 : a3 = 0
        · rw [if_pos c23] at HF
          refine q_sw (o1 := 27) (pcx := 45) (pc' := 72) (loc' := [some (.inr (.inr (24, 6, 0))), some (.inl a1), some (.inl a2), some (.inl a3), some (.inl ((a1 * (10 : Int32)) + a2))]) (stk' := []) (h' := h) 8 (fun _ _ => rfl) (q_tsI c23 rfl) rfl ?_
          obtain ⟨x5, hx6, HF⟩ := q_bind HF
          refine q_cll (m' := 89) (av := [.inr (.inr (1, 0, 0)), .inl ((a1 * (10 : Int32)) + a2)]) (st' := [.inr (.inr (24, 6, 0))]) (pc' := 85) (loc' := [some (.inr (.inr (24, 6, 0))), some (.inl a1), some (.inl a2), some (.inl a3), some (.inl ((a1 * (10 : Int32)) + a2))]) (h' := h) 6 (fun _ _ => rfl) (ePg_at (by omega) hx6) ?_
          obtain ⟨x7, hx8, HF⟩ := q_bind HF
          refine q_cll (m' := 45) (av := [.inr (.inr (24, 6, 0)), .inl (h.1 3 0 0 x5)]) (st' := []) (pc' := 91) (loc' := [some (.inr (.inr (24, 6, 0))), some (.inl a1), some (.inl a2), some (.inl a3), some (.inl ((a1 * (10 : Int32)) + a2))]) (h' := h) 2 (fun _ _ => rfl) (eRp_answer (by omega) hx8) ?_
          have hz := Option.some.inj HF
          subst hz
          exact q_rtn 1 (fun _ _ => rfl)
        · rw [if_neg c23] at HF
          by_cases c24 : a3 = 1
          · rw [if_pos c24] at HF
            refine q_sw (o1 := 47) (pcx := 45) (pc' := 92) (loc' := [some (.inr (.inr (24, 6, 0))), some (.inl a1), some (.inl a2), some (.inl a3), some (.inl ((a1 * (10 : Int32)) + a2))]) (stk' := []) (h' := h) 8 (fun _ _ => rfl) (q_tsI c24 rfl) rfl ?_
            obtain ⟨x9, hx10, HF⟩ := q_bind HF
            refine q_cll (m' := 89) (av := [.inr (.inr (1, 0, 0)), .inl ((a1 * (10 : Int32)) + a2)]) (st' := [.inr (.inr (24, 6, 0))]) (pc' := 105) (loc' := [some (.inr (.inr (24, 6, 0))), some (.inl a1), some (.inl a2), some (.inl a3), some (.inl ((a1 * (10 : Int32)) + a2))]) (h' := h) 6 (fun _ _ => rfl) (ePg_at (by omega) hx10) ?_
            obtain ⟨x11, hx12, HF⟩ := q_bind HF
            refine q_cll (m' := 59) (av := [.inl (h.1 3 1 0 x9)]) (st' := [.inr (.inr (24, 6, 0))]) (pc' := 111) (loc' := [some (.inr (.inr (24, 6, 0))), some (.inl a1), some (.inl a2), some (.inl a3), some (.inl ((a1 * (10 : Int32)) + a2))]) (h' := h) 2 (fun _ _ => rfl) (eRp_slotOf (by omega) hx12) ?_
            obtain ⟨x13, hx14, HF⟩ := q_bind HF
            refine q_cll (m' := 45) (av := [.inr (.inr (24, 6, 0)), .inl x11]) (st' := []) (pc' := 114) (loc' := [some (.inr (.inr (24, 6, 0))), some (.inl a1), some (.inl a2), some (.inl a3), some (.inl ((a1 * (10 : Int32)) + a2))]) (h' := h) 1 (fun _ _ => rfl) (eRp_answer (by omega) hx14) ?_
            have hz := Option.some.inj HF
            subst hz
            exact q_rtn 1 (fun _ _ => rfl)
          · rw [if_neg c24] at HF
            by_cases c25 : a3 = 2
            · rw [if_pos c25] at HF
              refine q_sw (o1 := 70) (pcx := 45) (pc' := 115) (loc' := [some (.inr (.inr (24, 6, 0))), some (.inl a1), some (.inl a2), some (.inl a3), some (.inl ((a1 * (10 : Int32)) + a2))]) (stk' := []) (h' := h) 8 (fun _ _ => rfl) (q_tsI c25 rfl) rfl ?_
              obtain ⟨x15, hx16, HF⟩ := q_bind HF
              refine q_cll (m' := 79) (av := [.inr (.inr (11, 0, 0)), .inl ((a1 * (10 : Int32)) + a2)]) (st' := [.inr (.inr (24, 6, 0))]) (pc' := 128) (loc' := [some (.inr (.inr (24, 6, 0))), some (.inl a1), some (.inl a2), some (.inl a3), some (.inl ((a1 * (10 : Int32)) + a2))]) (h' := h) 6 (fun _ _ => rfl) (eIx_howManyLeadTo (by omega) hx16) ?_
              obtain ⟨x17, hx18, HF⟩ := q_bind HF
              refine q_cll (m' := 45) (av := [.inr (.inr (24, 6, 0)), .inl x15]) (st' := []) (pc' := 131) (loc' := [some (.inr (.inr (24, 6, 0))), some (.inl a1), some (.inl a2), some (.inl a3), some (.inl ((a1 * (10 : Int32)) + a2))]) (h' := h) 1 (fun _ _ => rfl) (eRp_answer (by omega) hx18) ?_
              have hz := Option.some.inj HF
              subst hz
              exact q_rtn 1 (fun _ _ => rfl)
            · rw [if_neg c25] at HF
              refine q_sw (o1 := 87) (pcx := 45) (pc' := 132) (loc' := [some (.inr (.inr (24, 6, 0))), some (.inl a1), some (.inl a2), some (.inl a3), some (.inl ((a1 * (10 : Int32)) + a2))]) (stk' := []) (h' := h) 8 (fun _ _ => rfl) (q_tsD (a := a3) (lo := 0) (hi := 2) (by have z0 := q_neI c23 (a := 0) rfl; have z1 := q_neI c24 (a := 1) rfl; have z2 := q_neI c25 (a := 2) rfl; omega)) rfl ?_
              obtain ⟨x19, hx20, HF⟩ := q_bind HF
              refine q_cll (m' := 159) (av := [.inr (.inr (0, 0, 0)), .inl ((a1 * (10 : Int32)) + a2)]) (st' := [.inr (.inr (24, 6, 0))]) (pc' := 142) (loc' := [some (.inr (.inr (24, 6, 0))), some (.inl a1), some (.inl a2), some (.inl a3), some (.inl ((a1 * (10 : Int32)) + a2))]) (h' := h) 5 (fun _ _ => rfl) (eSt_chainLength (by omega) hx20) ?_
              obtain ⟨x21, hx22, HF⟩ := q_bind HF
              refine q_cll (m' := 45) (av := [.inr (.inr (24, 6, 0)), .inl x19]) (st' := []) (pc' := 145) (loc' := [some (.inr (.inr (24, 6, 0))), some (.inl a1), some (.inl a2), some (.inl a3), some (.inl ((a1 * (10 : Int32)) + a2))]) (h' := h) 1 (fun _ _ => rfl) (eRp_answer (by omega) hx22) ?_
              have hz := Option.some.inj HF
              subst hz
              exact q_rtn 1 (fun _ _ => rfl)
      · rw [if_neg c28] at HF
        obtain ⟨x26, hx27, HF⟩ := q_bind HF
        refine q_cll (m' := 46) (av := [.inr (.inr (24, 6, 0)), .inl (2 : Int32)]) (st' := []) (pc' := 35) (loc' := [some (.inr (.inr (24, 6, 0))), some (.inl a1), some (.inl a2), some (.inl a3), none]) (h' := h) 3 (fun _ _ => rfl) (eRp_refuse (by omega) hx27) ?_
        have hz := Option.some.inj HF
        subst hz
        exact q_rtn 1 (fun _ _ => rfl)
    · rw [if_neg c31] at HF
      obtain ⟨x29, hx30, HF⟩ := q_bind HF
      refine q_cll (m' := 46) (av := [.inr (.inr (24, 6, 0)), .inl (1 : Int32)]) (st' := []) (pc' := 14) (loc' := [some (.inr (.inr (24, 6, 0))), some (.inl a1), some (.inl a2), some (.inl a3), none]) (h' := h) 3 (fun _ _ => rfl) (eRp_refuse (by omega) hx30) ?_
      have hz := Option.some.inj HF
      subst hz
      exact q_rtn 1 (fun _ _ => rfl)
def Rp_sees (a1 : Int32) (a2 : Int32) (a3 : Int32) (h : q_H) : Option (Int32 × q_H) :=
  if a3 < 0 then ((Rp_refuse (1 : Int32) h).bind fun x1 => some ((x1.1, x1.2))) else (if a3 ≤ (3 : Int32) then ((Tn_has 0 a1 h).bind fun x3 => if x3 = 0 then ((Rp_refuse (2 : Int32) h).bind fun x5 => some ((x5.1, x5.2))) else ((St_hasRow 0 a2 h).bind fun x7 => if ¬ x7 = 0 then ((St_seenPlace 0 a1 a2 h).bind fun x9 => if ¬ x9 = (-1 : Int32) then (if a3 = 0 then ((Rp_pageOf x9 h).bind fun x11 => (Rp_answer x11 h).bind fun x13 => some ((x13.1, x13.2))) else (if a3 = 1 then ((Rp_slotOf x9 h).bind fun x15 => (Rp_answer x15 h).bind fun x17 => some ((x17.1, x17.2))) else (if a3 = 2 then ((Pg_at 0 x9 h).bind fun x19 => (Rp_answer (h.1 3 3 0 x19) h).bind fun x21 => some ((x21.1, x21.2))) else ((Pg_at 0 x9 h).bind fun x23 => (Rp_answer (h.1 3 4 0 x23) h).bind fun x25 => some ((x25.1, x25.2)))))) else ((Rp_refuse (6 : Int32) h).bind fun x30 => some ((x30.1, x30.2)))) else ((Rp_refuse (2 : Int32) h).bind fun x33 => some ((x33.1, x33.2))))) else ((Rp_refuse (1 : Int32) h).bind fun x37 => some ((x37.1, x37.2))))
set_option maxRecDepth 100000 in
set_option maxHeartbeats 4000000 in
theorem eRp_sees {d : Nat} (hd : 4 ≤ d) {a1 : Int32} {a2 : Int32} {a3 : Int32} {h : q_H} {r : (Int32 × q_H)} (HF : Rp_sees a1 a2 a3 h = some r) : q_T d 17 [.inr (.inr (24, 6, 0)), .inl a1, .inl a2, .inl a3] h (some (.inl r.1), r.2) := by
  obtain ⟨d, rfl⟩ : ∃ d', d = d' + 1 := ⟨d - 1, by omega⟩
  refine q_ent q_K17 rfl rfl rfl ?_
  unfold Rp_sees at HF
  refine q_br (P := a3 < 0) (pcT := 9) (pcF := 4) (loc' := [some (.inr (.inr (24, 6, 0))), some (.inl a1), some (.inl a2), some (.inl a3), none]) (stk' := []) (h' := h) 2 (fun _ _ => rfl) (fun c40 => ?_) (fun c40 => ?_)
  · rw [if_pos c40] at HF
    obtain ⟨x1, hx2, HF⟩ := q_bind HF
    refine q_cll (m' := 46) (av := [.inr (.inr (24, 6, 0)), .inl (1 : Int32)]) (st' := []) (pc' := 14) (loc' := [some (.inr (.inr (24, 6, 0))), some (.inl a1), some (.inl a2), some (.inl a3), none]) (h' := h) 3 (fun _ _ => rfl) (eRp_refuse (by omega) hx2) ?_
    have hz := Option.some.inj HF
    subst hz
    exact q_rtn 1 (fun _ _ => rfl)
  · rw [if_neg c40] at HF
    refine q_br (P := a3 ≤ (3 : Int32)) (pcT := 15) (pcF := 9) (loc' := [some (.inr (.inr (24, 6, 0))), some (.inl a1), some (.inl a2), some (.inl a3), none]) (stk' := []) (h' := h) 3 (fun _ _ => rfl) (fun c39 => ?_) (fun c39 => ?_)
    · rw [if_pos c39] at HF
      obtain ⟨x3, hx4, HF⟩ := q_bind HF
      refine q_cll (m' := 105) (av := [.inr (.inr (6, 0, 0)), .inl a1]) (st' := []) (pc' := 26) (loc' := [some (.inr (.inr (24, 6, 0))), some (.inl a1), some (.inl a2), some (.inl a3), none]) (h' := h) 5 (fun _ _ => rfl) (eTn_has (by omega) hx4) ?_
      refine q_br (P := x3 = 0) (pcT := 40) (pcF := 29) (loc' := [some (.inr (.inr (24, 6, 0))), some (.inl a1), some (.inl a2), some (.inl a3), none]) (stk' := []) (h' := h) 1 (fun _ _ => rfl) (fun c36 => ?_) (fun c36 => ?_)
      · rw [if_pos c36] at HF
        obtain ⟨x5, hx6, HF⟩ := q_bind HF
        refine q_cll (m' := 46) (av := [.inr (.inr (24, 6, 0)), .inl (2 : Int32)]) (st' := []) (pc' := 45) (loc' := [some (.inr (.inr (24, 6, 0))), some (.inl a1), some (.inl a2), some (.inl a3), none]) (h' := h) 3 (fun _ _ => rfl) (eRp_refuse (by omega) hx6) ?_
        have hz := Option.some.inj HF
        subst hz
        exact q_rtn 1 (fun _ _ => rfl)
      · rw [if_neg c36] at HF
        obtain ⟨x7, hx8, HF⟩ := q_bind HF
        refine q_cll (m' := 144) (av := [.inr (.inr (0, 0, 0)), .inl a2]) (st' := []) (pc' := 37) (loc' := [some (.inr (.inr (24, 6, 0))), some (.inl a1), some (.inl a2), some (.inl a3), none]) (h' := h) 4 (fun _ _ => rfl) (eSt_hasRow (by omega) hx8) ?_
        refine q_br (P := ¬ x7 = 0) (pcT := 46) (pcF := 40) (loc' := [some (.inr (.inr (24, 6, 0))), some (.inl a1), some (.inl a2), some (.inl a3), none]) (stk' := []) (h' := h) 1 (fun _ _ => rfl) (fun c35 => ?_) (fun c35 => ?_)
        · rw [if_pos c35] at HF
          obtain ⟨x9, hx10, HF⟩ := q_bind HF
          refine q_cll (m' := 156) (av := [.inr (.inr (0, 0, 0)), .inl a1, .inl a2]) (st' := []) (pc' := 55) (loc' := [some (.inr (.inr (24, 6, 0))), some (.inl a1), some (.inl a2), some (.inl a3), none]) (h' := h) 5 (fun _ _ => rfl) (eSt_seenPlace (by omega) hx10) ?_
          refine q_br (P := ¬ x9 = (-1 : Int32)) (pcT := 70) (pcF := 63) (loc' := [some (.inr (.inr (24, 6, 0))), some (.inl a1), some (.inl a2), some (.inl a3), some (.inl x9)]) (stk' := []) (h' := h) 4 (fun _ _ => rfl) (fun c32 => ?_) (fun c32 => ?_)
          · rw [if_pos c32] at HF
            by_cases c27 : a3 = 0
            · rw [if_pos c27] at HF
              refine q_sw (o1 := 25) (pcx := 71) (pc' := 96) (loc' := [some (.inr (.inr (24, 6, 0))), some (.inl a1), some (.inl a2), some (.inl a3), some (.inl x9)]) (stk' := []) (h' := h) 2 (fun _ _ => rfl) (q_tsI c27 rfl) rfl ?_
              obtain ⟨x11, hx12, HF⟩ := q_bind HF
              refine q_cll (m' := 58) (av := [.inl x9]) (st' := [.inr (.inr (24, 6, 0))]) (pc' := 102) (loc' := [some (.inr (.inr (24, 6, 0))), some (.inl a1), some (.inl a2), some (.inl a3), some (.inl x9)]) (h' := h) 3 (fun _ _ => rfl) (eRp_pageOf (by omega) hx12) ?_
              obtain ⟨x13, hx14, HF⟩ := q_bind HF
              refine q_cll (m' := 45) (av := [.inr (.inr (24, 6, 0)), .inl x11]) (st' := []) (pc' := 105) (loc' := [some (.inr (.inr (24, 6, 0))), some (.inl a1), some (.inl a2), some (.inl a3), some (.inl x9)]) (h' := h) 1 (fun _ _ => rfl) (eRp_answer (by omega) hx14) ?_
              have hz := Option.some.inj HF
              subst hz
              exact q_rtn 1 (fun _ _ => rfl)
            · rw [if_neg c27] at HF
              by_cases c28 : a3 = 1
              · rw [if_pos c28] at HF
                refine q_sw (o1 := 35) (pcx := 71) (pc' := 106) (loc' := [some (.inr (.inr (24, 6, 0))), some (.inl a1), some (.inl a2), some (.inl a3), some (.inl x9)]) (stk' := []) (h' := h) 2 (fun _ _ => rfl) (q_tsI c28 rfl) rfl ?_
                obtain ⟨x15, hx16, HF⟩ := q_bind HF
                refine q_cll (m' := 59) (av := [.inl x9]) (st' := [.inr (.inr (24, 6, 0))]) (pc' := 112) (loc' := [some (.inr (.inr (24, 6, 0))), some (.inl a1), some (.inl a2), some (.inl a3), some (.inl x9)]) (h' := h) 3 (fun _ _ => rfl) (eRp_slotOf (by omega) hx16) ?_
                obtain ⟨x17, hx18, HF⟩ := q_bind HF
                refine q_cll (m' := 45) (av := [.inr (.inr (24, 6, 0)), .inl x15]) (st' := []) (pc' := 115) (loc' := [some (.inr (.inr (24, 6, 0))), some (.inl a1), some (.inl a2), some (.inl a3), some (.inl x9)]) (h' := h) 1 (fun _ _ => rfl) (eRp_answer (by omega) hx18) ?_
                have hz := Option.some.inj HF
                subst hz
                exact q_rtn 1 (fun _ _ => rfl)
              · rw [if_neg c28] at HF
                by_cases c29 : a3 = 2
                · rw [if_pos c29] at HF
                  refine q_sw (o1 := 45) (pcx := 71) (pc' := 116) (loc' := [some (.inr (.inr (24, 6, 0))), some (.inl a1), some (.inl a2), some (.inl a3), some (.inl x9)]) (stk' := []) (h' := h) 2 (fun _ _ => rfl) (q_tsI c29 rfl) rfl ?_
                  obtain ⟨x19, hx20, HF⟩ := q_bind HF
                  refine q_cll (m' := 89) (av := [.inr (.inr (1, 0, 0)), .inl x9]) (st' := [.inr (.inr (24, 6, 0))]) (pc' := 129) (loc' := [some (.inr (.inr (24, 6, 0))), some (.inl a1), some (.inl a2), some (.inl a3), some (.inl x9)]) (h' := h) 6 (fun _ _ => rfl) (ePg_at (by omega) hx20) ?_
                  obtain ⟨x21, hx22, HF⟩ := q_bind HF
                  refine q_cll (m' := 45) (av := [.inr (.inr (24, 6, 0)), .inl (h.1 3 3 0 x19)]) (st' := []) (pc' := 135) (loc' := [some (.inr (.inr (24, 6, 0))), some (.inl a1), some (.inl a2), some (.inl a3), some (.inl x9)]) (h' := h) 2 (fun _ _ => rfl) (eRp_answer (by omega) hx22) ?_
                  have hz := Option.some.inj HF
                  subst hz
                  exact q_rtn 1 (fun _ _ => rfl)
                · rw [if_neg c29] at HF
                  refine q_sw (o1 := 65) (pcx := 71) (pc' := 136) (loc' := [some (.inr (.inr (24, 6, 0))), some (.inl a1), some (.inl a2), some (.inl a3), some (.inl x9)]) (stk' := []) (h' := h) 2 (fun _ _ => rfl) (q_tsD (a := a3) (lo := 0) (hi := 2) (by have z0 := q_neI c27 (a := 0) rfl; have z1 := q_neI c28 (a := 1) rfl; have z2 := q_neI c29 (a := 2) rfl; omega)) rfl ?_
                  obtain ⟨x23, hx24, HF⟩ := q_bind HF
                  refine q_cll (m' := 89) (av := [.inr (.inr (1, 0, 0)), .inl x9]) (st' := [.inr (.inr (24, 6, 0))]) (pc' := 149) (loc' := [some (.inr (.inr (24, 6, 0))), some (.inl a1), some (.inl a2), some (.inl a3), some (.inl x9)]) (h' := h) 6 (fun _ _ => rfl) (ePg_at (by omega) hx24) ?_
                  obtain ⟨x25, hx26, HF⟩ := q_bind HF
                  refine q_cll (m' := 45) (av := [.inr (.inr (24, 6, 0)), .inl (h.1 3 4 0 x23)]) (st' := []) (pc' := 155) (loc' := [some (.inr (.inr (24, 6, 0))), some (.inl a1), some (.inl a2), some (.inl a3), some (.inl x9)]) (h' := h) 2 (fun _ _ => rfl) (eRp_answer (by omega) hx26) ?_
                  have hz := Option.some.inj HF
                  subst hz
                  exact q_rtn 1 (fun _ _ => rfl)
          · rw [if_neg c32] at HF
            obtain ⟨x30, hx31, HF⟩ := q_bind HF
            refine q_cll (m' := 46) (av := [.inr (.inr (24, 6, 0)), .inl (6 : Int32)]) (st' := []) (pc' := 69) (loc' := [some (.inr (.inr (24, 6, 0))), some (.inl a1), some (.inl a2), some (.inl a3), some (.inl x9)]) (h' := h) 3 (fun _ _ => rfl) (eRp_refuse (by omega) hx31) ?_
            have hz := Option.some.inj HF
            subst hz
            exact q_rtn 1 (fun _ _ => rfl)
        · rw [if_neg c35] at HF
          obtain ⟨x33, hx34, HF⟩ := q_bind HF
          refine q_cll (m' := 46) (av := [.inr (.inr (24, 6, 0)), .inl (2 : Int32)]) (st' := []) (pc' := 45) (loc' := [some (.inr (.inr (24, 6, 0))), some (.inl a1), some (.inl a2), some (.inl a3), none]) (h' := h) 3 (fun _ _ => rfl) (eRp_refuse (by omega) hx34) ?_
          have hz := Option.some.inj HF
          subst hz
          exact q_rtn 1 (fun _ _ => rfl)
    · rw [if_neg c39] at HF
      obtain ⟨x37, hx38, HF⟩ := q_bind HF
      refine q_cll (m' := 46) (av := [.inr (.inr (24, 6, 0)), .inl (1 : Int32)]) (st' := []) (pc' := 14) (loc' := [some (.inr (.inr (24, 6, 0))), some (.inl a1), some (.inl a2), some (.inl a3), none]) (h' := h) 3 (fun _ _ => rfl) (eRp_refuse (by omega) hx38) ?_
      have hz := Option.some.inj HF
      subst hz
      exact q_rtn 1 (fun _ _ => rfl)
def Rp_trail (a1 : Int32) (a2 : Int32) (a3 : Int32) (h : q_H) : Option (Int32 × q_H) :=
  if a2 < 0 then ((Rp_refuse (1 : Int32) h).bind fun x1 => some ((x1.1, x1.2))) else (if a3 < 0 then ((Rp_refuse (1 : Int32) h).bind fun x3 => some ((x3.1, x3.2))) else (if a3 ≤ (1 : Int32) then ((St_hasRow 0 a1 h).bind fun x5 => if ¬ x5 = 0 then ((St_placeMade 0 a1 a2 h).bind fun x7 => if ¬ x7 = (-1 : Int32) then (if ¬ a3 = 0 then ((Rp_slotOf x7 h).bind fun x9 => (Rp_answer x9 h).bind fun x11 => some ((x11.1, x11.2))) else ((Rp_pageOf x7 h).bind fun x13 => (Rp_answer x13 h).bind fun x15 => some ((x15.1, x15.2)))) else ((Rp_refuse (5 : Int32) h).bind fun x18 => some ((x18.1, x18.2)))) else ((Rp_refuse (2 : Int32) h).bind fun x21 => some ((x21.1, x21.2)))) else ((Rp_refuse (1 : Int32) h).bind fun x24 => some ((x24.1, x24.2)))))
set_option maxRecDepth 100000 in
set_option maxHeartbeats 4000000 in
theorem eRp_trail {d : Nat} (hd : 4 ≤ d) {a1 : Int32} {a2 : Int32} {a3 : Int32} {h : q_H} {r : (Int32 × q_H)} (HF : Rp_trail a1 a2 a3 h = some r) : q_T d 19 [.inr (.inr (24, 6, 0)), .inl a1, .inl a2, .inl a3] h (some (.inl r.1), r.2) := by
  obtain ⟨d, rfl⟩ : ∃ d', d = d' + 1 := ⟨d - 1, by omega⟩
  refine q_ent q_K19 rfl rfl rfl ?_
  unfold Rp_trail at HF
  refine q_br (P := a2 < 0) (pcT := 13) (pcF := 4) (loc' := [some (.inr (.inr (24, 6, 0))), some (.inl a1), some (.inl a2), some (.inl a3), none]) (stk' := []) (h' := h) 2 (fun _ _ => rfl) (fun c28 => ?_) (fun c28 => ?_)
  · rw [if_pos c28] at HF
    obtain ⟨x1, hx2, HF⟩ := q_bind HF
    refine q_cll (m' := 46) (av := [.inr (.inr (24, 6, 0)), .inl (1 : Int32)]) (st' := []) (pc' := 18) (loc' := [some (.inr (.inr (24, 6, 0))), some (.inl a1), some (.inl a2), some (.inl a3), none]) (h' := h) 3 (fun _ _ => rfl) (eRp_refuse (by omega) hx2) ?_
    have hz := Option.some.inj HF
    subst hz
    exact q_rtn 1 (fun _ _ => rfl)
  · rw [if_neg c28] at HF
    refine q_br (P := a3 < 0) (pcT := 13) (pcF := 8) (loc' := [some (.inr (.inr (24, 6, 0))), some (.inl a1), some (.inl a2), some (.inl a3), none]) (stk' := []) (h' := h) 2 (fun _ _ => rfl) (fun c27 => ?_) (fun c27 => ?_)
    · rw [if_pos c27] at HF
      obtain ⟨x3, hx4, HF⟩ := q_bind HF
      refine q_cll (m' := 46) (av := [.inr (.inr (24, 6, 0)), .inl (1 : Int32)]) (st' := []) (pc' := 18) (loc' := [some (.inr (.inr (24, 6, 0))), some (.inl a1), some (.inl a2), some (.inl a3), none]) (h' := h) 3 (fun _ _ => rfl) (eRp_refuse (by omega) hx4) ?_
      have hz := Option.some.inj HF
      subst hz
      exact q_rtn 1 (fun _ _ => rfl)
    · rw [if_neg c27] at HF
      refine q_br (P := a3 ≤ (1 : Int32)) (pcT := 19) (pcF := 13) (loc' := [some (.inr (.inr (24, 6, 0))), some (.inl a1), some (.inl a2), some (.inl a3), none]) (stk' := []) (h' := h) 3 (fun _ _ => rfl) (fun c26 => ?_) (fun c26 => ?_)
      · rw [if_pos c26] at HF
        obtain ⟨x5, hx6, HF⟩ := q_bind HF
        refine q_cll (m' := 144) (av := [.inr (.inr (0, 0, 0)), .inl a1]) (st' := []) (pc' := 27) (loc' := [some (.inr (.inr (24, 6, 0))), some (.inl a1), some (.inl a2), some (.inl a3), none]) (h' := h) 4 (fun _ _ => rfl) (eSt_hasRow (by omega) hx6) ?_
        refine q_br (P := ¬ x5 = 0) (pcT := 36) (pcF := 30) (loc' := [some (.inr (.inr (24, 6, 0))), some (.inl a1), some (.inl a2), some (.inl a3), none]) (stk' := []) (h' := h) 1 (fun _ _ => rfl) (fun c23 => ?_) (fun c23 => ?_)
        · rw [if_pos c23] at HF
          obtain ⟨x7, hx8, HF⟩ := q_bind HF
          refine q_cll (m' := 151) (av := [.inr (.inr (0, 0, 0)), .inl a1, .inl a2]) (st' := []) (pc' := 45) (loc' := [some (.inr (.inr (24, 6, 0))), some (.inl a1), some (.inl a2), some (.inl a3), none]) (h' := h) 5 (fun _ _ => rfl) (eSt_placeMade (by omega) hx8) ?_
          refine q_br (P := ¬ x7 = (-1 : Int32)) (pcT := 59) (pcF := 53) (loc' := [some (.inr (.inr (24, 6, 0))), some (.inl a1), some (.inl a2), some (.inl a3), some (.inl x7)]) (stk' := []) (h' := h) 4 (fun _ _ => rfl) (fun c20 => ?_) (fun c20 => ?_)
          · rw [if_pos c20] at HF
            refine q_br (P := ¬ a3 = 0) (pcT := 72) (pcF := 64) (loc' := [some (.inr (.inr (24, 6, 0))), some (.inl a1), some (.inl a2), some (.inl a3), some (.inl x7)]) (stk' := [.inr (.inr (24, 6, 0))]) (h' := h) 3 (fun _ _ => rfl) (fun c17 => ?_) (fun c17 => ?_)
            · rw [if_pos c17] at HF
              obtain ⟨x9, hx10, HF⟩ := q_bind HF
              refine q_cll (m' := 59) (av := [.inl x7]) (st' := [.inr (.inr (24, 6, 0))]) (pc' := 77) (loc' := [some (.inr (.inr (24, 6, 0))), some (.inl a1), some (.inl a2), some (.inl a3), some (.inl x7)]) (h' := h) 2 (fun _ _ => rfl) (eRp_slotOf (by omega) hx10) ?_
              obtain ⟨x11, hx12, HF⟩ := q_bind HF
              refine q_cll (m' := 45) (av := [.inr (.inr (24, 6, 0)), .inl x9]) (st' := []) (pc' := 80) (loc' := [some (.inr (.inr (24, 6, 0))), some (.inl a1), some (.inl a2), some (.inl a3), some (.inl x7)]) (h' := h) 1 (fun _ _ => rfl) (eRp_answer (by omega) hx12) ?_
              have hz := Option.some.inj HF
              subst hz
              exact q_rtn 1 (fun _ _ => rfl)
            · rw [if_neg c17] at HF
              obtain ⟨x13, hx14, HF⟩ := q_bind HF
              refine q_cll (m' := 58) (av := [.inl x7]) (st' := [.inr (.inr (24, 6, 0))]) (pc' := 69) (loc' := [some (.inr (.inr (24, 6, 0))), some (.inl a1), some (.inl a2), some (.inl a3), some (.inl x7)]) (h' := h) 2 (fun _ _ => rfl) (eRp_pageOf (by omega) hx14) ?_
              obtain ⟨x15, hx16, HF⟩ := q_bind HF
              refine q_cll (m' := 45) (av := [.inr (.inr (24, 6, 0)), .inl x13]) (st' := []) (pc' := 80) (loc' := [some (.inr (.inr (24, 6, 0))), some (.inl a1), some (.inl a2), some (.inl a3), some (.inl x7)]) (h' := h) 2 (fun _ _ => rfl) (eRp_answer (by omega) hx16) ?_
              have hz := Option.some.inj HF
              subst hz
              exact q_rtn 1 (fun _ _ => rfl)
          · rw [if_neg c20] at HF
            obtain ⟨x18, hx19, HF⟩ := q_bind HF
            refine q_cll (m' := 46) (av := [.inr (.inr (24, 6, 0)), .inl (5 : Int32)]) (st' := []) (pc' := 58) (loc' := [some (.inr (.inr (24, 6, 0))), some (.inl a1), some (.inl a2), some (.inl a3), some (.inl x7)]) (h' := h) 3 (fun _ _ => rfl) (eRp_refuse (by omega) hx19) ?_
            have hz := Option.some.inj HF
            subst hz
            exact q_rtn 1 (fun _ _ => rfl)
        · rw [if_neg c23] at HF
          obtain ⟨x21, hx22, HF⟩ := q_bind HF
          refine q_cll (m' := 46) (av := [.inr (.inr (24, 6, 0)), .inl (2 : Int32)]) (st' := []) (pc' := 35) (loc' := [some (.inr (.inr (24, 6, 0))), some (.inl a1), some (.inl a2), some (.inl a3), none]) (h' := h) 3 (fun _ _ => rfl) (eRp_refuse (by omega) hx22) ?_
          have hz := Option.some.inj HF
          subst hz
          exact q_rtn 1 (fun _ _ => rfl)
      · rw [if_neg c26] at HF
        obtain ⟨x24, hx25, HF⟩ := q_bind HF
        refine q_cll (m' := 46) (av := [.inr (.inr (24, 6, 0)), .inl (1 : Int32)]) (st' := []) (pc' := 18) (loc' := [some (.inr (.inr (24, 6, 0))), some (.inl a1), some (.inl a2), some (.inl a3), none]) (h' := h) 3 (fun _ _ => rfl) (eRp_refuse (by omega) hx25) ?_
        have hz := Option.some.inj HF
        subst hz
        exact q_rtn 1 (fun _ _ => rfl)
def Rp_without (a1 : Int32) (h : q_H) : Option (Int32 × q_H) :=
  (Rp_asOpen a1 h).bind fun x1 => if ¬ x1 = 0 then ((Rp_refuse x1 h).bind fun x3 => some ((x3.1, x3.2))) else ((Tn_horizonBut 0 a1 h).bind fun x5 => (Rp_answer x5 h).bind fun x7 => some ((x7.1, x7.2)))
set_option maxRecDepth 100000 in
set_option maxHeartbeats 4000000 in
theorem eRp_without {d : Nat} (hd : 4 ≤ d) {a1 : Int32} {h : q_H} {r : (Int32 × q_H)} (HF : Rp_without a1 h = some r) : q_T d 36 [.inr (.inr (24, 6, 0)), .inl a1] h (some (.inl r.1), r.2) := by
  obtain ⟨d, rfl⟩ : ∃ d', d = d' + 1 := ⟨d - 1, by omega⟩
  refine q_ent q_K36 rfl rfl rfl ?_
  unfold Rp_without at HF
  obtain ⟨x1, hx2, HF⟩ := q_bind HF
  refine q_cll (m' := 47) (av := [.inr (.inr (24, 6, 0)), .inl a1]) (st' := []) (pc' := 5) (loc' := [some (.inr (.inr (24, 6, 0))), some (.inl a1), none]) (h' := h) 3 (fun _ _ => rfl) (eRp_asOpen (by omega) hx2) ?_
  refine q_br (P := ¬ x1 = 0) (pcT := 28) (pcF := 10) (loc' := [some (.inr (.inr (24, 6, 0))), some (.inl a1), some (.inl x1)]) (stk' := []) (h' := h) 3 (fun _ _ => rfl) (fun c9 => ?_) (fun c9 => ?_)
  · rw [if_pos c9] at HF
    obtain ⟨x3, hx4, HF⟩ := q_bind HF
    refine q_cll (m' := 46) (av := [.inr (.inr (24, 6, 0)), .inl x1]) (st' := []) (pc' := 33) (loc' := [some (.inr (.inr (24, 6, 0))), some (.inl a1), some (.inl x1)]) (h' := h) 3 (fun _ _ => rfl) (eRp_refuse (by omega) hx4) ?_
    have hz := Option.some.inj HF
    subst hz
    exact q_rtn 1 (fun _ _ => rfl)
  · rw [if_neg c9] at HF
    obtain ⟨x5, hx6, HF⟩ := q_bind HF
    refine q_cll (m' := 115) (av := [.inr (.inr (6, 0, 0)), .inl a1]) (st' := [.inr (.inr (24, 6, 0))]) (pc' := 22) (loc' := [some (.inr (.inr (24, 6, 0))), some (.inl a1), some (.inl x1)]) (h' := h) 6 (fun _ _ => rfl) (eTn_horizonBut (by omega) hx6) ?_
    obtain ⟨x7, hx8, HF⟩ := q_bind HF
    refine q_cll (m' := 45) (av := [.inr (.inr (24, 6, 0)), .inl x5]) (st' := []) (pc' := 25) (loc' := [some (.inr (.inr (24, 6, 0))), some (.inl a1), some (.inl x1)]) (h' := h) 1 (fun _ _ => rfl) (eRp_answer (by omega) hx8) ?_
    have hz := Option.some.inj HF
    subst hz
    exact q_rtn 2 (fun _ _ => rfl)
def Rp_holder  (h : q_H) : Option (Int32 × q_H) :=
  (Tn_firstAtHorizon 0 h).bind fun x1 => if ¬ x1 = (-1 : Int32) then ((Rp_answer x1 h).bind fun x3 => some ((x3.1, x3.2))) else ((Rp_refuse (5 : Int32) h).bind fun x5 => some ((x5.1, x5.2)))
set_option maxRecDepth 100000 in
set_option maxHeartbeats 4000000 in
theorem eRp_holder {d : Nat} (hd : 4 ≤ d)  {h : q_H} {r : (Int32 × q_H)} (HF : Rp_holder  h = some r) : q_T d 39 [.inr (.inr (24, 6, 0))] h (some (.inl r.1), r.2) := by
  obtain ⟨d, rfl⟩ : ∃ d', d = d' + 1 := ⟨d - 1, by omega⟩
  refine q_ent q_K39 rfl rfl rfl ?_
  unfold Rp_holder at HF
  obtain ⟨x1, hx2, HF⟩ := q_bind HF
  refine q_cll (m' := 116) (av := [.inr (.inr (6, 0, 0))]) (st' := []) (pc' := 10) (loc' := [some (.inr (.inr (24, 6, 0))), none]) (h' := h) 4 (fun _ _ => rfl) (eTn_firstAtHorizon (by omega) hx2) ?_
  refine q_br (P := ¬ x1 = (-1 : Int32)) (pcT := 24) (pcF := 16) (loc' := [some (.inr (.inr (24, 6, 0))), some (.inl x1)]) (stk' := []) (h' := h) 4 (fun _ _ => rfl) (fun c7 => ?_) (fun c7 => ?_)
  · rw [if_pos c7] at HF
    obtain ⟨x3, hx4, HF⟩ := q_bind HF
    refine q_cll (m' := 45) (av := [.inr (.inr (24, 6, 0)), .inl x1]) (st' := []) (pc' := 29) (loc' := [some (.inr (.inr (24, 6, 0))), some (.inl x1)]) (h' := h) 3 (fun _ _ => rfl) (eRp_answer (by omega) hx4) ?_
    have hz := Option.some.inj HF
    subst hz
    exact q_rtn 1 (fun _ _ => rfl)
  · rw [if_neg c7] at HF
    obtain ⟨x5, hx6, HF⟩ := q_bind HF
    refine q_cll (m' := 46) (av := [.inr (.inr (24, 6, 0)), .inl (5 : Int32)]) (st' := []) (pc' := 21) (loc' := [some (.inr (.inr (24, 6, 0))), some (.inl x1)]) (h' := h) 3 (fun _ _ => rfl) (eRp_refuse (by omega) hx6) ?_
    have hz := Option.some.inj HF
    subst hz
    exact q_rtn 2 (fun _ _ => rfl)
