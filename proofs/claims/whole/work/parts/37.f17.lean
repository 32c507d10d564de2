def Mo_readsLine  (h : q_H) : Option q_H :=
  (Mo_key h).bind fun x1 => Option.bind (α := Int32) (if x1 < 0 then (some ((0 : Int32))) else (some ((1 : Int32)))) (fun p8 => (Mo_must p8 (2 : Int32) (h.1 30 17 7 0) h).bind fun x9 => if (x9.1 30 15 7 0) ≤ 0 then (Option.bind (α := Int32) (if (2 : Int32) < x1 then (some ((1 : Int32))) else (if ¬ (((x9.1 30 26 7 0) >>> (x1 &&& 31)) &&& (1 : Int32)) = 0 then (some ((0 : Int32))) else (if ¬ (x9.1 30 27 7 0) = 0 then (some ((0 : Int32))) else (if ¬ (x9.1 30 28 7 0) = 0 then (some ((0 : Int32))) else (some ((1 : Int32))))))) (fun p19 => (Mo_must p19 (5 : Int32) (x9.1 30 17 7 0) x9).bind fun x20 => Option.bind (α := Int32) (if ¬ x1 = (3 : Int32) then (some ((1 : Int32))) else (if ¬ (x20.1 30 28 7 0) = 0 then (some ((0 : Int32))) else (some ((1 : Int32))))) (fun p28 => (Mo_must p28 (5 : Int32) (x20.1 30 17 7 0) x20).bind fun x29 => if (x29.1 30 15 7 0) ≤ 0 then ((Mo_reads x29).bind fun x31 => (Mo_takesNumbers x1 x31).bind fun x33 => if (x33.1 30 15 7 0) ≤ 0 then (Option.bind (α := q_H) (if (3 : Int32) ≤ x1 then (if ¬ x1 = (3 : Int32) then ((Mo_doesAct x1 (q_si x33 30 28 7 0 (1 : Int32))).bind fun x39 => if x39.1 < 0 then ((Mo_must (0 : Int32) (7 : Int32) (h.1 30 17 7 0) x39.2).bind fun x41 => some (x41)) else ((Mo_must (1 : Int32) (7 : Int32) (h.1 30 17 7 0) x39.2).bind fun x43 => some (x43))) else (Option.bind (α := Int32) (if (40 : Int32) ≤ ((q_si x33 30 27 7 0 (1 : Int32)).1 31 0 7 3) then (some ((0 : Int32))) else ((Mo_firstPlace ((q_si x33 30 27 7 0 (1 : Int32)).1 41 0 7 2) (q_si x33 30 27 7 0 (1 : Int32))).bind fun x50 => if x50 < 0 then (some ((0 : Int32))) else (some ((1 : Int32))))) (fun p54 => (Mo_must p54 (6 : Int32) (h.1 30 17 7 0) (q_si x33 30 27 7 0 (1 : Int32))).bind fun x55 => Option.bind (α := (Unit) ⊕ (q_H)) (if ¬ (x55.1 30 15 7 0) = 0 then (some (.inr (x55))) else (some (.inl ()))) (fun z57 => match z57 with | .inl p62 => (Mo_inserts (1 : Int32) (x55.1 41 0 7 0) (x55.1 41 0 7 1) (x55.1 41 0 7 2) x55).bind fun x63 => some (x63.2) | .inr z57 => some z57)))) else (bif q_in x1 1644 then ((some (q_si (q_si x33 30 26 7 0 ((x33.1 30 26 7 0) ||| ((1 : Int32) <<< (x1 &&& 31)))) 31 0 7 x1.toNatClampNeg ((q_si x33 30 26 7 0 ((x33.1 30 26 7 0) ||| ((1 : Int32) <<< (x1 &&& 31)))).1 41 0 7 0))).bind fun h68 => some (h68)) else none)) (fun p72 => Option.bind (α := Int32) (if ¬ (p72.1 30 19 7 0) = (3 : Int32) then (some ((0 : Int32))) else (some ((1 : Int32)))) (fun p78 => (Mo_must p78 (2 : Int32) (p72.1 30 17 7 0) p72).bind fun x79 => if ¬ (x79.1 30 15 7 0) = 0 then (some (x79)) else ((Mo_reads x79).bind fun x81 => some (x81))))) else (some (x33))) else (some (x29))))) else (some (x9)))
set_option maxRecDepth 100000 in
set_option maxHeartbeats 4000000 in
theorem eMo_readsLine {d : Nat} (hd : 9 ≤ d)  {h : q_H} {r : q_H} (HF : Mo_readsLine  h = some r) : q_T d 257 [.inr (.inr (30, 7, 0))] h (none, r) := by
  obtain ⟨d, rfl⟩ : ∃ d', d = d' + 1 := ⟨d - 1, by omega⟩
  refine q_ent q_K257 rfl rfl rfl ?_
  unfold Mo_readsLine at HF
  obtain ⟨x1, hx2, HF⟩ := q_bind HF
  refine q_cll (m' := 254) (av := [.inr (.inr (30, 7, 0))]) (st' := []) (pc' := 4) (loc' := [some (.inr (.inr (30, 7, 0))), none, none]) (h' := h) 2 (fun _ _ => rfl) (eMo_key (by omega) hx2) ?_
  obtain ⟨z3, HA4, HK5⟩ := q_bind HF
  have hP6 : ∀ p8 : Int32, ((Mo_must p8 (2 : Int32) (h.1 30 17 7 0) h).bind fun x9 => if (x9.1 30 15 7 0) ≤ 0 then (Option.bind (α := Int32) (if (2 : Int32) < x1 then (some ((1 : Int32))) else (if ¬ (((x9.1 30 26 7 0) >>> (x1 &&& 31)) &&& (1 : Int32)) = 0 then (some ((0 : Int32))) else (if ¬ (x9.1 30 27 7 0) = 0 then (some ((0 : Int32))) else (if ¬ (x9.1 30 28 7 0) = 0 then (some ((0 : Int32))) else (some ((1 : Int32))))))) (fun p19 => (Mo_must p19 (5 : Int32) (x9.1 30 17 7 0) x9).bind fun x20 => Option.bind (α := Int32) (if ¬ x1 = (3 : Int32) then (some ((1 : Int32))) else (if ¬ (x20.1 30 28 7 0) = 0 then (some ((0 : Int32))) else (some ((1 : Int32))))) (fun p28 => (Mo_must p28 (5 : Int32) (x20.1 30 17 7 0) x20).bind fun x29 => if (x29.1 30 15 7 0) ≤ 0 then ((Mo_reads x29).bind fun x31 => (Mo_takesNumbers x1 x31).bind fun x33 => if (x33.1 30 15 7 0) ≤ 0 then (Option.bind (α := q_H) (if (3 : Int32) ≤ x1 then (if ¬ x1 = (3 : Int32) then ((Mo_doesAct x1 (q_si x33 30 28 7 0 (1 : Int32))).bind fun x39 => if x39.1 < 0 then ((Mo_must (0 : Int32) (7 : Int32) (h.1 30 17 7 0) x39.2).bind fun x41 => some (x41)) else ((Mo_must (1 : Int32) (7 : Int32) (h.1 30 17 7 0) x39.2).bind fun x43 => some (x43))) else (Option.bind (α := Int32) (if (40 : Int32) ≤ ((q_si x33 30 27 7 0 (1 : Int32)).1 31 0 7 3) then (some ((0 : Int32))) else ((Mo_firstPlace ((q_si x33 30 27 7 0 (1 : Int32)).1 41 0 7 2) (q_si x33 30 27 7 0 (1 : Int32))).bind fun x50 => if x50 < 0 then (some ((0 : Int32))) else (some ((1 : Int32))))) (fun p54 => (Mo_must p54 (6 : Int32) (h.1 30 17 7 0) (q_si x33 30 27 7 0 (1 : Int32))).bind fun x55 => Option.bind (α := (Unit) ⊕ (q_H)) (if ¬ (x55.1 30 15 7 0) = 0 then (some (.inr (x55))) else (some (.inl ()))) (fun z57 => match z57 with | .inl p62 => (Mo_inserts (1 : Int32) (x55.1 41 0 7 0) (x55.1 41 0 7 1) (x55.1 41 0 7 2) x55).bind fun x63 => some (x63.2) | .inr z57 => some z57)))) else (bif q_in x1 1644 then ((some (q_si (q_si x33 30 26 7 0 ((x33.1 30 26 7 0) ||| ((1 : Int32) <<< (x1 &&& 31)))) 31 0 7 x1.toNatClampNeg ((q_si x33 30 26 7 0 ((x33.1 30 26 7 0) ||| ((1 : Int32) <<< (x1 &&& 31)))).1 41 0 7 0))).bind fun h68 => some (h68)) else none)) (fun p72 => Option.bind (α := Int32) (if ¬ (p72.1 30 19 7 0) = (3 : Int32) then (some ((0 : Int32))) else (some ((1 : Int32)))) (fun p78 => (Mo_must p78 (2 : Int32) (p72.1 30 17 7 0) p72).bind fun x79 => if ¬ (x79.1 30 15 7 0) = 0 then (some (x79)) else ((Mo_reads x79).bind fun x81 => some (x81))))) else (some (x33))) else (some (x29))))) else (some (x9)) : Option q_H) = some r → q_E d q_K257 20 [some (.inr (.inr (30, 7, 0))), some (.inl x1), some (.inl (h.1 30 17 7 0))] [.inl p8, .inr (.inr (30, 7, 0))] h (none, r) := by
    intro p8 HF
    obtain ⟨x9, hx10, HF⟩ := q_bind HF
    refine q_cll (m' := 253) (av := [.inr (.inr (30, 7, 0)), .inl p8, .inl (2 : Int32), .inl (h.1 30 17 7 0)]) (st' := []) (pc' := 28) (loc' := [some (.inr (.inr (30, 7, 0))), some (.inl x1), some (.inl (h.1 30 17 7 0))]) (h' := h) 4 (fun _ _ => rfl) (eMo_must (by omega) hx10) ?_
    refine q_br (P := (x9.1 30 15 7 0) ≤ 0) (pcT := 36) (pcF := 35) (loc' := [some (.inr (.inr (30, 7, 0))), some (.inl x1), some (.inl (h.1 30 17 7 0))]) (stk' := []) (h' := x9) 3 (fun _ _ => rfl) (fun c90 => ?_) (fun c90 => ?_)
    · rw [if_pos c90] at HF
      obtain ⟨z11, HA12, HK13⟩ := q_bind HF
      have hP14 : ∀ p19 : Int32, ((Mo_must p19 (5 : Int32) (x9.1 30 17 7 0) x9).bind fun x20 => Option.bind (α := Int32) (if ¬ x1 = (3 : Int32) then (some ((1 : Int32))) else (if ¬ (x20.1 30 28 7 0) = 0 then (some ((0 : Int32))) else (some ((1 : Int32))))) (fun p28 => (Mo_must p28 (5 : Int32) (x20.1 30 17 7 0) x20).bind fun x29 => if (x29.1 30 15 7 0) ≤ 0 then ((Mo_reads x29).bind fun x31 => (Mo_takesNumbers x1 x31).bind fun x33 => if (x33.1 30 15 7 0) ≤ 0 then (Option.bind (α := q_H) (if (3 : Int32) ≤ x1 then (if ¬ x1 = (3 : Int32) then ((Mo_doesAct x1 (q_si x33 30 28 7 0 (1 : Int32))).bind fun x39 => if x39.1 < 0 then ((Mo_must (0 : Int32) (7 : Int32) (h.1 30 17 7 0) x39.2).bind fun x41 => some (x41)) else ((Mo_must (1 : Int32) (7 : Int32) (h.1 30 17 7 0) x39.2).bind fun x43 => some (x43))) else (Option.bind (α := Int32) (if (40 : Int32) ≤ ((q_si x33 30 27 7 0 (1 : Int32)).1 31 0 7 3) then (some ((0 : Int32))) else ((Mo_firstPlace ((q_si x33 30 27 7 0 (1 : Int32)).1 41 0 7 2) (q_si x33 30 27 7 0 (1 : Int32))).bind fun x50 => if x50 < 0 then (some ((0 : Int32))) else (some ((1 : Int32))))) (fun p54 => (Mo_must p54 (6 : Int32) (h.1 30 17 7 0) (q_si x33 30 27 7 0 (1 : Int32))).bind fun x55 => Option.bind (α := (Unit) ⊕ (q_H)) (if ¬ (x55.1 30 15 7 0) = 0 then (some (.inr (x55))) else (some (.inl ()))) (fun z57 => match z57 with | .inl p62 => (Mo_inserts (1 : Int32) (x55.1 41 0 7 0) (x55.1 41 0 7 1) (x55.1 41 0 7 2) x55).bind fun x63 => some (x63.2) | .inr z57 => some z57)))) else (bif q_in x1 1644 then ((some (q_si (q_si x33 30 26 7 0 ((x33.1 30 26 7 0) ||| ((1 : Int32) <<< (x1 &&& 31)))) 31 0 7 x1.toNatClampNeg ((q_si x33 30 26 7 0 ((x33.1 30 26 7 0) ||| ((1 : Int32) <<< (x1 &&& 31)))).1 41 0 7 0))).bind fun h68 => some (h68)) else none)) (fun p72 => Option.bind (α := Int32) (if ¬ (p72.1 30 19 7 0) = (3 : Int32) then (some ((0 : Int32))) else (some ((1 : Int32)))) (fun p78 => (Mo_must p78 (2 : Int32) (p72.1 30 17 7 0) p72).bind fun x79 => if ¬ (x79.1 30 15 7 0) = 0 then (some (x79)) else ((Mo_reads x79).bind fun x81 => some (x81))))) else (some (x33))) else (some (x29))) : Option q_H) = some r → q_E d q_K257 72 [some (.inr (.inr (30, 7, 0))), some (.inl x1), some (.inl (h.1 30 17 7 0))] [.inl p19, .inr (.inr (30, 7, 0))] x9 (none, r) := by
        intro p19 HF
        obtain ⟨x20, hx21, HF⟩ := q_bind HF
        refine q_cll (m' := 253) (av := [.inr (.inr (30, 7, 0)), .inl p19, .inl (5 : Int32), .inl (x9.1 30 17 7 0)]) (st' := []) (pc' := 80) (loc' := [some (.inr (.inr (30, 7, 0))), some (.inl x1), some (.inl (h.1 30 17 7 0))]) (h' := x9) 4 (fun _ _ => rfl) (eMo_must (by omega) hx21) ?_
        obtain ⟨z22, HA23, HK24⟩ := q_bind HF
        have hP25 : ∀ p28 : Int32, ((Mo_must p28 (5 : Int32) (x20.1 30 17 7 0) x20).bind fun x29 => if (x29.1 30 15 7 0) ≤ 0 then ((Mo_reads x29).bind fun x31 => (Mo_takesNumbers x1 x31).bind fun x33 => if (x33.1 30 15 7 0) ≤ 0 then (Option.bind (α := q_H) (if (3 : Int32) ≤ x1 then (if ¬ x1 = (3 : Int32) then ((Mo_doesAct x1 (q_si x33 30 28 7 0 (1 : Int32))).bind fun x39 => if x39.1 < 0 then ((Mo_must (0 : Int32) (7 : Int32) (h.1 30 17 7 0) x39.2).bind fun x41 => some (x41)) else ((Mo_must (1 : Int32) (7 : Int32) (h.1 30 17 7 0) x39.2).bind fun x43 => some (x43))) else (Option.bind (α := Int32) (if (40 : Int32) ≤ ((q_si x33 30 27 7 0 (1 : Int32)).1 31 0 7 3) then (some ((0 : Int32))) else ((Mo_firstPlace ((q_si x33 30 27 7 0 (1 : Int32)).1 41 0 7 2) (q_si x33 30 27 7 0 (1 : Int32))).bind fun x50 => if x50 < 0 then (some ((0 : Int32))) else (some ((1 : Int32))))) (fun p54 => (Mo_must p54 (6 : Int32) (h.1 30 17 7 0) (q_si x33 30 27 7 0 (1 : Int32))).bind fun x55 => Option.bind (α := (Unit) ⊕ (q_H)) (if ¬ (x55.1 30 15 7 0) = 0 then (some (.inr (x55))) else (some (.inl ()))) (fun z57 => match z57 with | .inl p62 => (Mo_inserts (1 : Int32) (x55.1 41 0 7 0) (x55.1 41 0 7 1) (x55.1 41 0 7 2) x55).bind fun x63 => some (x63.2) | .inr z57 => some z57)))) else (bif q_in x1 1644 then ((some (q_si (q_si x33 30 26 7 0 ((x33.1 30 26 7 0) ||| ((1 : Int32) <<< (x1 &&& 31)))) 31 0 7 x1.toNatClampNeg ((q_si x33 30 26 7 0 ((x33.1 30 26 7 0) ||| ((1 : Int32) <<< (x1 &&& 31)))).1 41 0 7 0))).bind fun h68 => some (h68)) else none)) (fun p72 => Option.bind (α := Int32) (if ¬ (p72.1 30 19 7 0) = (3 : Int32) then (some ((0 : Int32))) else (some ((1 : Int32)))) (fun p78 => (Mo_must p78 (2 : Int32) (p72.1 30 17 7 0) p72).bind fun x79 => if ¬ (x79.1 30 15 7 0) = 0 then (some (x79)) else ((Mo_reads x79).bind fun x81 => some (x81))))) else (some (x33))) else (some (x29)) : Option q_H) = some r → q_E d q_K257 98 [some (.inr (.inr (30, 7, 0))), some (.inl x1), some (.inl (h.1 30 17 7 0))] [.inl p28, .inr (.inr (30, 7, 0))] x20 (none, r) := by
          intro p28 HF
          obtain ⟨x29, hx30, HF⟩ := q_bind HF
          refine q_cll (m' := 253) (av := [.inr (.inr (30, 7, 0)), .inl p28, .inl (5 : Int32), .inl (x20.1 30 17 7 0)]) (st' := []) (pc' := 106) (loc' := [some (.inr (.inr (30, 7, 0))), some (.inl x1), some (.inl (h.1 30 17 7 0))]) (h' := x20) 4 (fun _ _ => rfl) (eMo_must (by omega) hx30) ?_
          refine q_br (P := (x29.1 30 15 7 0) ≤ 0) (pcT := 114) (pcF := 113) (loc' := [some (.inr (.inr (30, 7, 0))), some (.inl x1), some (.inl (h.1 30 17 7 0))]) (stk' := []) (h' := x29) 3 (fun _ _ => rfl) (fun c87 => ?_) (fun c87 => ?_)
          · rw [if_pos c87] at HF
            obtain ⟨x31, hx32, HF⟩ := q_bind HF
            refine q_cll (m' := 252) (av := [.inr (.inr (30, 7, 0))]) (st' := []) (pc' := 118) (loc' := [some (.inr (.inr (30, 7, 0))), some (.inl x1), some (.inl (h.1 30 17 7 0))]) (h' := x29) 2 (fun _ _ => rfl) (eMo_reads (by omega) hx32) ?_
            obtain ⟨x33, hx34, HF⟩ := q_bind HF
            refine q_cll (m' := 255) (av := [.inr (.inr (30, 7, 0)), .inl x1]) (st' := []) (pc' := 123) (loc' := [some (.inr (.inr (30, 7, 0))), some (.inl x1), some (.inl (h.1 30 17 7 0))]) (h' := x31) 3 (fun _ _ => rfl) (eMo_takesNumbers (by omega) hx34) ?_
            refine q_br (P := (x33.1 30 15 7 0) ≤ 0) (pcT := 131) (pcF := 130) (loc' := [some (.inr (.inr (30, 7, 0))), some (.inl x1), some (.inl (h.1 30 17 7 0))]) (stk' := []) (h' := x33) 3 (fun _ _ => rfl) (fun c86 => ?_) (fun c86 => ?_)
            · rw [if_pos c86] at HF
              obtain ⟨z35, HA36, HK37⟩ := q_bind HF
              have hP38 : ∀ p72 : q_H, (Option.bind (α := Int32) (if ¬ (p72.1 30 19 7 0) = (3 : Int32) then (some ((0 : Int32))) else (some ((1 : Int32)))) (fun p78 => (Mo_must p78 (2 : Int32) (p72.1 30 17 7 0) p72).bind fun x79 => if ¬ (x79.1 30 15 7 0) = 0 then (some (x79)) else ((Mo_reads x79).bind fun x81 => some (x81))) : Option q_H) = some r → q_E d q_K257 268 [some (.inr (.inr (30, 7, 0))), some (.inl x1), some (.inl (h.1 30 17 7 0))] [] p72 (none, r) := by
                intro p72 HF
                obtain ⟨z73, HA74, HK75⟩ := q_bind HF
                have hP76 : ∀ p78 : Int32, ((Mo_must p78 (2 : Int32) (p72.1 30 17 7 0) p72).bind fun x79 => if ¬ (x79.1 30 15 7 0) = 0 then (some (x79)) else ((Mo_reads x79).bind fun x81 => some (x81)) : Option q_H) = some r → q_E d q_K257 282 [some (.inr (.inr (30, 7, 0))), some (.inl x1), some (.inl (h.1 30 17 7 0))] [.inl p78, .inr (.inr (30, 7, 0))] p72 (none, r) := by
                  intro p78 HF
                  obtain ⟨x79, hx80, HF⟩ := q_bind HF
                  refine q_cll (m' := 253) (av := [.inr (.inr (30, 7, 0)), .inl p78, .inl (2 : Int32), .inl (p72.1 30 17 7 0)]) (st' := []) (pc' := 290) (loc' := [some (.inr (.inr (30, 7, 0))), some (.inl x1), some (.inl (h.1 30 17 7 0))]) (h' := p72) 4 (fun _ _ => rfl) (eMo_must (by omega) hx80) ?_
                  refine q_br (P := ¬ (x79.1 30 15 7 0) = 0) (pcT := 301) (pcF := 297) (loc' := [some (.inr (.inr (30, 7, 0))), some (.inl x1), some (.inl (h.1 30 17 7 0))]) (stk' := []) (h' := x79) 3 (fun _ _ => rfl) (fun c83 => ?_) (fun c83 => ?_)
                  · rw [if_pos c83] at HF
                    have hz := Option.some.inj HF
                    subst hz
                    exact q_rtn 1 (fun _ _ => rfl)
                  · rw [if_neg c83] at HF
                    obtain ⟨x81, hx82, HF⟩ := q_bind HF
                    refine q_cll (m' := 252) (av := [.inr (.inr (30, 7, 0))]) (st' := []) (pc' := 301) (loc' := [some (.inr (.inr (30, 7, 0))), some (.inl x1), some (.inl (h.1 30 17 7 0))]) (h' := x79) 2 (fun _ _ => rfl) (eMo_reads (by omega) hx82) ?_
                    have hz := Option.some.inj HF
                    subst hz
                    exact q_rtn 1 (fun _ _ => rfl)
                replace HF := HA74
                refine q_br (P := ¬ (p72.1 30 19 7 0) = (3 : Int32)) (pcT := 281) (pcF := 277) (loc' := [some (.inr (.inr (30, 7, 0))), some (.inl x1), some (.inl (h.1 30 17 7 0))]) (stk' := [.inr (.inr (30, 7, 0))]) (h' := p72) 5 (fun _ _ => rfl) (fun c77 => ?_) (fun c77 => ?_)
                · rw [if_pos c77] at HF
                  refine q_blk (pc' := 282) (loc' := [some (.inr (.inr (30, 7, 0))), some (.inl x1), some (.inl (h.1 30 17 7 0))]) (stk' := [.inl (0 : Int32), .inr (.inr (30, 7, 0))]) (h' := p72) 1 (fun _ _ => rfl) ?_
                  have hz := Option.some.inj HF
                  subst hz
                  exact hP76 (0 : Int32) HK75
                · rw [if_neg c77] at HF
                  refine q_blk (pc' := 282) (loc' := [some (.inr (.inr (30, 7, 0))), some (.inl x1), some (.inl (h.1 30 17 7 0))]) (stk' := [.inl (1 : Int32), .inr (.inr (30, 7, 0))]) (h' := p72) 2 (fun _ _ => rfl) ?_
                  have hz := Option.some.inj HF
                  subst hz
                  exact hP76 (1 : Int32) HK75
              replace HF := HA36
              refine q_br (P := (3 : Int32) ≤ x1) (pcT := 163) (pcF := 136) (loc' := [some (.inr (.inr (30, 7, 0))), some (.inl x1), some (.inl (h.1 30 17 7 0))]) (stk' := []) (h' := x33) 3 (fun _ _ => rfl) (fun c71 => ?_) (fun c71 => ?_)
              · rw [if_pos c71] at HF
                refine q_br (P := ¬ x1 = (3 : Int32)) (pcT := 243) (pcF := 168) (loc' := [some (.inr (.inr (30, 7, 0))), some (.inl x1), some (.inl (h.1 30 17 7 0))]) (stk' := []) (h' := x33) 3 (fun _ _ => rfl) (fun c67 => ?_) (fun c67 => ?_)
                · rw [if_pos c67] at HF
                  obtain ⟨x39, hx40, HF⟩ := q_bind HF
                  refine q_cll (m' := 256) (av := [.inr (.inr (30, 7, 0)), .inl x1]) (st' := [.inr (.inr (30, 7, 0))]) (pc' := 254) (loc' := [some (.inr (.inr (30, 7, 0))), some (.inl x1), some (.inl (h.1 30 17 7 0))]) (h' := (q_si x33 30 28 7 0 (1 : Int32))) 7 (fun _ _ => rfl) (eMo_doesAct (by omega) hx40) ?_
                  refine q_br (P := x39.1 < 0) (pcT := 261) (pcF := 257) (loc' := [some (.inr (.inr (30, 7, 0))), some (.inl x1), some (.inl (h.1 30 17 7 0))]) (stk' := [.inr (.inr (30, 7, 0))]) (h' := x39.2) 1 (fun _ _ => rfl) (fun c45 => ?_) (fun c45 => ?_)
                  · rw [if_pos c45] at HF
                    obtain ⟨x41, hx42, HF⟩ := q_bind HF
                    refine q_cll (m' := 253) (av := [.inr (.inr (30, 7, 0)), .inl (0 : Int32), .inl (7 : Int32), .inl (h.1 30 17 7 0)]) (st' := []) (pc' := 268) (loc' := [some (.inr (.inr (30, 7, 0))), some (.inl x1), some (.inl (h.1 30 17 7 0))]) (h' := x39.2) 4 (fun _ _ => rfl) (eMo_must (by omega) hx42) ?_
                    have hz := Option.some.inj HF
                    subst hz
                    exact hP38 (x41) HK37
                  · rw [if_neg c45] at HF
                    obtain ⟨x43, hx44, HF⟩ := q_bind HF
                    refine q_cll (m' := 253) (av := [.inr (.inr (30, 7, 0)), .inl (1 : Int32), .inl (7 : Int32), .inl (h.1 30 17 7 0)]) (st' := []) (pc' := 268) (loc' := [some (.inr (.inr (30, 7, 0))), some (.inl x1), some (.inl (h.1 30 17 7 0))]) (h' := x39.2) 5 (fun _ _ => rfl) (eMo_must (by omega) hx44) ?_
                    have hz := Option.some.inj HF
                    subst hz
                    exact hP38 (x43) HK37
                · rw [if_neg c67] at HF
                  obtain ⟨z46, HA47, HK48⟩ := q_bind HF
                  have hP49 : ∀ p54 : Int32, ((Mo_must p54 (6 : Int32) (h.1 30 17 7 0) (q_si x33 30 27 7 0 (1 : Int32))).bind fun x55 => Option.bind (α := (Unit) ⊕ (q_H)) (if ¬ (x55.1 30 15 7 0) = 0 then (some (.inr (x55))) else (some (.inl ()))) (fun z57 => match z57 with | .inl p62 => (Mo_inserts (1 : Int32) (x55.1 41 0 7 0) (x55.1 41 0 7 1) (x55.1 41 0 7 2) x55).bind fun x63 => some (x63.2) | .inr z57 => some z57) : Option (q_H)) = some z35 → q_E d q_K257 203 [some (.inr (.inr (30, 7, 0))), some (.inl x1), some (.inl (h.1 30 17 7 0))] [.inl p54, .inr (.inr (30, 7, 0))] (q_si x33 30 27 7 0 (1 : Int32)) (none, r) := by
                    intro p54 HF
                    obtain ⟨x55, hx56, HF⟩ := q_bind HF
                    refine q_cll (m' := 253) (av := [.inr (.inr (30, 7, 0)), .inl p54, .inl (6 : Int32), .inl (h.1 30 17 7 0)]) (st' := []) (pc' := 209) (loc' := [some (.inr (.inr (30, 7, 0))), some (.inl x1), some (.inl (h.1 30 17 7 0))]) (h' := (q_si x33 30 27 7 0 (1 : Int32))) 3 (fun _ _ => rfl) (eMo_must (by omega) hx56) ?_
                    obtain ⟨z57, HA58, HK59⟩ := q_bind HF
                    have hP60 : ∀ p62 : Unit, ((Mo_inserts (1 : Int32) (x55.1 41 0 7 0) (x55.1 41 0 7 1) (x55.1 41 0 7 2) x55).bind fun x63 => some (x63.2) : Option (q_H)) = some z35 → q_E d q_K257 216 [some (.inr (.inr (30, 7, 0))), some (.inl x1), some (.inl (h.1 30 17 7 0))] [] x55 (none, r) := by
                      intro p62 HF
                      obtain ⟨x63, hx64, HF⟩ := q_bind HF
                      refine q_cll (m' := 226) (av := [.inr (.inr (30, 7, 0)), .inl (1 : Int32), .inl (x55.1 41 0 7 0), .inl (x55.1 41 0 7 1), .inl (x55.1 41 0 7 2)]) (st' := []) (pc' := 239) (loc' := [some (.inr (.inr (30, 7, 0))), some (.inl x1), some (.inl (h.1 30 17 7 0))]) (h' := x55) 15 (fun _ _ => rfl) (eMo_inserts (by omega) hx64) ?_
                      refine q_blk (pc' := 268) (loc' := [some (.inr (.inr (30, 7, 0))), some (.inl x1), some (.inl (h.1 30 17 7 0))]) (stk' := []) (h' := x63.2) 2 (fun _ _ => rfl) ?_
                      have hz := Option.some.inj HF
                      subst hz
                      exact hP38 (x63.2) HK37
                    replace HF := HA58
                    refine q_br (P := ¬ (x55.1 30 15 7 0) = 0) (pcT := 268) (pcF := 216) (loc' := [some (.inr (.inr (30, 7, 0))), some (.inl x1), some (.inl (h.1 30 17 7 0))]) (stk' := []) (h' := x55) 3 (fun _ _ => rfl) (fun c61 => ?_) (fun c61 => ?_)
                    · rw [if_pos c61] at HF
                      have hz := Option.some.inj HF
                      subst hz
                      replace HF := HK59
                      have hz := Option.some.inj HF
                      subst hz
                      exact hP38 (x55) HK37
                    · rw [if_neg c61] at HF
                      have hz := Option.some.inj HF
                      subst hz
                      exact hP60 () HK59
                  replace HF := HA47
                  refine q_br (P := (40 : Int32) ≤ ((q_si x33 30 27 7 0 (1 : Int32)).1 31 0 7 3)) (pcT := 202) (pcF := 185) (loc' := [some (.inr (.inr (30, 7, 0))), some (.inl x1), some (.inl (h.1 30 17 7 0))]) (stk' := [.inr (.inr (30, 7, 0))]) (h' := (q_si x33 30 27 7 0 (1 : Int32))) 10 (fun _ _ => rfl) (fun c53 => ?_) (fun c53 => ?_)
                  · rw [if_pos c53] at HF
                    refine q_blk (pc' := 203) (loc' := [some (.inr (.inr (30, 7, 0))), some (.inl x1), some (.inl (h.1 30 17 7 0))]) (stk' := [.inl (0 : Int32), .inr (.inr (30, 7, 0))]) (h' := (q_si x33 30 27 7 0 (1 : Int32))) 1 (fun _ _ => rfl) ?_
                    have hz := Option.some.inj HF
                    subst hz
                    exact hP49 (0 : Int32) HK48
                  · rw [if_neg c53] at HF
                    obtain ⟨x50, hx51, HF⟩ := q_bind HF
                    refine q_cll (m' := 194) (av := [.inr (.inr (30, 7, 0)), .inl ((q_si x33 30 27 7 0 (1 : Int32)).1 41 0 7 2)]) (st' := [.inr (.inr (30, 7, 0))]) (pc' := 195) (loc' := [some (.inr (.inr (30, 7, 0))), some (.inl x1), some (.inl (h.1 30 17 7 0))]) (h' := (q_si x33 30 27 7 0 (1 : Int32))) 6 (fun _ _ => rfl) (eMo_firstPlace (by omega) hx51) ?_
                    refine q_br (P := x50 < 0) (pcT := 202) (pcF := 198) (loc' := [some (.inr (.inr (30, 7, 0))), some (.inl x1), some (.inl (h.1 30 17 7 0))]) (stk' := [.inr (.inr (30, 7, 0))]) (h' := (q_si x33 30 27 7 0 (1 : Int32))) 1 (fun _ _ => rfl) (fun c52 => ?_) (fun c52 => ?_)
                    · rw [if_pos c52] at HF
                      refine q_blk (pc' := 203) (loc' := [some (.inr (.inr (30, 7, 0))), some (.inl x1), some (.inl (h.1 30 17 7 0))]) (stk' := [.inl (0 : Int32), .inr (.inr (30, 7, 0))]) (h' := (q_si x33 30 27 7 0 (1 : Int32))) 1 (fun _ _ => rfl) ?_
                      have hz := Option.some.inj HF
                      subst hz
                      exact hP49 (0 : Int32) HK48
                    · rw [if_neg c52] at HF
                      refine q_blk (pc' := 203) (loc' := [some (.inr (.inr (30, 7, 0))), some (.inl x1), some (.inl (h.1 30 17 7 0))]) (stk' := [.inl (1 : Int32), .inr (.inr (30, 7, 0))]) (h' := (q_si x33 30 27 7 0 (1 : Int32))) 2 (fun _ _ => rfl) ?_
                      have hz := Option.some.inj HF
                      subst hz
                      exact hP49 (1 : Int32) HK48
              · rw [if_neg c71] at HF
                obtain ⟨g70, HF⟩ := q_gF HF
                refine q_gd (pc' := 160) (loc' := [some (.inr (.inr (30, 7, 0))), some (.inl x1), some (.inl (h.1 30 17 7 0))]) (stk' := []) (h' := (q_si (q_si x33 30 26 7 0 ((x33.1 30 26 7 0) ||| ((1 : Int32) <<< (x1 &&& 31)))) 31 0 7 x1.toNatClampNeg ((q_si x33 30 26 7 0 ((x33.1 30 26 7 0) ||| ((1 : Int32) <<< (x1 &&& 31)))).1 41 0 7 0))) 16 (fun _ _ => rfl) g70 ?_
                obtain ⟨h68, e69, HF⟩ := q_bind HF
                refine q_blk (pc' := 160) (loc' := [some (.inr (.inr (30, 7, 0))), some (.inl x1), some (.inl (h.1 30 17 7 0))]) (stk' := []) (h' := (q_si (q_si x33 30 26 7 0 ((x33.1 30 26 7 0) ||| ((1 : Int32) <<< (x1 &&& 31)))) 31 0 7 x1.toNatClampNeg ((q_si x33 30 26 7 0 ((x33.1 30 26 7 0) ||| ((1 : Int32) <<< (x1 &&& 31)))).1 41 0 7 0))) 0 (fun _ _ => rfl) ?_
                rw [Option.some.inj e69]
                refine q_blk (pc' := 268) (loc' := [some (.inr (.inr (30, 7, 0))), some (.inl x1), some (.inl (h.1 30 17 7 0))]) (stk' := []) (h' := h68) 1 (fun _ _ => rfl) ?_
                have hz := Option.some.inj HF
                subst hz
                exact hP38 (h68) HK37
            · rw [if_neg c86] at HF
              have hz := Option.some.inj HF
              subst hz
              exact q_rtn 1 (fun _ _ => rfl)
          · rw [if_neg c87] at HF
            have hz := Option.some.inj HF
            subst hz
            exact q_rtn 1 (fun _ _ => rfl)
        replace HF := HA23
        refine q_br (P := ¬ x1 = (3 : Int32)) (pcT := 93) (pcF := 86) (loc' := [some (.inr (.inr (30, 7, 0))), some (.inl x1), some (.inl (h.1 30 17 7 0))]) (stk' := [.inr (.inr (30, 7, 0))]) (h' := x20) 4 (fun _ _ => rfl) (fun c27 => ?_) (fun c27 => ?_)
        · rw [if_pos c27] at HF
          refine q_blk (pc' := 98) (loc' := [some (.inr (.inr (30, 7, 0))), some (.inl x1), some (.inl (h.1 30 17 7 0))]) (stk' := [.inl (1 : Int32), .inr (.inr (30, 7, 0))]) (h' := x20) 2 (fun _ _ => rfl) ?_
          have hz := Option.some.inj HF
          subst hz
          exact hP25 (1 : Int32) HK24
        · rw [if_neg c27] at HF
          refine q_br (P := ¬ (x20.1 30 28 7 0) = 0) (pcT := 97) (pcF := 93) (loc' := [some (.inr (.inr (30, 7, 0))), some (.inl x1), some (.inl (h.1 30 17 7 0))]) (stk' := [.inr (.inr (30, 7, 0))]) (h' := x20) 3 (fun _ _ => rfl) (fun c26 => ?_) (fun c26 => ?_)
          · rw [if_pos c26] at HF
            refine q_blk (pc' := 98) (loc' := [some (.inr (.inr (30, 7, 0))), some (.inl x1), some (.inl (h.1 30 17 7 0))]) (stk' := [.inl (0 : Int32), .inr (.inr (30, 7, 0))]) (h' := x20) 1 (fun _ _ => rfl) ?_
            have hz := Option.some.inj HF
            subst hz
            exact hP25 (0 : Int32) HK24
          · rw [if_neg c26] at HF
            refine q_blk (pc' := 98) (loc' := [some (.inr (.inr (30, 7, 0))), some (.inl x1), some (.inl (h.1 30 17 7 0))]) (stk' := [.inl (1 : Int32), .inr (.inr (30, 7, 0))]) (h' := x20) 2 (fun _ _ => rfl) ?_
            have hz := Option.some.inj HF
            subst hz
            exact hP25 (1 : Int32) HK24
      replace HF := HA12
      refine q_br (P := (2 : Int32) < x1) (pcT := 67) (pcF := 42) (loc' := [some (.inr (.inr (30, 7, 0))), some (.inl x1), some (.inl (h.1 30 17 7 0))]) (stk' := [.inr (.inr (30, 7, 0))]) (h' := x9) 4 (fun _ _ => rfl) (fun c18 => ?_) (fun c18 => ?_)
      · rw [if_pos c18] at HF
        refine q_blk (pc' := 72) (loc' := [some (.inr (.inr (30, 7, 0))), some (.inl x1), some (.inl (h.1 30 17 7 0))]) (stk' := [.inl (1 : Int32), .inr (.inr (30, 7, 0))]) (h' := x9) 2 (fun _ _ => rfl) ?_
        have hz := Option.some.inj HF
        subst hz
        exact hP14 (1 : Int32) HK13
      · rw [if_neg c18] at HF
        refine q_br (P := ¬ (((x9.1 30 26 7 0) >>> (x1 &&& 31)) &&& (1 : Int32)) = 0) (pcT := 71) (pcF := 53) (loc' := [some (.inr (.inr (30, 7, 0))), some (.inl x1), some (.inl (h.1 30 17 7 0))]) (stk' := [.inr (.inr (30, 7, 0))]) (h' := x9) 7 (fun _ _ => rfl) (fun c17 => ?_) (fun c17 => ?_)
        · rw [if_pos c17] at HF
          refine q_blk (pc' := 72) (loc' := [some (.inr (.inr (30, 7, 0))), some (.inl x1), some (.inl (h.1 30 17 7 0))]) (stk' := [.inl (0 : Int32), .inr (.inr (30, 7, 0))]) (h' := x9) 1 (fun _ _ => rfl) ?_
          have hz := Option.some.inj HF
          subst hz
          exact hP14 (0 : Int32) HK13
        · rw [if_neg c17] at HF
          refine q_br (P := ¬ (x9.1 30 27 7 0) = 0) (pcT := 71) (pcF := 60) (loc' := [some (.inr (.inr (30, 7, 0))), some (.inl x1), some (.inl (h.1 30 17 7 0))]) (stk' := [.inr (.inr (30, 7, 0))]) (h' := x9) 3 (fun _ _ => rfl) (fun c16 => ?_) (fun c16 => ?_)
          · rw [if_pos c16] at HF
            refine q_blk (pc' := 72) (loc' := [some (.inr (.inr (30, 7, 0))), some (.inl x1), some (.inl (h.1 30 17 7 0))]) (stk' := [.inl (0 : Int32), .inr (.inr (30, 7, 0))]) (h' := x9) 1 (fun _ _ => rfl) ?_
            have hz := Option.some.inj HF
            subst hz
            exact hP14 (0 : Int32) HK13
          · rw [if_neg c16] at HF
            refine q_br (P := ¬ (x9.1 30 28 7 0) = 0) (pcT := 71) (pcF := 67) (loc' := [some (.inr (.inr (30, 7, 0))), some (.inl x1), some (.inl (h.1 30 17 7 0))]) (stk' := [.inr (.inr (30, 7, 0))]) (h' := x9) 3 (fun _ _ => rfl) (fun c15 => ?_) (fun c15 => ?_)
            · rw [if_pos c15] at HF
              refine q_blk (pc' := 72) (loc' := [some (.inr (.inr (30, 7, 0))), some (.inl x1), some (.inl (h.1 30 17 7 0))]) (stk' := [.inl (0 : Int32), .inr (.inr (30, 7, 0))]) (h' := x9) 1 (fun _ _ => rfl) ?_
              have hz := Option.some.inj HF
              subst hz
              exact hP14 (0 : Int32) HK13
            · rw [if_neg c15] at HF
              refine q_blk (pc' := 72) (loc' := [some (.inr (.inr (30, 7, 0))), some (.inl x1), some (.inl (h.1 30 17 7 0))]) (stk' := [.inl (1 : Int32), .inr (.inr (30, 7, 0))]) (h' := x9) 2 (fun _ _ => rfl) ?_
              have hz := Option.some.inj HF
              subst hz
              exact hP14 (1 : Int32) HK13
    · rw [if_neg c90] at HF
      have hz := Option.some.inj HF
      subst hz
      exact q_rtn 1 (fun _ _ => rfl)
  replace HF := HA4
  refine q_br (P := x1 < 0) (pcT := 19) (pcF := 15) (loc' := [some (.inr (.inr (30, 7, 0))), some (.inl x1), some (.inl (h.1 30 17 7 0))]) (stk' := [.inr (.inr (30, 7, 0))]) (h' := h) 7 (fun _ _ => rfl) (fun c7 => ?_) (fun c7 => ?_)
  · rw [if_pos c7] at HF
    refine q_blk (pc' := 20) (loc' := [some (.inr (.inr (30, 7, 0))), some (.inl x1), some (.inl (h.1 30 17 7 0))]) (stk' := [.inl (0 : Int32), .inr (.inr (30, 7, 0))]) (h' := h) 1 (fun _ _ => rfl) ?_
    have hz := Option.some.inj HF
    subst hz
    exact hP6 (0 : Int32) HK5
  · rw [if_neg c7] at HF
    refine q_blk (pc' := 20) (loc' := [some (.inr (.inr (30, 7, 0))), some (.inl x1), some (.inl (h.1 30 17 7 0))]) (stk' := [.inl (1 : Int32), .inr (.inr (30, 7, 0))]) (h' := h) 2 (fun _ _ => rfl) ?_
    have hz := Option.some.inj HF
    subst hz
    exact hP6 (1 : Int32) HK5
def Mo_load (a1 : Int32) (h : q_H) : Option (Int32 × q_H) :=
  (Mo_isIn a1 (0 : Int32) (h.1 30 12 7 0) h).bind fun x1 => Option.bind (α := Int32) (if x1 = 0 then (some ((1 : Int32))) else (some ((0 : Int32)))) (fun p8 => (Mo_is p8 h).bind fun x9 => if ¬ x9.1 = 0 then ((some (q_si (q_si (q_si (q_si (q_si (q_si x9.2 30 21 7 0 a1) 30 18 7 0 (0 : Int32)) 30 15 7 0 (0 : Int32)) 30 26 7 0 (0 : Int32)) 30 27 7 0 (0 : Int32)) 30 28 7 0 (0 : Int32))).bind fun h11 => (Mo_copy 31 7 34 7 h11).bind fun x13 => (Mo_clears x13).bind fun x15 => (Mo_reads x15).bind fun x17 => (q_lp (fun s19 : q_H => (Option.bind (α := (Unit) ⊕ ((q_H) ⊕ (q_H))) (if ¬ (s19.1 30 15 7 0) = 0 then (some (.inr (.inr (s19)))) else (some (.inl ()))) (fun z27 => match z27 with | .inl p32 => Option.bind (α := (Unit) ⊕ ((q_H) ⊕ (q_H))) (if (s19.1 30 19 7 0) = 0 then (some (.inr (.inr (s19)))) else (some (.inl ()))) (fun z33 => match z33 with | .inl p38 => (Mo_readsLine s19).bind fun x39 => some (.inl x39) | .inr z33 => some z33) | .inr z27 => some z27) : Option ((q_H) ⊕ (q_H)))) q_fu (x17 : q_H)).bind fun p43 => Option.bind (α := Int32) (if ((q_si (q_si p43 30 12 7 0 (0 : Int32)) 30 13 7 0 ((q_si p43 30 12 7 0 (0 : Int32)).1 30 15 7 0)).1 30 15 7 0) ≤ 0 then (some ((-1 : Int32))) else (some (((q_si (q_si p43 30 12 7 0 (0 : Int32)) 30 13 7 0 ((q_si p43 30 12 7 0 (0 : Int32)).1 30 15 7 0)).1 30 16 7 0)))) (fun p49 => if ¬ ((q_si (q_si (q_si (q_si p43 30 12 7 0 (0 : Int32)) 30 13 7 0 ((q_si p43 30 12 7 0 (0 : Int32)).1 30 15 7 0)) 30 14 7 0 p49) 30 6 7 0 (0 : Int32)).1 30 15 7 0) = 0 then ((Mo_copy 34 7 31 7 (q_si (q_si (q_si (q_si p43 30 12 7 0 (0 : Int32)) 30 13 7 0 ((q_si p43 30 12 7 0 (0 : Int32)).1 30 15 7 0)) 30 14 7 0 p49) 30 6 7 0 (0 : Int32))).bind fun x50 => (Mo_refuse (9 : Int32) x50).bind fun x52 => some ((x52.1, x52.2))) else (some ((((q_si (q_si (q_si (q_si p43 30 12 7 0 (0 : Int32)) 30 13 7 0 ((q_si p43 30 12 7 0 (0 : Int32)).1 30 15 7 0)) 30 14 7 0 p49) 30 6 7 0 (0 : Int32)).1 31 0 7 3), (q_si (q_si (q_si (q_si p43 30 12 7 0 (0 : Int32)) 30 13 7 0 ((q_si p43 30 12 7 0 (0 : Int32)).1 30 15 7 0)) 30 14 7 0 p49) 30 6 7 0 (0 : Int32))))))) else (some (((-1 : Int32), x9.2))))
set_option maxRecDepth 100000 in
set_option maxHeartbeats 4000000 in
theorem eMo_load {d : Nat} (hd : 10 ≤ d) {a1 : Int32} {h : q_H} {r : (Int32 × q_H)} (HF : Mo_load a1 h = some r) : q_T d 258 [.inr (.inr (30, 7, 0)), .inl a1] h (some (.inl r.1), r.2) := by
  obtain ⟨d, rfl⟩ : ∃ d', d = d' + 1 := ⟨d - 1, by omega⟩
  refine q_ent q_K258 rfl rfl rfl ?_
  unfold Mo_load at HF
  obtain ⟨x1, hx2, HF⟩ := q_bind HF
  refine q_cll (m' := 184) (av := [.inl a1, .inl (0 : Int32), .inl (h.1 30 12 7 0)]) (st' := [.inr (.inr (30, 7, 0))]) (pc' := 10) (loc' := [some (.inr (.inr (30, 7, 0))), some (.inl a1)]) (h' := h) 6 (fun _ _ => rfl) (eMo_isIn (by omega) hx2) ?_
  obtain ⟨z3, HA4, HK5⟩ := q_bind HF
  have hP6 : ∀ p8 : Int32, ((Mo_is p8 h).bind fun x9 => if ¬ x9.1 = 0 then ((some (q_si (q_si (q_si (q_si (q_si (q_si x9.2 30 21 7 0 a1) 30 18 7 0 (0 : Int32)) 30 15 7 0 (0 : Int32)) 30 26 7 0 (0 : Int32)) 30 27 7 0 (0 : Int32)) 30 28 7 0 (0 : Int32))).bind fun h11 => (Mo_copy 31 7 34 7 h11).bind fun x13 => (Mo_clears x13).bind fun x15 => (Mo_reads x15).bind fun x17 => (q_lp (fun s19 : q_H => (Option.bind (α := (Unit) ⊕ ((q_H) ⊕ (q_H))) (if ¬ (s19.1 30 15 7 0) = 0 then (some (.inr (.inr (s19)))) else (some (.inl ()))) (fun z27 => match z27 with | .inl p32 => Option.bind (α := (Unit) ⊕ ((q_H) ⊕ (q_H))) (if (s19.1 30 19 7 0) = 0 then (some (.inr (.inr (s19)))) else (some (.inl ()))) (fun z33 => match z33 with | .inl p38 => (Mo_readsLine s19).bind fun x39 => some (.inl x39) | .inr z33 => some z33) | .inr z27 => some z27) : Option ((q_H) ⊕ (q_H)))) q_fu (x17 : q_H)).bind fun p43 => Option.bind (α := Int32) (if ((q_si (q_si p43 30 12 7 0 (0 : Int32)) 30 13 7 0 ((q_si p43 30 12 7 0 (0 : Int32)).1 30 15 7 0)).1 30 15 7 0) ≤ 0 then (some ((-1 : Int32))) else (some (((q_si (q_si p43 30 12 7 0 (0 : Int32)) 30 13 7 0 ((q_si p43 30 12 7 0 (0 : Int32)).1 30 15 7 0)).1 30 16 7 0)))) (fun p49 => if ¬ ((q_si (q_si (q_si (q_si p43 30 12 7 0 (0 : Int32)) 30 13 7 0 ((q_si p43 30 12 7 0 (0 : Int32)).1 30 15 7 0)) 30 14 7 0 p49) 30 6 7 0 (0 : Int32)).1 30 15 7 0) = 0 then ((Mo_copy 34 7 31 7 (q_si (q_si (q_si (q_si p43 30 12 7 0 (0 : Int32)) 30 13 7 0 ((q_si p43 30 12 7 0 (0 : Int32)).1 30 15 7 0)) 30 14 7 0 p49) 30 6 7 0 (0 : Int32))).bind fun x50 => (Mo_refuse (9 : Int32) x50).bind fun x52 => some ((x52.1, x52.2))) else (some ((((q_si (q_si (q_si (q_si p43 30 12 7 0 (0 : Int32)) 30 13 7 0 ((q_si p43 30 12 7 0 (0 : Int32)).1 30 15 7 0)) 30 14 7 0 p49) 30 6 7 0 (0 : Int32)).1 31 0 7 3), (q_si (q_si (q_si (q_si p43 30 12 7 0 (0 : Int32)) 30 13 7 0 ((q_si p43 30 12 7 0 (0 : Int32)).1 30 15 7 0)) 30 14 7 0 p49) 30 6 7 0 (0 : Int32))))))) else (some (((-1 : Int32), x9.2))) : Option (Int32 × q_H)) = some r → q_E d q_K258 18 [some (.inr (.inr (30, 7, 0))), some (.inl a1)] [.inl p8, .inr (.inr (30, 7, 0))] h (some (.inl r.1), r.2) := by
    intro p8 HF
    obtain ⟨x9, hx10, HF⟩ := q_bind HF
    refine q_cll (m' := 183) (av := [.inr (.inr (30, 7, 0)), .inl p8]) (st' := []) (pc' := 21) (loc' := [some (.inr (.inr (30, 7, 0))), some (.inl a1)]) (h' := h) 1 (fun _ _ => rfl) (eMo_is (by omega) hx10) ?_
    refine q_br (P := ¬ x9.1 = 0) (pcT := 26) (pcF := 24) (loc' := [some (.inr (.inr (30, 7, 0))), some (.inl a1)]) (stk' := []) (h' := x9.2) 1 (fun _ _ => rfl) (fun c56 => ?_) (fun c56 => ?_)
    · rw [if_pos c56] at HF
      obtain ⟨h11, e12, HF⟩ := q_bind HF
      refine q_blk (pc' := 56) (loc' := [some (.inr (.inr (30, 7, 0))), some (.inl a1)]) (stk' := []) (h' := (q_si (q_si (q_si (q_si (q_si (q_si x9.2 30 21 7 0 a1) 30 18 7 0 (0 : Int32)) 30 15 7 0 (0 : Int32)) 30 26 7 0 (0 : Int32)) 30 27 7 0 (0 : Int32)) 30 28 7 0 (0 : Int32))) 18 (fun _ _ => rfl) ?_
      rw [Option.some.inj e12]
      obtain ⟨x13, hx14, HF⟩ := q_bind HF
      refine q_cll (m' := 186) (av := [.inr (.inr (31, 7, 0)), .inr (.inr (34, 7, 0))]) (st' := []) (pc' := 67) (loc' := [some (.inr (.inr (30, 7, 0))), some (.inl a1)]) (h' := h11) 5 (fun _ _ => rfl) (eMo_copy (by omega) hx14) ?_
      obtain ⟨x15, hx16, HF⟩ := q_bind HF
      refine q_cll (m' := 185) (av := [.inr (.inr (30, 7, 0))]) (st' := []) (pc' := 71) (loc' := [some (.inr (.inr (30, 7, 0))), some (.inl a1)]) (h' := x13) 2 (fun _ _ => rfl) (eMo_clears (by omega) hx16) ?_
      obtain ⟨x17, hx18, HF⟩ := q_bind HF
      refine q_cll (m' := 252) (av := [.inr (.inr (30, 7, 0))]) (st' := []) (pc' := 75) (loc' := [some (.inr (.inr (30, 7, 0))), some (.inl a1)]) (h' := x15) 2 (fun _ _ => rfl) (eMo_reads (by omega) hx18) ?_
      obtain ⟨r24, hl25, HK22⟩ := q_bind HF
      have hP23 : ∀ p43 : q_H, (Option.bind (α := Int32) (if ((q_si (q_si p43 30 12 7 0 (0 : Int32)) 30 13 7 0 ((q_si p43 30 12 7 0 (0 : Int32)).1 30 15 7 0)).1 30 15 7 0) ≤ 0 then (some ((-1 : Int32))) else (some (((q_si (q_si p43 30 12 7 0 (0 : Int32)) 30 13 7 0 ((q_si p43 30 12 7 0 (0 : Int32)).1 30 15 7 0)).1 30 16 7 0)))) (fun p49 => if ¬ ((q_si (q_si (q_si (q_si p43 30 12 7 0 (0 : Int32)) 30 13 7 0 ((q_si p43 30 12 7 0 (0 : Int32)).1 30 15 7 0)) 30 14 7 0 p49) 30 6 7 0 (0 : Int32)).1 30 15 7 0) = 0 then ((Mo_copy 34 7 31 7 (q_si (q_si (q_si (q_si p43 30 12 7 0 (0 : Int32)) 30 13 7 0 ((q_si p43 30 12 7 0 (0 : Int32)).1 30 15 7 0)) 30 14 7 0 p49) 30 6 7 0 (0 : Int32))).bind fun x50 => (Mo_refuse (9 : Int32) x50).bind fun x52 => some ((x52.1, x52.2))) else (some ((((q_si (q_si (q_si (q_si p43 30 12 7 0 (0 : Int32)) 30 13 7 0 ((q_si p43 30 12 7 0 (0 : Int32)).1 30 15 7 0)) 30 14 7 0 p49) 30 6 7 0 (0 : Int32)).1 31 0 7 3), (q_si (q_si (q_si (q_si p43 30 12 7 0 (0 : Int32)) 30 13 7 0 ((q_si p43 30 12 7 0 (0 : Int32)).1 30 15 7 0)) 30 14 7 0 p49) 30 6 7 0 (0 : Int32)))))) : Option (Int32 × q_H)) = some r → q_E d q_K258 96 [some (.inr (.inr (30, 7, 0))), some (.inl a1)] [] p43 (some (.inl r.1), r.2) := by
        intro p43 HF
        obtain ⟨z44, HA45, HK46⟩ := q_bind HF
        have hP47 : ∀ p49 : Int32, (if ¬ ((q_si (q_si (q_si (q_si p43 30 12 7 0 (0 : Int32)) 30 13 7 0 ((q_si p43 30 12 7 0 (0 : Int32)).1 30 15 7 0)) 30 14 7 0 p49) 30 6 7 0 (0 : Int32)).1 30 15 7 0) = 0 then ((Mo_copy 34 7 31 7 (q_si (q_si (q_si (q_si p43 30 12 7 0 (0 : Int32)) 30 13 7 0 ((q_si p43 30 12 7 0 (0 : Int32)).1 30 15 7 0)) 30 14 7 0 p49) 30 6 7 0 (0 : Int32))).bind fun x50 => (Mo_refuse (9 : Int32) x50).bind fun x52 => some ((x52.1, x52.2))) else (some ((((q_si (q_si (q_si (q_si p43 30 12 7 0 (0 : Int32)) 30 13 7 0 ((q_si p43 30 12 7 0 (0 : Int32)).1 30 15 7 0)) 30 14 7 0 p49) 30 6 7 0 (0 : Int32)).1 31 0 7 3), (q_si (q_si (q_si (q_si p43 30 12 7 0 (0 : Int32)) 30 13 7 0 ((q_si p43 30 12 7 0 (0 : Int32)).1 30 15 7 0)) 30 14 7 0 p49) 30 6 7 0 (0 : Int32))))) : Option (Int32 × q_H)) = some r → q_E d q_K258 125 [some (.inr (.inr (30, 7, 0))), some (.inl a1)] [.inl p49, .inr (.inr (30, 7, 0))] (q_si (q_si p43 30 12 7 0 (0 : Int32)) 30 13 7 0 ((q_si p43 30 12 7 0 (0 : Int32)).1 30 15 7 0)) (some (.inl r.1), r.2) := by
          intro p49 HF
          refine q_br (P := ¬ ((q_si (q_si (q_si (q_si p43 30 12 7 0 (0 : Int32)) 30 13 7 0 ((q_si p43 30 12 7 0 (0 : Int32)).1 30 15 7 0)) 30 14 7 0 p49) 30 6 7 0 (0 : Int32)).1 30 15 7 0) = 0) (pcT := 147) (pcF := 140) (loc' := [some (.inr (.inr (30, 7, 0))), some (.inl a1)]) (stk' := []) (h' := (q_si (q_si (q_si (q_si p43 30 12 7 0 (0 : Int32)) 30 13 7 0 ((q_si p43 30 12 7 0 (0 : Int32)).1 30 15 7 0)) 30 14 7 0 p49) 30 6 7 0 (0 : Int32))) 7 (fun _ _ => rfl) (fun c54 => ?_) (fun c54 => ?_)
          · rw [if_pos c54] at HF
            obtain ⟨x50, hx51, HF⟩ := q_bind HF
            refine q_cll (m' := 186) (av := [.inr (.inr (34, 7, 0)), .inr (.inr (31, 7, 0))]) (st' := []) (pc' := 158) (loc' := [some (.inr (.inr (30, 7, 0))), some (.inl a1)]) (h' := (q_si (q_si (q_si (q_si p43 30 12 7 0 (0 : Int32)) 30 13 7 0 ((q_si p43 30 12 7 0 (0 : Int32)).1 30 15 7 0)) 30 14 7 0 p49) 30 6 7 0 (0 : Int32))) 5 (fun _ _ => rfl) (eMo_copy (by omega) hx51) ?_
            obtain ⟨x52, hx53, HF⟩ := q_bind HF
            refine q_cll (m' := 182) (av := [.inr (.inr (30, 7, 0)), .inl (9 : Int32)]) (st' := []) (pc' := 164) (loc' := [some (.inr (.inr (30, 7, 0))), some (.inl a1)]) (h' := x50) 3 (fun _ _ => rfl) (eMo_refuse (by omega) hx53) ?_
            have hz := Option.some.inj HF
            subst hz
            exact q_rtn 1 (fun _ _ => rfl)
          · rw [if_neg c54] at HF
            have hz := Option.some.inj HF
            subst hz
            exact q_rtn 5 (fun _ _ => rfl)
        replace HF := HA45
        refine q_br (P := ((q_si (q_si p43 30 12 7 0 (0 : Int32)) 30 13 7 0 ((q_si p43 30 12 7 0 (0 : Int32)).1 30 15 7 0)).1 30 15 7 0) ≤ 0) (pcT := 124) (pcF := 117) (loc' := [some (.inr (.inr (30, 7, 0))), some (.inl a1)]) (stk' := [.inr (.inr (30, 7, 0))]) (h' := (q_si (q_si p43 30 12 7 0 (0 : Int32)) 30 13 7 0 ((q_si p43 30 12 7 0 (0 : Int32)).1 30 15 7 0))) 11 (fun _ _ => rfl) (fun c48 => ?_) (fun c48 => ?_)
        · rw [if_pos c48] at HF
          refine q_blk (pc' := 125) (loc' := [some (.inr (.inr (30, 7, 0))), some (.inl a1)]) (stk' := [.inl (-1 : Int32), .inr (.inr (30, 7, 0))]) (h' := (q_si (q_si p43 30 12 7 0 (0 : Int32)) 30 13 7 0 ((q_si p43 30 12 7 0 (0 : Int32)).1 30 15 7 0))) 1 (fun _ _ => rfl) ?_
          have hz := Option.some.inj HF
          subst hz
          exact hP47 (-1 : Int32) HK46
        · rw [if_neg c48] at HF
          refine q_blk (pc' := 125) (loc' := [some (.inr (.inr (30, 7, 0))), some (.inl a1)]) (stk' := [.inl ((q_si (q_si p43 30 12 7 0 (0 : Int32)) 30 13 7 0 ((q_si p43 30 12 7 0 (0 : Int32)).1 30 15 7 0)).1 30 16 7 0), .inr (.inr (30, 7, 0))]) (h' := (q_si (q_si p43 30 12 7 0 (0 : Int32)) 30 13 7 0 ((q_si p43 30 12 7 0 (0 : Int32)).1 30 15 7 0))) 3 (fun _ _ => rfl) ?_
          have hz := Option.some.inj HF
          subst hz
          exact hP47 ((q_si (q_si p43 30 12 7 0 (0 : Int32)) 30 13 7 0 ((q_si p43 30 12 7 0 (0 : Int32)).1 30 15 7 0)).1 30 16 7 0) HK46
      refine q_lpE (E := fun s19 => q_E d q_K258 75 [some (.inr (.inr (30, 7, 0))), some (.inl a1)] [] s19 (some (.inl r.1), r.2)) r24 (fun s19 z26 HF H120 H221 => ?_) _ _ hl25
      obtain ⟨z27, HA28, HK29⟩ := q_bind HF
      have hP30 : ∀ p32 : Unit, (Option.bind (α := (Unit) ⊕ ((q_H) ⊕ (q_H))) (if (s19.1 30 19 7 0) = 0 then (some (.inr (.inr (s19)))) else (some (.inl ()))) (fun z33 => match z33 with | .inl p38 => (Mo_readsLine s19).bind fun x39 => some (.inl x39) | .inr z33 => some z33) : Option ((q_H) ⊕ (q_H))) = some z26 → q_E d q_K258 82 [some (.inr (.inr (30, 7, 0))), some (.inl a1)] [] s19 (some (.inl r.1), r.2) := by
        intro p32 HF
        obtain ⟨z33, HA34, HK35⟩ := q_bind HF
        have hP36 : ∀ p38 : Unit, ((Mo_readsLine s19).bind fun x39 => some (.inl x39) : Option ((q_H) ⊕ (q_H))) = some z26 → q_E d q_K258 89 [some (.inr (.inr (30, 7, 0))), some (.inl a1)] [] s19 (some (.inl r.1), r.2) := by
          intro p38 HF
          obtain ⟨x39, hx40, HF⟩ := q_bind HF
          refine q_cll (m' := 257) (av := [.inr (.inr (30, 7, 0))]) (st' := []) (pc' := 93) (loc' := [some (.inr (.inr (30, 7, 0))), some (.inl a1)]) (h' := s19) 2 (fun _ _ => rfl) (eMo_readsLine (by omega) hx40) ?_
          refine q_blk (pc' := 75) (loc' := [some (.inr (.inr (30, 7, 0))), some (.inl a1)]) (stk' := []) (h' := x39) 1 (fun _ _ => rfl) ?_
          have hz := Option.some.inj HF
          subst hz
          exact H120 (x39) rfl
        replace HF := HA34
        refine q_br (P := (s19.1 30 19 7 0) = 0) (pcT := 96) (pcF := 89) (loc' := [some (.inr (.inr (30, 7, 0))), some (.inl a1)]) (stk' := []) (h' := s19) 3 (fun _ _ => rfl) (fun c37 => ?_) (fun c37 => ?_)
        · rw [if_pos c37] at HF
          have hz := Option.some.inj HF
          subst hz
          replace HF := HK35
          have hz := Option.some.inj HF
          subst hz
          rw [← H221 _ rfl] at HK22
          exact hP23 (s19) HK22
        · rw [if_neg c37] at HF
          have hz := Option.some.inj HF
          subst hz
          exact hP36 () HK35
      replace HF := HA28
      refine q_br (P := ¬ (s19.1 30 15 7 0) = 0) (pcT := 96) (pcF := 82) (loc' := [some (.inr (.inr (30, 7, 0))), some (.inl a1)]) (stk' := []) (h' := s19) 3 (fun _ _ => rfl) (fun c31 => ?_) (fun c31 => ?_)
      · rw [if_pos c31] at HF
        have hz := Option.some.inj HF
        subst hz
        replace HF := HK29
        have hz := Option.some.inj HF
        subst hz
        rw [← H221 _ rfl] at HK22
        exact hP23 (s19) HK22
      · rw [if_neg c31] at HF
        have hz := Option.some.inj HF
        subst hz
        exact hP30 () HK29
    · rw [if_neg c56] at HF
      have hz := Option.some.inj HF
      subst hz
      exact q_rtn 2 (fun _ _ => rfl)
  replace HF := HA4
  refine q_br (P := x1 = 0) (pcT := 17) (pcF := 13) (loc' := [some (.inr (.inr (30, 7, 0))), some (.inl a1)]) (stk' := [.inr (.inr (30, 7, 0))]) (h' := h) 1 (fun _ _ => rfl) (fun c7 => ?_) (fun c7 => ?_)
  · rw [if_pos c7] at HF
    refine q_blk (pc' := 18) (loc' := [some (.inr (.inr (30, 7, 0))), some (.inl a1)]) (stk' := [.inl (1 : Int32), .inr (.inr (30, 7, 0))]) (h' := h) 1 (fun _ _ => rfl) ?_
    have hz := Option.some.inj HF
    subst hz
    exact hP6 (1 : Int32) HK5
  · rw [if_neg c7] at HF
    refine q_blk (pc' := 18) (loc' := [some (.inr (.inr (30, 7, 0))), some (.inl a1)]) (stk' := [.inl (0 : Int32), .inr (.inr (30, 7, 0))]) (h' := h) 2 (fun _ _ => rfl) ?_
    have hz := Option.some.inj HF
    subst hz
    exact hP6 (0 : Int32) HK5
