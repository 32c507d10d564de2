def Mo_load (a1 : Int32) (h : q_H) : Option (Int32 × q_H) :=
  (Mo_isIn a1 (0 : Int32) (h.1 30 12 7 0) h).bind fun x1 => Option.bind (α := Int32) (if x1 = 0 then (some ((1 : Int32))) else (some ((0 : Int32)))) (fun p8 => (Mo_is p8 h).bind fun x9 => if ¬ x9.1 = 0 then ((some (q_si (q_si (q_si (q_si (q_si (q_si x9.2 30 21 7 0 a1) 30 18 7 0 (0 : Int32)) 30 15 7 0 (0 : Int32)) 30 26 7 0 (0 : Int32)) 30 27 7 0 (0 : Int32)) 30 28 7 0 (0 : Int32))).bind fun h11 => (Mo_copy 31 7 34 7 h11).bind fun x13 => (Mo_clears x13).bind fun x15 => (Mo_reads x15).bind fun x17 => (q_lp (fun s19 : q_H => (Option.bind (α := (Unit) ⊕ ((q_H) ⊕ (q_H))) (if ¬ (s19.1 30 15 7 0) = 0 then (some (.inr (.inr (s19)))) else (some (.inl ()))) (fun z27 => match z27 with | .inl p32 => Option.bind (α := (Unit) ⊕ ((q_H) ⊕ (q_H))) (if (s19.1 30 19 7 0) = 0 then (some (.inr (.inr (s19)))) else (some (.inl ()))) (fun z33 => match z33 with | .inl p38 => (Mo_readsLine s19).bind fun x39 => some (.inl x39) | .inr z33 => some z33) | .inr z27 => some z27) : Option ((q_H) ⊕ (q_H)))) q_fu (x17 : q_H)).bind fun p43 => Option.bind (α := Int32) (if ((q_si (q_si p43 30 12 7 0 (0 : Int32)) 30 13 7 0 ((q_si p43 30 12 7 0 (0 : Int32)).1 30 15 7 0)).1 30 15 7 0) ≤ 0 then (some ((-1 : Int32))) else (some (((q_si (q_si p43 30 12 7 0 (0 : Int32)) 30 13 7 0 ((q_si p43 30 12 7 0 (0 : Int32)).1 30 15 7 0)).1 30 16 7 0)))) (fun p49 => if ¬ ((q_si (q_si (q_si (q_si p43 30 12 7 0 (0 : Int32)) 30 13 7 0 ((q_si p43 30 12 7 0 (0 : Int32)).1 30 15 7 0)) 30 14 7 0 p49) 30 6 7 0 (0 : Int32)).1 30 15 7 0) = 0 then ((Mo_copy 34 7 31 7 (q_si (q_si (q_si (q_si p43 30 12 7 0 (0 : Int32)) 30 13 7 0 ((q_si p43 30 12 7 0 (0 : Int32)).1 30 15 7 0)) 30 14 7 0 p49) 30 6 7 0 (0 : Int32))).bind fun x50 => (Mo_refuse (9 : Int32) x50).bind fun x52 => some ((x52.1, x52.2))) else (bif q_in (3 : Int32) 1644 then (some ((((q_si (q_si (q_si (q_si p43 30 12 7 0 (0 : Int32)) 30 13 7 0 ((q_si p43 30 12 7 0 (0 : Int32)).1 30 15 7 0)) 30 14 7 0 p49) 30 6 7 0 (0 : Int32)).1 31 0 7 (3 : Int32).toNatClampNeg), (q_si (q_si (q_si (q_si p43 30 12 7 0 (0 : Int32)) 30 13 7 0 ((q_si p43 30 12 7 0 (0 : Int32)).1 30 15 7 0)) 30 14 7 0 p49) 30 6 7 0 (0 : Int32))))) else none))) else (some (((-1 : Int32), x9.2))))
set_option maxRecDepth 100000 in
set_option maxHeartbeats 4000000 in
theorem eMo_load {d : Nat} (hd : 10 ≤ d) {a1 : Int32} {h : q_H} {r : (Int32 × q_H)} (HF : Mo_load a1 h = some r) : q_T d 258 [.inr (.inr (30, 7, 0)), .inl a1] h (some (.inl r.1), r.2) := by
  obtain ⟨d, rfl⟩ : ∃ d', d = d' + 1 := ⟨d - 1, by omega⟩
  refine q_ent q_K258 rfl rfl rfl ?_
  unfold Mo_load at HF
  obtain ⟨x1, hx2, HF⟩ := q_bind HF
  refine q_cll (m' := 184) (av := [.inl a1, .inl (0 : Int32), .inl (h.1 30 12 7 0)]) (st' := [.inr (.inr (30, 7, 0))]) (pc' := 10) (loc' := [some (.inr (.inr (30, 7, 0))), some (.inl a1)]) (h' := h) 6 (fun _ _ => rfl) (eMo_isIn (by omega) hx2) ?_
  obtain ⟨z3, HA4, HK5⟩ := q_bind HF
  have hP6 : ∀ p8 : Int32, ((Mo_is p8 h).bind fun x9 => if ¬ x9.1 = 0 then ((some (q_si (q_si (q_si (q_si (q_si (q_si x9.2 30 21 7 0 a1) 30 18 7 0 (0 : Int32)) 30 15 7 0 (0 : Int32)) 30 26 7 0 (0 : Int32)) 30 27 7 0 (0 : Int32)) 30 28 7 0 (0 : Int32))).bind fun h11 => (Mo_copy 31 7 34 7 h11).bind fun x13 => (Mo_clears x13).bind fun x15 => (Mo_reads x15).bind fun x17 => (q_lp (fun s19 : q_H => (Option.bind (α := (Unit) ⊕ ((q_H) ⊕ (q_H))) (if ¬ (s19.1 30 15 7 0) = 0 then (some (.inr (.inr (s19)))) else (some (.inl ()))) (fun z27 => match z27 with | .inl p32 => Option.bind (α := (Unit) ⊕ ((q_H) ⊕ (q_H))) (if (s19.1 30 19 7 0) = 0 then (some (.inr (.inr (s19)))) else (some (.inl ()))) (fun z33 => match z33 with | .inl p38 => (Mo_readsLine s19).bind fun x39 => some (.inl x39) | .inr z33 => some z33) | .inr z27 => some z27) : Option ((q_H) ⊕ (q_H)))) q_fu (x17 : q_H)).bind fun p43 => Option.bind (α := Int32) (if ((q_si (q_si p43 30 12 7 0 (0 : Int32)) 30 13 7 0 ((q_si p43 30 12 7 0 (0 : Int32)).1 30 15 7 0)).1 30 15 7 0) ≤ 0 then (some ((-1 : Int32))) else (some (((q_si (q_si p43 30 12 7 0 (0 : Int32)) 30 13 7 0 ((q_si p43 30 12 7 0 (0 : Int32)).1 30 15 7 0)).1 30 16 7 0)))) (fun p49 => if ¬ ((q_si (q_si (q_si (q_si p43 30 12 7 0 (0 : Int32)) 30 13 7 0 ((q_si p43 30 12 7 0 (0 : Int32)).1 30 15 7 0)) 30 14 7 0 p49) 30 6 7 0 (0 : Int32)).1 30 15 7 0) = 0 then ((Mo_copy 34 7 31 7 (q_si (q_si (q_si (q_si p43 30 12 7 0 (0 : Int32)) 30 13 7 0 ((q_si p43 30 12 7 0 (0 : Int32)).1 30 15 7 0)) 30 14 7 0 p49) 30 6 7 0 (0 : Int32))).bind fun x50 => (Mo_refuse (9 : Int32) x50).bind fun x52 => some ((x52.1, x52.2))) else (bif q_in (3 : Int32) 1644 then (some ((((q_si (q_si (q_si (q_si p43 30 12 7 0 (0 : Int32)) 30 13 7 0 ((q_si p43 30 12 7 0 (0 : Int32)).1 30 15 7 0)) 30 14 7 0 p49) 30 6 7 0 (0 : Int32)).1 31 0 7 (3 : Int32).toNatClampNeg), (q_si (q_si (q_si (q_si p43 30 12 7 0 (0 : Int32)) 30 13 7 0 ((q_si p43 30 12 7 0 (0 : Int32)).1 30 15 7 0)) 30 14 7 0 p49) 30 6 7 0 (0 : Int32))))) else none))) else (some (((-1 : Int32), x9.2)))) = some _ → q_E d q_K258 18 [some (.inr (.inr (30, 7, 0))), some (.inl a1)] [.inl p8, .inr (.inr (30, 7, 0))] h _ := by
    intro p8 HF
    obtain ⟨x9, hx10, HF⟩ := q_bind HF
    refine q_cll (m' := 183) (av := [.inr (.inr (30, 7, 0)), .inl p8]) (st' := []) (pc' := 21) (loc' := [some (.inr (.inr (30, 7, 0))), some (.inl a1)]) (h' := h) 1 (fun _ _ => rfl) (eMo_is (by omega) hx10) ?_
    refine q_br (P := ¬ x9.1 = 0) (pcT := 26) (pcF := 24) (loc' := [some (.inr (.inr (30, 7, 0))), some (.inl a1)]) (stk' := []) (h' := x9.2) 1 (fun _ _ => rfl) (fun c57 => ?_) (fun c57 => ?_)
    · rw [if_pos c57] at HF
      obtain ⟨h11, e12, HF⟩ := q_bind HF
      refine q_blk (pc' := 56) (loc' := [some (.inr (.inr (30, 7, 0))), some (.inl a1)]) (stk' := []) (h' := (q_si (q_si (q_si (q_si (q_si (q_si x9.2 30 21 7 0 a1) 30 18 7 0 (0 : Int32)) 30 15 7 0 (0 : Int32)) 30 26 7 0 (0 : Int32)) 30 27 7 0 (0 : Int32)) 30 28 7 0 (0 : Int32))) 18 (fun _ _ => rfl) ?_
      rw [Option.some.inj e12]
      obtain ⟨x13, hx14, HF⟩ := q_bind HF
      refine q_cll (m' := 186) (av := [.inr (.inr (31, 7, 0)), .inr (.inr (34, 7, 0))]) (st' := []) (pc' := 67) (loc' := [some (.inr (.inr (30, 7, 0))), some (.inl a1)]) (h' := h11) 5 (fun _ _ => rfl) (eMo_copy (by omega) hx14) ?_
      obtain ⟨x15, hx16, HF⟩ := q_bind HF
      refine q_cll (m' := 185) (av := [.inr (.inr (30, 7, 0))]) (st' := []) (pc' := 71) (loc' := [some (.inr (.inr (30, 7, 0))), some (.inl a1)]) (h' := x13) 2 (fun _ _ => rfl) (eMo_clears (by omega) hx16) ?_
      obtain ⟨x17, hx18, HF⟩ := q_bind HF
      refine q_cll (m' := 252) (av := [.inr (.inr (30, 7, 0))]) (st' := []) (pc' := 75) (loc' := [some (.inr (.inr (30, 7, 0))), some (.inl a1)]) (h' := x15) 2 (fun _ _ => rfl) (eMo_reads (by omega) hx18) ?_
      obtain ⟨r24, hl25, HK22⟩ := q_bind HF
      have hP23 : ∀ p43 : q_H, (Option.bind (α := Int32) (if ((q_si (q_si p43 30 12 7 0 (0 : Int32)) 30 13 7 0 ((q_si p43 30 12 7 0 (0 : Int32)).1 30 15 7 0)).1 30 15 7 0) ≤ 0 then (some ((-1 : Int32))) else (some (((q_si (q_si p43 30 12 7 0 (0 : Int32)) 30 13 7 0 ((q_si p43 30 12 7 0 (0 : Int32)).1 30 15 7 0)).1 30 16 7 0)))) (fun p49 => if ¬ ((q_si (q_si (q_si (q_si p43 30 12 7 0 (0 : Int32)) 30 13 7 0 ((q_si p43 30 12 7 0 (0 : Int32)).1 30 15 7 0)) 30 14 7 0 p49) 30 6 7 0 (0 : Int32)).1 30 15 7 0) = 0 then ((Mo_copy 34 7 31 7 (q_si (q_si (q_si (q_si p43 30 12 7 0 (0 : Int32)) 30 13 7 0 ((q_si p43 30 12 7 0 (0 : Int32)).1 30 15 7 0)) 30 14 7 0 p49) 30 6 7 0 (0 : Int32))).bind fun x50 => (Mo_refuse (9 : Int32) x50).bind fun x52 => some ((x52.1, x52.2))) else (bif q_in (3 : Int32) 1644 then (some ((((q_si (q_si (q_si (q_si p43 30 12 7 0 (0 : Int32)) 30 13 7 0 ((q_si p43 30 12 7 0 (0 : Int32)).1 30 15 7 0)) 30 14 7 0 p49) 30 6 7 0 (0 : Int32)).1 31 0 7 (3 : Int32).toNatClampNeg), (q_si (q_si (q_si (q_si p43 30 12 7 0 (0 : Int32)) 30 13 7 0 ((q_si p43 30 12 7 0 (0 : Int32)).1 30 15 7 0)) 30 14 7 0 p49) 30 6 7 0 (0 : Int32))))) else none))) = some _ → q_E d q_K258 96 [some (.inr (.inr (30, 7, 0))), some (.inl a1)] [] p43 _ := by
        intro p43 HF
        obtain ⟨z44, HA45, HK46⟩ := q_bind HF
        have hP47 : ∀ p49 : Int32, (if ¬ ((q_si (q_si (q_si (q_si p43 30 12 7 0 (0 : Int32)) 30 13 7 0 ((q_si p43 30 12 7 0 (0 : Int32)).1 30 15 7 0)) 30 14 7 0 p49) 30 6 7 0 (0 : Int32)).1 30 15 7 0) = 0 then ((Mo_copy 34 7 31 7 (q_si (q_si (q_si (q_si p43 30 12 7 0 (0 : Int32)) 30 13 7 0 ((q_si p43 30 12 7 0 (0 : Int32)).1 30 15 7 0)) 30 14 7 0 p49) 30 6 7 0 (0 : Int32))).bind fun x50 => (Mo_refuse (9 : Int32) x50).bind fun x52 => some ((x52.1, x52.2))) else (bif q_in (3 : Int32) 1644 then (some ((((q_si (q_si (q_si (q_si p43 30 12 7 0 (0 : Int32)) 30 13 7 0 ((q_si p43 30 12 7 0 (0 : Int32)).1 30 15 7 0)) 30 14 7 0 p49) 30 6 7 0 (0 : Int32)).1 31 0 7 (3 : Int32).toNatClampNeg), (q_si (q_si (q_si (q_si p43 30 12 7 0 (0 : Int32)) 30 13 7 0 ((q_si p43 30 12 7 0 (0 : Int32)).1 30 15 7 0)) 30 14 7 0 p49) 30 6 7 0 (0 : Int32))))) else none)) = some _ → q_E d q_K258 125 [some (.inr (.inr (30, 7, 0))), some (.inl a1)] [.inl p49, .inr (.inr (30, 7, 0))] (q_si (q_si p43 30 12 7 0 (0 : Int32)) 30 13 7 0 ((q_si p43 30 12 7 0 (0 : Int32)).1 30 15 7 0)) _ := by
          intro p49 HF
          refine q_br (P := ¬ ((q_si (q_si (q_si (q_si p43 30 12 7 0 (0 : Int32)) 30 13 7 0 ((q_si p43 30 12 7 0 (0 : Int32)).1 30 15 7 0)) 30 14 7 0 p49) 30 6 7 0 (0 : Int32)).1 30 15 7 0) = 0) (pcT := 147) (pcF := 140) (loc' := [some (.inr (.inr (30, 7, 0))), some (.inl a1)]) (stk' := []) (h' := (q_si (q_si (q_si (q_si p43 30 12 7 0 (0 : Int32)) 30 13 7 0 ((q_si p43 30 12 7 0 (0 : Int32)).1 30 15 7 0)) 30 14 7 0 p49) 30 6 7 0 (0 : Int32))) 7 (fun _ _ => rfl) (fun c55 => ?_) (fun c55 => ?_)
          · rw [if_pos c55] at HF
            obtain ⟨x50, hx51, HF⟩ := q_bind HF
            refine q_cll (m' := 186) (av := [.inr (.inr (34, 7, 0)), .inr (.inr (31, 7, 0))]) (st' := []) (pc' := 158) (loc' := [some (.inr (.inr (30, 7, 0))), some (.inl a1)]) (h' := (q_si (q_si (q_si (q_si p43 30 12 7 0 (0 : Int32)) 30 13 7 0 ((q_si p43 30 12 7 0 (0 : Int32)).1 30 15 7 0)) 30 14 7 0 p49) 30 6 7 0 (0 : Int32))) 5 (fun _ _ => rfl) (eMo_copy (by omega) hx51) ?_
            obtain ⟨x52, hx53, HF⟩ := q_bind HF
            refine q_cll (m' := 182) (av := [.inr (.inr (30, 7, 0)), .inl (9 : Int32)]) (st' := []) (pc' := 164) (loc' := [some (.inr (.inr (30, 7, 0))), some (.inl a1)]) (h' := x50) 3 (fun _ _ => rfl) (eMo_refuse (by omega) hx53) ?_
            cases HF
            exact q_rtn 1 (fun _ _ => rfl)
          · rw [if_neg c55] at HF
            rcases Bool.eq_false_or_eq_true (q_in (3 : Int32) 1644) with g54 | g54
            · rw [g54, cond_true] at HF
              refine q_gd (pc' := 146) (loc' := [some (.inr (.inr (30, 7, 0))), some (.inl a1)]) (stk' := [.inl ((q_si (q_si (q_si (q_si p43 30 12 7 0 (0 : Int32)) 30 13 7 0 ((q_si p43 30 12 7 0 (0 : Int32)).1 30 15 7 0)) 30 14 7 0 p49) 30 6 7 0 (0 : Int32)).1 31 0 7 (3 : Int32).toNatClampNeg)]) (h' := (q_si (q_si (q_si (q_si p43 30 12 7 0 (0 : Int32)) 30 13 7 0 ((q_si p43 30 12 7 0 (0 : Int32)).1 30 15 7 0)) 30 14 7 0 p49) 30 6 7 0 (0 : Int32))) 4 (fun _ _ => rfl) g54 ?_
              cases HF
              exact q_rtn 1 (fun _ _ => rfl)
            · rw [g54] at HF; cases HF
        replace HF := HA45
        refine q_br (P := ((q_si (q_si p43 30 12 7 0 (0 : Int32)) 30 13 7 0 ((q_si p43 30 12 7 0 (0 : Int32)).1 30 15 7 0)).1 30 15 7 0) ≤ 0) (pcT := 124) (pcF := 117) (loc' := [some (.inr (.inr (30, 7, 0))), some (.inl a1)]) (stk' := [.inr (.inr (30, 7, 0))]) (h' := (q_si (q_si p43 30 12 7 0 (0 : Int32)) 30 13 7 0 ((q_si p43 30 12 7 0 (0 : Int32)).1 30 15 7 0))) 11 (fun _ _ => rfl) (fun c48 => ?_) (fun c48 => ?_)
        · rw [if_pos c48] at HF
          refine q_blk (pc' := 125) (loc' := [some (.inr (.inr (30, 7, 0))), some (.inl a1)]) (stk' := [.inl (-1 : Int32), .inr (.inr (30, 7, 0))]) (h' := (q_si (q_si p43 30 12 7 0 (0 : Int32)) 30 13 7 0 ((q_si p43 30 12 7 0 (0 : Int32)).1 30 15 7 0))) 1 (fun _ _ => rfl) ?_
          cases HF
          exact hP47 _ HK46
        · rw [if_neg c48] at HF
          refine q_blk (pc' := 125) (loc' := [some (.inr (.inr (30, 7, 0))), some (.inl a1)]) (stk' := [.inl ((q_si (q_si p43 30 12 7 0 (0 : Int32)) 30 13 7 0 ((q_si p43 30 12 7 0 (0 : Int32)).1 30 15 7 0)).1 30 16 7 0), .inr (.inr (30, 7, 0))]) (h' := (q_si (q_si p43 30 12 7 0 (0 : Int32)) 30 13 7 0 ((q_si p43 30 12 7 0 (0 : Int32)).1 30 15 7 0))) 3 (fun _ _ => rfl) ?_
          cases HF
          exact hP47 _ HK46
      refine q_lpE (E := fun s19 => q_E d q_K258 75 [some (.inr (.inr (30, 7, 0))), some (.inl a1)] [] s19 _) r24 (fun s19 z26 HF H120 H221 => ?_) _ _ hl25
      obtain ⟨z27, HA28, HK29⟩ := q_bind HF
      have hP30 : ∀ p32 : Unit, (Option.bind (α := (Unit) ⊕ ((q_H) ⊕ (q_H))) (if (s19.1 30 19 7 0) = 0 then (some (.inr (.inr (s19)))) else (some (.inl ()))) (fun z33 => match z33 with | .inl p38 => (Mo_readsLine s19).bind fun x39 => some (.inl x39) | .inr z33 => some z33)) = some _ → q_E d q_K258 82 [some (.inr (.inr (30, 7, 0))), some (.inl a1)] [] s19 _ := by
        intro p32 HF
        obtain ⟨z33, HA34, HK35⟩ := q_bind HF
        have hP36 : ∀ p38 : Unit, ((Mo_readsLine s19).bind fun x39 => some (.inl x39)) = some _ → q_E d q_K258 89 [some (.inr (.inr (30, 7, 0))), some (.inl a1)] [] s19 _ := by
          intro p38 HF
          obtain ⟨x39, hx40, HF⟩ := q_bind HF
          refine q_cll (m' := 257) (av := [.inr (.inr (30, 7, 0))]) (st' := []) (pc' := 93) (loc' := [some (.inr (.inr (30, 7, 0))), some (.inl a1)]) (h' := s19) 2 (fun _ _ => rfl) (eMo_readsLine (by omega) hx40) ?_
          refine q_blk (pc' := 75) (loc' := [some (.inr (.inr (30, 7, 0))), some (.inl a1)]) (stk' := []) (h' := x39) 1 (fun _ _ => rfl) ?_
          cases HF
          exact H120 _ rfl
        replace HF := HA34
        refine q_br (P := (s19.1 30 19 7 0) = 0) (pcT := 96) (pcF := 89) (loc' := [some (.inr (.inr (30, 7, 0))), some (.inl a1)]) (stk' := []) (h' := s19) 3 (fun _ _ => rfl) (fun c37 => ?_) (fun c37 => ?_)
        · rw [if_pos c37] at HF
          cases HF
          replace HF := HK35
          cases HF
          rw [← H221 _ rfl] at HK22
          exact hP23 _ HK22
        · rw [if_neg c37] at HF
          cases HF
          exact hP36 _ HK35
      replace HF := HA28
      refine q_br (P := ¬ (s19.1 30 15 7 0) = 0) (pcT := 96) (pcF := 82) (loc' := [some (.inr (.inr (30, 7, 0))), some (.inl a1)]) (stk' := []) (h' := s19) 3 (fun _ _ => rfl) (fun c31 => ?_) (fun c31 => ?_)
      · rw [if_pos c31] at HF
        cases HF
        replace HF := HK29
        cases HF
        rw [← H221 _ rfl] at HK22
        exact hP23 _ HK22
      · rw [if_neg c31] at HF
        cases HF
        exact hP30 _ HK29
    · rw [if_neg c57] at HF
      cases HF
      exact q_rtn 2 (fun _ _ => rfl)
  replace HF := HA4
  refine q_br (P := x1 = 0) (pcT := 17) (pcF := 13) (loc' := [some (.inr (.inr (30, 7, 0))), some (.inl a1)]) (stk' := [.inr (.inr (30, 7, 0))]) (h' := h) 1 (fun _ _ => rfl) (fun c7 => ?_) (fun c7 => ?_)
  · rw [if_pos c7] at HF
    refine q_blk (pc' := 18) (loc' := [some (.inr (.inr (30, 7, 0))), some (.inl a1)]) (stk' := [.inl (1 : Int32), .inr (.inr (30, 7, 0))]) (h' := h) 1 (fun _ _ => rfl) ?_
    cases HF
    exact hP6 _ HK5
  · rw [if_neg c7] at HF
    refine q_blk (pc' := 18) (loc' := [some (.inr (.inr (30, 7, 0))), some (.inl a1)]) (stk' := [.inl (0 : Int32), .inr (.inr (30, 7, 0))]) (h' := h) 2 (fun _ _ => rfl) ?_
    cases HF
    exact hP6 _ HK5
