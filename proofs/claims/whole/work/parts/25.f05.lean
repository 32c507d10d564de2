def St_pruneSlot (k : Nat) (a1 : Int32) (h : q_H) : Option (Int32 × q_H) :=
  (Pg_at k a1 h).bind fun x1 => Option.bind (α := (Unit) ⊕ (Int32 × q_H)) (if ¬ (h.1 3 0 k x1) = (1 : Int32) then (some (.inl ())) else (if (h.1 3 10 k x1) = 0 then (some (.inl ())) else (some (.inr (((0 : Int32), h)))))) (fun z3 => match z3 with | .inl p9 => (St_chainFirst k a1 h).bind fun x10 => (q_lp (fun s12 : Int32 × Int32 × Int32 × q_H => (if (10 : Int32) ≤ s12.2.2.1 then (some (.inr ((s12.1, s12.2.1, s12.2.2.2)))) else (if s12.1 = (-1 : Int32) then (some (.inr ((s12.1, s12.2.1, s12.2.2.2)))) else ((Pg_at k s12.1 s12.2.2.2).bind fun x20 => (St_isDead k k x20 s12.2.2.2).bind fun x22 => if x22 = 0 then (some (.inr ((s12.1, s12.2.1, s12.2.2.2)))) else ((St_chainNext k s12.1 s12.2.2.2).bind fun x24 => (Pg_at k s12.1 s12.2.2.2).bind fun x26 => (Sl_empty k x26 (0 : Int32) s12.2.2.2).bind fun x28 => some (.inl (x24, (s12.2.1 + (1 : Int32)), (s12.2.2.1 + (1 : Int32)), x28))))) : Option ((Int32 × Int32 × Int32 × q_H) ⊕ (Int32 × Int32 × q_H)))) q_fu ((x10, (0 : Int32), (0 : Int32), h) : Int32 × Int32 × Int32 × q_H)).bind fun p33 => if ¬ p33.2.1 = 0 then (Option.bind (α := Int32) (if ¬ p33.1 = (-1 : Int32) then (some ((2 : Int32))) else (some ((3 : Int32)))) (fun p39 => (Sl_empty k x1 p39 p33.2.2).bind fun x40 => if ¬ p33.1 = (-1 : Int32) then ((Lg_tell k (2 : Int32) a1 (q_si x40 3 1 k x1 p33.1)).bind fun x42 => some ((p33.2.1, x42))) else ((Lg_tell k (1 : Int32) a1 (q_si x40 3 1 k x1 p33.1)).bind fun x44 => some ((p33.2.1, x44))))) else (some (((0 : Int32), p33.2.2))) | .inr z3 => some z3)
set_option maxRecDepth 100000 in
set_option maxHeartbeats 4000000 in
theorem eSt_pruneSlot {d : Nat} (hd : 3 ≤ d) {k : Nat} {a1 : Int32} {h : q_H} {r : (Int32 × q_H)} (HF : St_pruneSlot k a1 h = some r) : q_T d 165 [.inr (.inr (0, k, 0)), .inl a1] h (some (.inl r.1), r.2) := by
  obtain ⟨d, rfl⟩ : ∃ d', d = d' + 1 := ⟨d - 1, by omega⟩
  refine q_ent q_K165 rfl rfl rfl ?_
  unfold St_pruneSlot at HF
  obtain ⟨x1, hx2, HF⟩ := q_bind HF
  refine q_cll (m' := 89) (av := [.inr (.inr (1, k, 0)), .inl a1]) (st' := []) (pc' := 8) (loc' := [some (.inr (.inr (0, k, 0))), some (.inl a1), none, none, none, none, none]) (h' := h) 4 (fun _ _ => rfl) (ePg_at (by omega) hx2) ?_
  obtain ⟨z3, HA4, HK5⟩ := q_bind HF
  have hP6 : ∀ p9 : Unit, ((St_chainFirst k a1 h).bind fun x10 => (q_lp (fun s12 : Int32 × Int32 × Int32 × q_H => (if (10 : Int32) ≤ s12.2.2.1 then (some (.inr ((s12.1, s12.2.1, s12.2.2.2)))) else (if s12.1 = (-1 : Int32) then (some (.inr ((s12.1, s12.2.1, s12.2.2.2)))) else ((Pg_at k s12.1 s12.2.2.2).bind fun x20 => (St_isDead k k x20 s12.2.2.2).bind fun x22 => if x22 = 0 then (some (.inr ((s12.1, s12.2.1, s12.2.2.2)))) else ((St_chainNext k s12.1 s12.2.2.2).bind fun x24 => (Pg_at k s12.1 s12.2.2.2).bind fun x26 => (Sl_empty k x26 (0 : Int32) s12.2.2.2).bind fun x28 => some (.inl (x24, (s12.2.1 + (1 : Int32)), (s12.2.2.1 + (1 : Int32)), x28))))) : Option ((Int32 × Int32 × Int32 × q_H) ⊕ (Int32 × Int32 × q_H)))) q_fu ((x10, (0 : Int32), (0 : Int32), h) : Int32 × Int32 × Int32 × q_H)).bind fun p33 => if ¬ p33.2.1 = 0 then (Option.bind (α := Int32) (if ¬ p33.1 = (-1 : Int32) then (some ((2 : Int32))) else (some ((3 : Int32)))) (fun p39 => (Sl_empty k x1 p39 p33.2.2).bind fun x40 => if ¬ p33.1 = (-1 : Int32) then ((Lg_tell k (2 : Int32) a1 (q_si x40 3 1 k x1 p33.1)).bind fun x42 => some ((p33.2.1, x42))) else ((Lg_tell k (1 : Int32) a1 (q_si x40 3 1 k x1 p33.1)).bind fun x44 => some ((p33.2.1, x44))))) else (some (((0 : Int32), p33.2.2))) : Option (Int32 × q_H)) = some r → q_E d q_K165 26 [some (.inr (.inr (0, k, 0))), some (.inl a1), some (.inr (.inr (3, k, x1))), none, none, none, none] [] h (some (.inl r.1), r.2) := by
    intro p9 HF
    obtain ⟨x10, hx11, HF⟩ := q_bind HF
    refine q_cll (m' := 157) (av := [.inr (.inr (0, k, 0)), .inl a1]) (st' := []) (pc' := 31) (loc' := [some (.inr (.inr (0, k, 0))), some (.inl a1), some (.inr (.inr (3, k, x1))), none, none, none, none]) (h' := h) 3 (fun _ _ => rfl) (eSt_chainFirst (by omega) hx11) ?_
    refine q_blk (pc' := 38) (loc' := [some (.inr (.inr (0, k, 0))), some (.inl a1), some (.inr (.inr (3, k, x1))), some (.inl x10), some (.inl (0 : Int32)), some (.inl (0 : Int32)), none]) (stk' := []) (h' := h) 5 (fun _ _ => rfl) ?_
    obtain ⟨r17, hl18, HK15⟩ := q_bind HF
    have hP16 : ∀ p33 : Int32 × Int32 × q_H, (if ¬ p33.2.1 = 0 then (Option.bind (α := Int32) (if ¬ p33.1 = (-1 : Int32) then (some ((2 : Int32))) else (some ((3 : Int32)))) (fun p39 => (Sl_empty k x1 p39 p33.2.2).bind fun x40 => if ¬ p33.1 = (-1 : Int32) then ((Lg_tell k (2 : Int32) a1 (q_si x40 3 1 k x1 p33.1)).bind fun x42 => some ((p33.2.1, x42))) else ((Lg_tell k (1 : Int32) a1 (q_si x40 3 1 k x1 p33.1)).bind fun x44 => some ((p33.2.1, x44))))) else (some (((0 : Int32), p33.2.2))) : Option (Int32 × q_H)) = some r → q_E d q_K165 96 [some (.inr (.inr (0, k, 0))), some (.inl a1), some (.inr (.inr (3, k, x1))), some (.inl p33.1), some (.inl p33.2.1), none, none] [] p33.2.2 (some (.inl r.1), r.2) := by
      intro p33 HF
      refine q_br (P := ¬ p33.2.1 = 0) (pcT := 103) (pcF := 101) (loc' := [some (.inr (.inr (0, k, 0))), some (.inl a1), some (.inr (.inr (3, k, x1))), some (.inl p33.1), some (.inl p33.2.1), none, none]) (stk' := []) (h' := p33.2.2) 2 (fun _ _ => rfl) (fun c48 => ?_) (fun c48 => ?_)
      · rw [if_pos c48] at HF
        obtain ⟨z34, HA35, HK36⟩ := q_bind HF
        have hP37 : ∀ p39 : Int32, ((Sl_empty k x1 p39 p33.2.2).bind fun x40 => if ¬ p33.1 = (-1 : Int32) then ((Lg_tell k (2 : Int32) a1 (q_si x40 3 1 k x1 p33.1)).bind fun x42 => some ((p33.2.1, x42))) else ((Lg_tell k (1 : Int32) a1 (q_si x40 3 1 k x1 p33.1)).bind fun x44 => some ((p33.2.1, x44))) : Option (Int32 × q_H)) = some r → q_E d q_K165 114 [some (.inr (.inr (0, k, 0))), some (.inl a1), some (.inr (.inr (3, k, x1))), some (.inl p33.1), some (.inl p33.2.1), none, none] [.inl p39, .inr (.inr (3, k, x1))] p33.2.2 (some (.inl r.1), r.2) := by
          intro p39 HF
          obtain ⟨x40, hx41, HF⟩ := q_bind HF
          refine q_cll (m' := 63) (av := [.inr (.inr (3, k, x1)), .inl p39]) (st' := []) (pc' := 117) (loc' := [some (.inr (.inr (0, k, 0))), some (.inl a1), some (.inr (.inr (3, k, x1))), some (.inl p33.1), some (.inl p33.2.1), none, none]) (h' := p33.2.2) 1 (fun _ _ => rfl) (eSl_empty (by omega) hx41) ?_
          refine q_br (P := ¬ p33.1 = (-1 : Int32)) (pcT := 135) (pcF := 131) (loc' := [some (.inr (.inr (0, k, 0))), some (.inl a1), some (.inr (.inr (3, k, x1))), some (.inl p33.1), some (.inl p33.2.1), none, none]) (stk' := [.inr (.inr (15, k, 0))]) (h' := (q_si x40 3 1 k x1 p33.1)) 8 (fun _ _ => rfl) (fun c46 => ?_) (fun c46 => ?_)
          · rw [if_pos c46] at HF
            obtain ⟨x42, hx43, HF⟩ := q_bind HF
            refine q_cll (m' := 82) (av := [.inr (.inr (15, k, 0)), .inl (2 : Int32), .inl a1]) (st' := []) (pc' := 140) (loc' := [some (.inr (.inr (0, k, 0))), some (.inl a1), some (.inr (.inr (3, k, x1))), some (.inl p33.1), some (.inl p33.2.1), none, none]) (h' := (q_si x40 3 1 k x1 p33.1)) 3 (fun _ _ => rfl) (eLg_tell (by omega) hx43) ?_
            have hz := Option.some.inj HF
            subst hz
            exact q_rtn 2 (fun _ _ => rfl)
          · rw [if_neg c46] at HF
            obtain ⟨x44, hx45, HF⟩ := q_bind HF
            refine q_cll (m' := 82) (av := [.inr (.inr (15, k, 0)), .inl (1 : Int32), .inl a1]) (st' := []) (pc' := 140) (loc' := [some (.inr (.inr (0, k, 0))), some (.inl a1), some (.inr (.inr (3, k, x1))), some (.inl p33.1), some (.inl p33.2.1), none, none]) (h' := (q_si x40 3 1 k x1 p33.1)) 4 (fun _ _ => rfl) (eLg_tell (by omega) hx45) ?_
            have hz := Option.some.inj HF
            subst hz
            exact q_rtn 2 (fun _ _ => rfl)
        replace HF := HA35
        refine q_br (P := ¬ p33.1 = (-1 : Int32)) (pcT := 113) (pcF := 109) (loc' := [some (.inr (.inr (0, k, 0))), some (.inl a1), some (.inr (.inr (3, k, x1))), some (.inl p33.1), some (.inl p33.2.1), none, none]) (stk' := [.inr (.inr (3, k, x1))]) (h' := p33.2.2) 4 (fun _ _ => rfl) (fun c38 => ?_) (fun c38 => ?_)
        · rw [if_pos c38] at HF
          refine q_blk (pc' := 114) (loc' := [some (.inr (.inr (0, k, 0))), some (.inl a1), some (.inr (.inr (3, k, x1))), some (.inl p33.1), some (.inl p33.2.1), none, none]) (stk' := [.inl (2 : Int32), .inr (.inr (3, k, x1))]) (h' := p33.2.2) 1 (fun _ _ => rfl) ?_
          have hz := Option.some.inj HF
          subst hz
          exact hP37 (2 : Int32) HK36
        · rw [if_neg c38] at HF
          refine q_blk (pc' := 114) (loc' := [some (.inr (.inr (0, k, 0))), some (.inl a1), some (.inr (.inr (3, k, x1))), some (.inl p33.1), some (.inl p33.2.1), none, none]) (stk' := [.inl (3 : Int32), .inr (.inr (3, k, x1))]) (h' := p33.2.2) 2 (fun _ _ => rfl) ?_
          have hz := Option.some.inj HF
          subst hz
          exact hP37 (3 : Int32) HK36
      · rw [if_neg c48] at HF
        have hz := Option.some.inj HF
        subst hz
        exact q_rtn 2 (fun _ _ => rfl)
    refine q_lpE (E := fun s12 => q_E d q_K165 38 [some (.inr (.inr (0, k, 0))), some (.inl a1), some (.inr (.inr (3, k, x1))), some (.inl s12.1), some (.inl s12.2.1), some (.inl s12.2.2.1), none] [] s12.2.2.2 (some (.inl r.1), r.2)) r17 (fun s12 z19 HF H113 H214 => ?_) _ _ hl18
    refine q_br (P := (10 : Int32) ≤ s12.2.2.1) (pcT := 96) (pcF := 45) (loc' := [some (.inr (.inr (0, k, 0))), some (.inl a1), some (.inr (.inr (3, k, x1))), some (.inl s12.1), some (.inl s12.2.1), some (.inl s12.2.2.1), none]) (stk' := []) (h' := s12.2.2.2) 3 (fun _ _ => rfl) (fun c32 => ?_) (fun c32 => ?_)
    · rw [if_pos c32] at HF
      have hz := Option.some.inj HF
      subst hz
      rw [← H214 _ rfl] at HK15
      exact q_wk (loc := [some (.inr (.inr (0, k, 0))), some (.inl a1), some (.inr (.inr (3, k, x1))), some (.inl s12.1), some (.inl s12.2.1), none, none]) ⟨Or.inl rfl, ⟨Or.inl rfl, ⟨Or.inl rfl, ⟨Or.inl rfl, ⟨Or.inl rfl, ⟨Or.inr ⟨rfl, fun _ h => by cases h⟩, ⟨Or.inl rfl, trivial⟩⟩⟩⟩⟩⟩⟩ (hP16 (s12.1, s12.2.1, s12.2.2.2) HK15)
    · rw [if_neg c32] at HF
      refine q_br (P := s12.1 = (-1 : Int32)) (pcT := 96) (pcF := 50) (loc' := [some (.inr (.inr (0, k, 0))), some (.inl a1), some (.inr (.inr (3, k, x1))), some (.inl s12.1), some (.inl s12.2.1), some (.inl s12.2.2.1), none]) (stk' := []) (h' := s12.2.2.2) 3 (fun _ _ => rfl) (fun c31 => ?_) (fun c31 => ?_)
      · rw [if_pos c31] at HF
        have hz := Option.some.inj HF
        subst hz
        rw [← H214 _ rfl] at HK15
        exact q_wk (loc := [some (.inr (.inr (0, k, 0))), some (.inl a1), some (.inr (.inr (3, k, x1))), some (.inl s12.1), some (.inl s12.2.1), none, none]) ⟨Or.inl rfl, ⟨Or.inl rfl, ⟨Or.inl rfl, ⟨Or.inl rfl, ⟨Or.inl rfl, ⟨Or.inr ⟨rfl, fun _ h => by cases h⟩, ⟨Or.inl rfl, trivial⟩⟩⟩⟩⟩⟩⟩ (hP16 (s12.1, s12.2.1, s12.2.2.2) HK15)
      · rw [if_neg c31] at HF
        obtain ⟨x20, hx21, HF⟩ := q_bind HF
        refine q_cll (m' := 89) (av := [.inr (.inr (1, k, 0)), .inl s12.1]) (st' := [.inr (.inr (0, k, 0))]) (pc' := 59) (loc' := [some (.inr (.inr (0, k, 0))), some (.inl a1), some (.inr (.inr (3, k, x1))), some (.inl s12.1), some (.inl s12.2.1), some (.inl s12.2.2.1), none]) (h' := s12.2.2.2) 5 (fun _ _ => rfl) (ePg_at (by omega) hx21) ?_
        obtain ⟨x22, hx23, HF⟩ := q_bind HF
        refine q_cll (m' := 145) (av := [.inr (.inr (0, k, 0)), .inr (.inr (3, k, x20))]) (st' := []) (pc' := 62) (loc' := [some (.inr (.inr (0, k, 0))), some (.inl a1), some (.inr (.inr (3, k, x1))), some (.inl s12.1), some (.inl s12.2.1), some (.inl s12.2.2.1), none]) (h' := s12.2.2.2) 1 (fun _ _ => rfl) (eSt_isDead (by omega) hx23) ?_
        refine q_br (P := x22 = 0) (pcT := 96) (pcF := 65) (loc' := [some (.inr (.inr (0, k, 0))), some (.inl a1), some (.inr (.inr (3, k, x1))), some (.inl s12.1), some (.inl s12.2.1), some (.inl s12.2.2.1), none]) (stk' := []) (h' := s12.2.2.2) 1 (fun _ _ => rfl) (fun c30 => ?_) (fun c30 => ?_)
        · rw [if_pos c30] at HF
          have hz := Option.some.inj HF
          subst hz
          rw [← H214 _ rfl] at HK15
          exact q_wk (loc := [some (.inr (.inr (0, k, 0))), some (.inl a1), some (.inr (.inr (3, k, x1))), some (.inl s12.1), some (.inl s12.2.1), none, none]) ⟨Or.inl rfl, ⟨Or.inl rfl, ⟨Or.inl rfl, ⟨Or.inl rfl, ⟨Or.inl rfl, ⟨Or.inr ⟨rfl, fun _ h => by cases h⟩, ⟨Or.inl rfl, trivial⟩⟩⟩⟩⟩⟩⟩ (hP16 (s12.1, s12.2.1, s12.2.2.2) HK15)
        · rw [if_neg c30] at HF
          obtain ⟨x24, hx25, HF⟩ := q_bind HF
          refine q_cll (m' := 158) (av := [.inr (.inr (0, k, 0)), .inl s12.1]) (st' := []) (pc' := 70) (loc' := [some (.inr (.inr (0, k, 0))), some (.inl a1), some (.inr (.inr (3, k, x1))), some (.inl s12.1), some (.inl s12.2.1), some (.inl s12.2.2.1), none]) (h' := s12.2.2.2) 3 (fun _ _ => rfl) (eSt_chainNext (by omega) hx25) ?_
          obtain ⟨x26, hx27, HF⟩ := q_bind HF
          refine q_cll (m' := 89) (av := [.inr (.inr (1, k, 0)), .inl s12.1]) (st' := []) (pc' := 80) (loc' := [some (.inr (.inr (0, k, 0))), some (.inl a1), some (.inr (.inr (3, k, x1))), some (.inl s12.1), some (.inl s12.2.1), some (.inl s12.2.2.1), some (.inl x24)]) (h' := s12.2.2.2) 5 (fun _ _ => rfl) (ePg_at (by omega) hx27) ?_
          obtain ⟨x28, hx29, HF⟩ := q_bind HF
          refine q_cll (m' := 63) (av := [.inr (.inr (3, k, x26)), .inl (0 : Int32)]) (st' := []) (pc' := 84) (loc' := [some (.inr (.inr (0, k, 0))), some (.inl a1), some (.inr (.inr (3, k, x1))), some (.inl s12.1), some (.inl s12.2.1), some (.inl s12.2.2.1), some (.inl x24)]) (h' := s12.2.2.2) 2 (fun _ _ => rfl) (eSl_empty (by omega) hx29) ?_
          refine q_blk (pc' := 38) (loc' := [some (.inr (.inr (0, k, 0))), some (.inl a1), some (.inr (.inr (3, k, x1))), some (.inl x24), some (.inl (s12.2.1 + (1 : Int32))), some (.inl (s12.2.2.1 + (1 : Int32))), some (.inl x24)]) (stk' := []) (h' := x28) 5 (fun _ _ => rfl) ?_
          have hz := Option.some.inj HF
          subst hz
          exact q_wk (loc := [some (.inr (.inr (0, k, 0))), some (.inl a1), some (.inr (.inr (3, k, x1))), some (.inl x24), some (.inl (s12.2.1 + (1 : Int32))), some (.inl (s12.2.2.1 + (1 : Int32))), none]) ⟨Or.inl rfl, ⟨Or.inl rfl, ⟨Or.inl rfl, ⟨Or.inl rfl, ⟨Or.inl rfl, ⟨Or.inl rfl, ⟨Or.inr ⟨rfl, fun _ h => by cases h⟩, trivial⟩⟩⟩⟩⟩⟩⟩ (H113 (x24, (s12.2.1 + (1 : Int32)), (s12.2.2.1 + (1 : Int32)), x28) rfl)
  replace HF := HA4
  refine q_br (P := ¬ (h.1 3 0 k x1) = (1 : Int32)) (pcT := 26) (pcF := 17) (loc' := [some (.inr (.inr (0, k, 0))), some (.inl a1), some (.inr (.inr (3, k, x1))), none, none, none, none]) (stk' := []) (h' := h) 5 (fun _ _ => rfl) (fun c8 => ?_) (fun c8 => ?_)
  · rw [if_pos c8] at HF
    have hz := Option.some.inj HF
    subst hz
    exact hP6 () HK5
  · rw [if_neg c8] at HF
    refine q_br (P := (h.1 3 10 k x1) = 0) (pcT := 26) (pcF := 24) (loc' := [some (.inr (.inr (0, k, 0))), some (.inl a1), some (.inr (.inr (3, k, x1))), none, none, none, none]) (stk' := []) (h' := h) 3 (fun _ _ => rfl) (fun c7 => ?_) (fun c7 => ?_)
    · rw [if_pos c7] at HF
      have hz := Option.some.inj HF
      subst hz
      exact hP6 () HK5
    · rw [if_neg c7] at HF
      have hz := Option.some.inj HF
      subst hz
      replace HF := HK5
      have hz := Option.some.inj HF
      subst hz
      exact q_rtn 2 (fun _ _ => rfl)
def St_tellPass (k : Nat) (a1 : Int32) (h : q_H) : Option q_H :=
  (Lg_count k (3 : Int32) (1 : Int32) h).bind fun x1 => (Lg_count k (4 : Int32) a1 x1).bind fun x3 => (Lg_tell k (4 : Int32) a1 x3).bind fun x5 => some (x5)
set_option maxRecDepth 100000 in
set_option maxHeartbeats 4000000 in
theorem eSt_tellPass {d : Nat} (hd : 3 ≤ d) {k : Nat} {a1 : Int32} {h : q_H} {r : q_H} (HF : St_tellPass k a1 h = some r) : q_T d 168 [.inr (.inr (0, k, 0)), .inl a1] h (none, r) := by
  obtain ⟨d, rfl⟩ : ∃ d', d = d' + 1 := ⟨d - 1, by omega⟩
  refine q_ent q_K168 rfl rfl rfl ?_
  unfold St_tellPass at HF
  obtain ⟨x1, hx2, HF⟩ := q_bind HF
  refine q_cll (m' := 85) (av := [.inr (.inr (15, k, 0)), .inl (3 : Int32), .inl (1 : Int32)]) (st' := []) (pc' := 9) (loc' := [some (.inr (.inr (0, k, 0))), some (.inl a1)]) (h' := h) 5 (fun _ _ => rfl) (eLg_count (by omega) hx2) ?_
  obtain ⟨x3, hx4, HF⟩ := q_bind HF
  refine q_cll (m' := 85) (av := [.inr (.inr (15, k, 0)), .inl (4 : Int32), .inl a1]) (st' := []) (pc' := 18) (loc' := [some (.inr (.inr (0, k, 0))), some (.inl a1)]) (h' := x1) 5 (fun _ _ => rfl) (eLg_count (by omega) hx4) ?_
  obtain ⟨x5, hx6, HF⟩ := q_bind HF
  refine q_cll (m' := 82) (av := [.inr (.inr (15, k, 0)), .inl (4 : Int32), .inl a1]) (st' := []) (pc' := 27) (loc' := [some (.inr (.inr (0, k, 0))), some (.inl a1)]) (h' := x3) 5 (fun _ _ => rfl) (eLg_tell (by omega) hx6) ?_
  have hz := Option.some.inj HF
  subst hz
  exact q_rtn 1 (fun _ _ => rfl)
def St_freezeOld (k : Nat) (h : q_H) : Option q_H :=
  (q_lp (fun s1 : Int32 × q_H => (if (60 : Int32) ≤ s1.1 then (some (.inr (s1.2))) else ((Pg_at k s1.1 s1.2).bind fun x9 => Option.bind (α := q_H) (if ¬ (s1.2.1 3 0 k x9) = (1 : Int32) then (some (s1.2)) else (if ¬ (s1.2.1 3 11 k x9) = 0 then (some (s1.2)) else ((Tn_stateOf k (s1.2.1 3 6 k x9) s1.2).bind fun x15 => if x15 = (1 : Int32) then (if ((s1.2.1 6 5 k 0) - (s1.2.1 3 6 k x9)) ≤ (s1.2.1 0 6 k 0) then (some (s1.2)) else ((Lg_count k (5 : Int32) (1 : Int32) (q_si s1.2 3 11 k x9 (1 : Int32))).bind fun x17 => (Lg_tell k (5 : Int32) (x17.1 3 2 k x9) x17).bind fun x19 => some (x19))) else (some (s1.2))))) (fun p25 => some (.inl ((s1.1 + (1 : Int32)), p25)))) : Option ((Int32 × q_H) ⊕ q_H))) q_fu (((0 : Int32), h) : Int32 × q_H)).bind fun z8 => some z8
set_option maxRecDepth 100000 in
set_option maxHeartbeats 4000000 in
theorem eSt_freezeOld {d : Nat} (hd : 3 ≤ d) {k : Nat} {h : q_H} {r : q_H} (HF : St_freezeOld k h = some r) : q_T d 169 [.inr (.inr (0, k, 0))] h (none, r) := by
  obtain ⟨d, rfl⟩ : ∃ d', d = d' + 1 := ⟨d - 1, by omega⟩
  refine q_ent q_K169 rfl rfl rfl ?_
  unfold St_freezeOld at HF
  refine q_blk (pc' := 2) (loc' := [some (.inr (.inr (0, k, 0))), some (.inl (0 : Int32)), none]) (stk' := []) (h' := h) 2 (fun _ _ => rfl) ?_
  obtain ⟨r6, hl7, HK4⟩ := q_bind HF
  refine q_lpE (E := fun s1 => q_E d q_K169 2 [some (.inr (.inr (0, k, 0))), some (.inl s1.1), none] [] s1.2 (none, r)) r6 (fun s1 z8 HF H12 H23 => ?_) _ _ hl7
  refine q_br (P := (60 : Int32) ≤ s1.1) (pcT := 101) (pcF := 8) (loc' := [some (.inr (.inr (0, k, 0))), some (.inl s1.1), none]) (stk' := []) (h' := s1.2) 3 (fun _ _ => rfl) (fun c27 => ?_) (fun c27 => ?_)
  · rw [if_pos c27] at HF
    have hz := Option.some.inj HF
    subst hz
    replace HF := HK4
    rw [← H23 _ rfl] at HF
    have hz := Option.some.inj HF
    subst hz
    exact q_rtn 1 (fun _ _ => rfl)
  · rw [if_neg c27] at HF
    obtain ⟨x9, hx10, HF⟩ := q_bind HF
    refine q_cll (m' := 89) (av := [.inr (.inr (1, k, 0)), .inl s1.1]) (st' := []) (pc' := 16) (loc' := [some (.inr (.inr (0, k, 0))), some (.inl s1.1), none]) (h' := s1.2) 4 (fun _ _ => rfl) (ePg_at (by omega) hx10) ?_
    obtain ⟨z11, HA12, HK13⟩ := q_bind HF
    have hP14 : ∀ p25 : q_H, (some (.inl ((s1.1 + (1 : Int32)), p25)) : Option ((Int32 × q_H) ⊕ q_H)) = some z8 → q_E d q_K169 95 [some (.inr (.inr (0, k, 0))), some (.inl s1.1), some (.inr (.inr (3, k, x9)))] [] p25 (none, r) := by
      intro p25 HF
      refine q_blk (pc' := 2) (loc' := [some (.inr (.inr (0, k, 0))), some (.inl (s1.1 + (1 : Int32))), some (.inr (.inr (3, k, x9)))]) (stk' := []) (h' := p25) 2 (fun _ _ => rfl) ?_
      have hz := Option.some.inj HF
      subst hz
      exact q_wk (loc := [some (.inr (.inr (0, k, 0))), some (.inl (s1.1 + (1 : Int32))), none]) ⟨Or.inl rfl, ⟨Or.inl rfl, ⟨Or.inr ⟨rfl, fun _ h => by cases h⟩, trivial⟩⟩⟩ (H12 ((s1.1 + (1 : Int32)), p25) rfl)
    replace HF := HA12
    refine q_br (P := ¬ (s1.2.1 3 0 k x9) = (1 : Int32)) (pcT := 95) (pcF := 25) (loc' := [some (.inr (.inr (0, k, 0))), some (.inl s1.1), some (.inr (.inr (3, k, x9)))]) (stk' := []) (h' := s1.2) 5 (fun _ _ => rfl) (fun c24 => ?_) (fun c24 => ?_)
    · rw [if_pos c24] at HF
      have hz := Option.some.inj HF
      subst hz
      exact hP14 (s1.2) HK13
    · rw [if_neg c24] at HF
      refine q_br (P := ¬ (s1.2.1 3 11 k x9) = 0) (pcT := 95) (pcF := 32) (loc' := [some (.inr (.inr (0, k, 0))), some (.inl s1.1), some (.inr (.inr (3, k, x9)))]) (stk' := []) (h' := s1.2) 3 (fun _ _ => rfl) (fun c23 => ?_) (fun c23 => ?_)
      · rw [if_pos c23] at HF
        have hz := Option.some.inj HF
        subst hz
        exact hP14 (s1.2) HK13
      · rw [if_neg c23] at HF
        obtain ⟨x15, hx16, HF⟩ := q_bind HF
        refine q_cll (m' := 106) (av := [.inr (.inr (6, k, 0)), .inl (s1.2.1 3 6 k x9)]) (st' := []) (pc' := 43) (loc' := [some (.inr (.inr (0, k, 0))), some (.inl s1.1), some (.inr (.inr (3, k, x9)))]) (h' := s1.2) 5 (fun _ _ => rfl) (eTn_stateOf (by omega) hx16) ?_
        refine q_br (P := x15 = (1 : Int32)) (pcT := 50) (pcF := 47) (loc' := [some (.inr (.inr (0, k, 0))), some (.inl s1.1), some (.inr (.inr (3, k, x9)))]) (stk' := []) (h' := s1.2) 2 (fun _ _ => rfl) (fun c22 => ?_) (fun c22 => ?_)
        · rw [if_pos c22] at HF
          refine q_br (P := ((s1.2.1 6 5 k 0) - (s1.2.1 3 6 k x9)) ≤ (s1.2.1 0 6 k 0)) (pcT := 95) (pcF := 69) (loc' := [some (.inr (.inr (0, k, 0))), some (.inl s1.1), some (.inr (.inr (3, k, x9)))]) (stk' := []) (h' := s1.2) 9 (fun _ _ => rfl) (fun c21 => ?_) (fun c21 => ?_)
          · rw [if_pos c21] at HF
            have hz := Option.some.inj HF
            subst hz
            exact hP14 (s1.2) HK13
          · rw [if_neg c21] at HF
            obtain ⟨x17, hx18, HF⟩ := q_bind HF
            refine q_cll (m' := 85) (av := [.inr (.inr (15, k, 0)), .inl (5 : Int32), .inl (1 : Int32)]) (st' := []) (pc' := 83) (loc' := [some (.inr (.inr (0, k, 0))), some (.inl s1.1), some (.inr (.inr (3, k, x9)))]) (h' := (q_si s1.2 3 11 k x9 (1 : Int32))) 8 (fun _ _ => rfl) (eLg_count (by omega) hx18) ?_
            obtain ⟨x19, hx20, HF⟩ := q_bind HF
            refine q_cll (m' := 82) (av := [.inr (.inr (15, k, 0)), .inl (5 : Int32), .inl (x17.1 3 2 k x9)]) (st' := []) (pc' := 95) (loc' := [some (.inr (.inr (0, k, 0))), some (.inl s1.1), some (.inr (.inr (3, k, x9)))]) (h' := x17) 6 (fun _ _ => rfl) (eLg_tell (by omega) hx20) ?_
            have hz := Option.some.inj HF
            subst hz
            exact hP14 (x19) HK13
        · rw [if_neg c22] at HF
          refine q_blk (pc' := 95) (loc' := [some (.inr (.inr (0, k, 0))), some (.inl s1.1), some (.inr (.inr (3, k, x9)))]) (stk' := []) (h' := s1.2) 1 (fun _ _ => rfl) ?_
          have hz := Option.some.inj HF
          subst hz
          exact hP14 (s1.2) HK13
def St_isForAll (k : Nat) (k1 : Nat) (i1 : Nat) (h : q_H) : Option Int32 :=
  (Tn_stateOf k (h.1 3 6 k1 i1) h).bind fun x1 => Option.bind (α := Int32) (if ¬ x1 = (1 : Int32) then (some ((0 : Int32))) else (if (h.1 6 5 k 0) ≤ (h.1 3 6 k1 i1) then (some ((0 : Int32))) else (some ((1 : Int32))))) (fun p9 => Option.bind (α := (Unit) ⊕ Int32) (if ¬ (h.1 3 11 k1 i1) = 0 then (some (.inl ())) else (if p9 = 0 then (some (.inr ((0 : Int32)))) else (some (.inl ())))) (fun z10 => match z10 with | .inl p16 => (St_isUnended k k1 i1 h).bind fun x17 => if x17 = 0 then (some ((0 : Int32))) else (some ((1 : Int32))) | .inr z10 => some z10))
set_option maxRecDepth 100000 in
set_option maxHeartbeats 4000000 in
theorem eSt_isForAll {d : Nat} (hd : 3 ≤ d) {k : Nat} {k1 : Nat} {i1 : Nat} {h : q_H} {r : Int32} (HF : St_isForAll k k1 i1 h = some r) : q_T d 171 [.inr (.inr (0, k, 0)), .inr (.inr (3, k1, i1))] h (some (.inl r), h) := by
  obtain ⟨d, rfl⟩ : ∃ d', d = d' + 1 := ⟨d - 1, by omega⟩
  refine q_ent q_K171 rfl rfl rfl ?_
  unfold St_isForAll at HF
  obtain ⟨x1, hx2, HF⟩ := q_bind HF
  refine q_cll (m' := 106) (av := [.inr (.inr (6, k, 0)), .inl (h.1 3 6 k1 i1)]) (st' := []) (pc' := 11) (loc' := [some (.inr (.inr (0, k, 0))), some (.inr (.inr (3, k1, i1))), none]) (h' := h) 5 (fun _ _ => rfl) (eTn_stateOf (by omega) hx2) ?_
  obtain ⟨z3, HA4, HK5⟩ := q_bind HF
  have hP6 : ∀ p9 : Int32, (Option.bind (α := (Unit) ⊕ Int32) (if ¬ (h.1 3 11 k1 i1) = 0 then (some (.inl ())) else (if p9 = 0 then (some (.inr ((0 : Int32)))) else (some (.inl ())))) (fun z10 => match z10 with | .inl p16 => (St_isUnended k k1 i1 h).bind fun x17 => if x17 = 0 then (some ((0 : Int32))) else (some ((1 : Int32))) | .inr z10 => some z10) : Option Int32) = some r → q_E d q_K171 34 [some (.inr (.inr (0, k, 0))), some (.inr (.inr (3, k1, i1))), none] [.inl p9] h (some (.inl r), h) := by
    intro p9 HF
    obtain ⟨z10, HA11, HK12⟩ := q_bind HF
    have hP13 : ∀ p16 : Unit, ((St_isUnended k k1 i1 h).bind fun x17 => if x17 = 0 then (some ((0 : Int32))) else (some ((1 : Int32))) : Option Int32) = some r → q_E d q_K171 46 [some (.inr (.inr (0, k, 0))), some (.inr (.inr (3, k1, i1))), some (.inl p9)] [] h (some (.inl r), h) := by
      intro p16 HF
      obtain ⟨x17, hx18, HF⟩ := q_bind HF
      refine q_cll (m' := 172) (av := [.inr (.inr (0, k, 0)), .inr (.inr (3, k1, i1))]) (st' := []) (pc' := 51) (loc' := [some (.inr (.inr (0, k, 0))), some (.inr (.inr (3, k1, i1))), some (.inl p9)]) (h' := h) 3 (fun _ _ => rfl) (eSt_isUnended (by omega) hx18) ?_
      refine q_br (P := x17 = 0) (pcT := 58) (pcF := 54) (loc' := [some (.inr (.inr (0, k, 0))), some (.inr (.inr (3, k1, i1))), some (.inl p9)]) (stk' := []) (h' := h) 1 (fun _ _ => rfl) (fun c19 => ?_) (fun c19 => ?_)
      · rw [if_pos c19] at HF
        have hz := Option.some.inj HF
        subst hz
        exact q_rtn 2 (fun _ _ => rfl)
      · rw [if_neg c19] at HF
        have hz := Option.some.inj HF
        subst hz
        exact q_rtn 3 (fun _ _ => rfl)
    replace HF := HA11
    refine q_br (P := ¬ (h.1 3 11 k1 i1) = 0) (pcT := 46) (pcF := 42) (loc' := [some (.inr (.inr (0, k, 0))), some (.inr (.inr (3, k1, i1))), some (.inl p9)]) (stk' := []) (h' := h) 4 (fun _ _ => rfl) (fun c15 => ?_) (fun c15 => ?_)
    · rw [if_pos c15] at HF
      have hz := Option.some.inj HF
      subst hz
      exact hP13 () HK12
    · rw [if_neg c15] at HF
      refine q_br (P := p9 = 0) (pcT := 58) (pcF := 46) (loc' := [some (.inr (.inr (0, k, 0))), some (.inr (.inr (3, k1, i1))), some (.inl p9)]) (stk' := []) (h' := h) 2 (fun _ _ => rfl) (fun c14 => ?_) (fun c14 => ?_)
      · rw [if_pos c14] at HF
        have hz := Option.some.inj HF
        subst hz
        replace HF := HK12
        have hz := Option.some.inj HF
        subst hz
        exact q_rtn 2 (fun _ _ => rfl)
      · rw [if_neg c14] at HF
        have hz := Option.some.inj HF
        subst hz
        exact hP13 () HK12
  replace HF := HA4
  refine q_br (P := ¬ x1 = (1 : Int32)) (pcT := 33) (pcF := 15) (loc' := [some (.inr (.inr (0, k, 0))), some (.inr (.inr (3, k1, i1))), none]) (stk' := []) (h' := h) 2 (fun _ _ => rfl) (fun c8 => ?_) (fun c8 => ?_)
  · rw [if_pos c8] at HF
    refine q_blk (pc' := 34) (loc' := [some (.inr (.inr (0, k, 0))), some (.inr (.inr (3, k1, i1))), none]) (stk' := [.inl (0 : Int32)]) (h' := h) 1 (fun _ _ => rfl) ?_
    have hz := Option.some.inj HF
    subst hz
    exact hP6 (0 : Int32) HK5
  · rw [if_neg c8] at HF
    refine q_br (P := (h.1 6 5 k 0) ≤ (h.1 3 6 k1 i1)) (pcT := 33) (pcF := 29) (loc' := [some (.inr (.inr (0, k, 0))), some (.inr (.inr (3, k1, i1))), none]) (stk' := []) (h' := h) 6 (fun _ _ => rfl) (fun c7 => ?_) (fun c7 => ?_)
    · rw [if_pos c7] at HF
      refine q_blk (pc' := 34) (loc' := [some (.inr (.inr (0, k, 0))), some (.inr (.inr (3, k1, i1))), none]) (stk' := [.inl (0 : Int32)]) (h' := h) 1 (fun _ _ => rfl) ?_
      have hz := Option.some.inj HF
      subst hz
      exact hP6 (0 : Int32) HK5
    · rw [if_neg c7] at HF
      refine q_blk (pc' := 34) (loc' := [some (.inr (.inr (0, k, 0))), some (.inr (.inr (3, k1, i1))), none]) (stk' := [.inl (1 : Int32)]) (h' := h) 2 (fun _ _ => rfl) ?_
      have hz := Option.some.inj HF
      subst hz
      exact hP6 (1 : Int32) HK5
def St_goThrough (k : Nat) (a1 : Int32) (a2 : Int32) (a3 : Int32) (h : q_H) : Option q_H :=
  (Ix_placeAt k a3 h).bind fun x1 => (St_chainFirst k x1 h).bind fun x3 => (q_lp (fun s5 : Int32 × Int32 × Int32 × Int32 × q_H => (if (10 : Int32) ≤ s5.2.2.2.1 then (some (.inr ((s5.2.1, s5.2.2.2.2)))) else (if s5.1 = (-1 : Int32) then (some (.inr ((s5.2.1, s5.2.2.2.2)))) else ((Pg_at k s5.1 s5.2.2.2.2).bind fun x13 => Option.bind (α := Int32) (if ¬ s5.2.1 = 0 then (some ((1 : Int32))) else ((St_isDead k k x13 s5.2.2.2.2).bind fun x19 => if ¬ x19 = 0 then (some ((0 : Int32))) else (some ((1 : Int32))))) (fun p23 => Option.bind (α := Int32 × q_H) (if ¬ s5.2.2.1 = 0 then (some ((s5.2.2.1, s5.2.2.2.2))) else ((St_isSeen k a1 k x13 s5.2.2.2.2).bind fun x28 => if x28 = 0 then (some ((s5.2.2.1, s5.2.2.2.2))) else (if ¬ (s5.2.2.2.2.1 3 3 k x13) = a2 then (some (((1 : Int32), s5.2.2.2.2))) else ((Fo_add k (s5.2.2.2.2.1 3 2 k x13) (s5.2.2.2.2.1 3 4 k x13) s5.1 s5.2.2.2.1 s5.2.2.2.2).bind fun x30 => some (((1 : Int32), x30)))))) (fun p35 => (St_chainNext k s5.1 p35.2).bind fun x36 => some (.inl (x36, p23, p35.1, (s5.2.2.2.1 + (1 : Int32)), p35.2)))))) : Option ((Int32 × Int32 × Int32 × Int32 × q_H) ⊕ (Int32 × q_H)))) q_fu ((x3, (0 : Int32), (0 : Int32), (0 : Int32), h) : Int32 × Int32 × Int32 × Int32 × q_H)).bind fun p42 => if ¬ p42.1 = 0 then (some (p42.2)) else ((Ix_kill k a3 p42.2).bind fun x43 => (Lg_count k (6 : Int32) (1 : Int32) x43).bind fun x45 => (Lg_tell k (3 : Int32) a2 x45).bind fun x47 => some (x47))
set_option maxRecDepth 100000 in
set_option maxHeartbeats 4000000 in
theorem eSt_goThrough {d : Nat} (hd : 3 ≤ d) {k : Nat} {a1 : Int32} {a2 : Int32} {a3 : Int32} {h : q_H} {r : q_H} (HF : St_goThrough k a1 a2 a3 h = some r) : q_T d 174 [.inr (.inr (0, k, 0)), .inl a1, .inl a2, .inl a3] h (none, r) := by
  obtain ⟨d, rfl⟩ : ∃ d', d = d' + 1 := ⟨d - 1, by omega⟩
  refine q_ent q_K174 rfl rfl rfl ?_
  unfold St_goThrough at HF
  obtain ⟨x1, hx2, HF⟩ := q_bind HF
  refine q_cll (m' := 72) (av := [.inr (.inr (11, k, 0)), .inl a3]) (st' := [.inr (.inr (0, k, 0))]) (pc' := 9) (loc' := [some (.inr (.inr (0, k, 0))), some (.inl a1), some (.inl a2), some (.inl a3), none, none, none, none, none]) (h' := h) 5 (fun _ _ => rfl) (eIx_placeAt (by omega) hx2) ?_
  obtain ⟨x3, hx4, HF⟩ := q_bind HF
  refine q_cll (m' := 157) (av := [.inr (.inr (0, k, 0)), .inl x1]) (st' := []) (pc' := 12) (loc' := [some (.inr (.inr (0, k, 0))), some (.inl a1), some (.inl a2), some (.inl a3), none, none, none, none, none]) (h' := h) 1 (fun _ _ => rfl) (eSt_chainFirst (by omega) hx4) ?_
  refine q_blk (pc' := 23) (loc' := [some (.inr (.inr (0, k, 0))), some (.inl a1), some (.inl a2), some (.inl a3), some (.inl x3), some (.inl (0 : Int32)), some (.inl (0 : Int32)), some (.inl (0 : Int32)), none]) (stk' := []) (h' := h) 7 (fun _ _ => rfl) ?_
  obtain ⟨r10, hl11, HK8⟩ := q_bind HF
  have hP9 : ∀ p42 : Int32 × q_H, (if ¬ p42.1 = 0 then (some (p42.2)) else ((Ix_kill k a3 p42.2).bind fun x43 => (Lg_count k (6 : Int32) (1 : Int32) x43).bind fun x45 => (Lg_tell k (3 : Int32) a2 x45).bind fun x47 => some (x47)) : Option q_H) = some r → q_E d q_K174 130 [some (.inr (.inr (0, k, 0))), some (.inl a1), some (.inl a2), some (.inl a3), none, some (.inl p42.1), none, none, none] [] p42.2 (none, r) := by
    intro p42 HF
    refine q_br (P := ¬ p42.1 = 0) (pcT := 162) (pcF := 135) (loc' := [some (.inr (.inr (0, k, 0))), some (.inl a1), some (.inl a2), some (.inl a3), none, some (.inl p42.1), none, none, none]) (stk' := []) (h' := p42.2) 2 (fun _ _ => rfl) (fun c49 => ?_) (fun c49 => ?_)
    · rw [if_pos c49] at HF
      have hz := Option.some.inj HF
      subst hz
      exact q_rtn 1 (fun _ _ => rfl)
    · rw [if_neg c49] at HF
      obtain ⟨x43, hx44, HF⟩ := q_bind HF
      refine q_cll (m' := 74) (av := [.inr (.inr (11, k, 0)), .inl a3]) (st' := []) (pc' := 143) (loc' := [some (.inr (.inr (0, k, 0))), some (.inl a1), some (.inl a2), some (.inl a3), none, some (.inl p42.1), none, none, none]) (h' := p42.2) 4 (fun _ _ => rfl) (eIx_kill (by omega) hx44) ?_
      obtain ⟨x45, hx46, HF⟩ := q_bind HF
      refine q_cll (m' := 85) (av := [.inr (.inr (15, k, 0)), .inl (6 : Int32), .inl (1 : Int32)]) (st' := []) (pc' := 153) (loc' := [some (.inr (.inr (0, k, 0))), some (.inl a1), some (.inl a2), some (.inl a3), none, some (.inl p42.1), none, none, none]) (h' := x43) 5 (fun _ _ => rfl) (eLg_count (by omega) hx46) ?_
      obtain ⟨x47, hx48, HF⟩ := q_bind HF
      refine q_cll (m' := 82) (av := [.inr (.inr (15, k, 0)), .inl (3 : Int32), .inl a2]) (st' := []) (pc' := 162) (loc' := [some (.inr (.inr (0, k, 0))), some (.inl a1), some (.inl a2), some (.inl a3), none, some (.inl p42.1), none, none, none]) (h' := x45) 5 (fun _ _ => rfl) (eLg_tell (by omega) hx48) ?_
      have hz := Option.some.inj HF
      subst hz
      exact q_rtn 1 (fun _ _ => rfl)
  refine q_lpE (E := fun s5 => q_E d q_K174 23 [some (.inr (.inr (0, k, 0))), some (.inl a1), some (.inl a2), some (.inl a3), some (.inl s5.1), some (.inl s5.2.1), some (.inl s5.2.2.1), some (.inl s5.2.2.2.1), none] [] s5.2.2.2.2 (none, r)) r10 (fun s5 z12 HF H16 H27 => ?_) _ _ hl11
  refine q_br (P := (10 : Int32) ≤ s5.2.2.2.1) (pcT := 130) (pcF := 30) (loc' := [some (.inr (.inr (0, k, 0))), some (.inl a1), some (.inl a2), some (.inl a3), some (.inl s5.1), some (.inl s5.2.1), some (.inl s5.2.2.1), some (.inl s5.2.2.2.1), none]) (stk' := []) (h' := s5.2.2.2.2) 3 (fun _ _ => rfl) (fun c41 => ?_) (fun c41 => ?_)
  · rw [if_pos c41] at HF
    have hz := Option.some.inj HF
    subst hz
    rw [← H27 _ rfl] at HK8
    exact q_wk (loc := [some (.inr (.inr (0, k, 0))), some (.inl a1), some (.inl a2), some (.inl a3), none, some (.inl s5.2.1), none, none, none]) ⟨Or.inl rfl, ⟨Or.inl rfl, ⟨Or.inl rfl, ⟨Or.inl rfl, ⟨Or.inr ⟨rfl, fun _ h => by cases h⟩, ⟨Or.inl rfl, ⟨Or.inr ⟨rfl, fun _ h => by cases h⟩, ⟨Or.inr ⟨rfl, fun _ h => by cases h⟩, ⟨Or.inl rfl, trivial⟩⟩⟩⟩⟩⟩⟩⟩⟩ (hP9 (s5.2.1, s5.2.2.2.2) HK8)
  · rw [if_neg c41] at HF
    refine q_br (P := s5.1 = (-1 : Int32)) (pcT := 130) (pcF := 36) (loc' := [some (.inr (.inr (0, k, 0))), some (.inl a1), some (.inl a2), some (.inl a3), some (.inl s5.1), some (.inl s5.2.1), some (.inl s5.2.2.1), some (.inl s5.2.2.2.1), none]) (stk' := []) (h' := s5.2.2.2.2) 3 (fun _ _ => rfl) (fun c40 => ?_) (fun c40 => ?_)
    · rw [if_pos c40] at HF
      have hz := Option.some.inj HF
      subst hz
      rw [← H27 _ rfl] at HK8
      exact q_wk (loc := [some (.inr (.inr (0, k, 0))), some (.inl a1), some (.inl a2), some (.inl a3), none, some (.inl s5.2.1), none, none, none]) ⟨Or.inl rfl, ⟨Or.inl rfl, ⟨Or.inl rfl, ⟨Or.inl rfl, ⟨Or.inr ⟨rfl, fun _ h => by cases h⟩, ⟨Or.inl rfl, ⟨Or.inr ⟨rfl, fun _ h => by cases h⟩, ⟨Or.inr ⟨rfl, fun _ h => by cases h⟩, ⟨Or.inl rfl, trivial⟩⟩⟩⟩⟩⟩⟩⟩⟩ (hP9 (s5.2.1, s5.2.2.2.2) HK8)
    · rw [if_neg c40] at HF
      obtain ⟨x13, hx14, HF⟩ := q_bind HF
      refine q_cll (m' := 89) (av := [.inr (.inr (1, k, 0)), .inl s5.1]) (st' := []) (pc' := 45) (loc' := [some (.inr (.inr (0, k, 0))), some (.inl a1), some (.inl a2), some (.inl a3), some (.inl s5.1), some (.inl s5.2.1), some (.inl s5.2.2.1), some (.inl s5.2.2.2.1), none]) (h' := s5.2.2.2.2) 4 (fun _ _ => rfl) (ePg_at (by omega) hx14) ?_
      obtain ⟨z15, HA16, HK17⟩ := q_bind HF
      have hP18 : ∀ p23 : Int32, (Option.bind (α := Int32 × q_H) (if ¬ s5.2.2.1 = 0 then (some ((s5.2.2.1, s5.2.2.2.2))) else ((St_isSeen k a1 k x13 s5.2.2.2.2).bind fun x28 => if x28 = 0 then (some ((s5.2.2.1, s5.2.2.2.2))) else (if ¬ (s5.2.2.2.2.1 3 3 k x13) = a2 then (some (((1 : Int32), s5.2.2.2.2))) else ((Fo_add k (s5.2.2.2.2.1 3 2 k x13) (s5.2.2.2.2.1 3 4 k x13) s5.1 s5.2.2.2.1 s5.2.2.2.2).bind fun x30 => some (((1 : Int32), x30)))))) (fun p35 => (St_chainNext k s5.1 p35.2).bind fun x36 => some (.inl (x36, p23, p35.1, (s5.2.2.2.1 + (1 : Int32)), p35.2))) : Option ((Int32 × Int32 × Int32 × Int32 × q_H) ⊕ (Int32 × q_H))) = some z12 → q_E d q_K174 66 [some (.inr (.inr (0, k, 0))), some (.inl a1), some (.inl a2), some (.inl a3), some (.inl s5.1), some (.inl s5.2.1), some (.inl s5.2.2.1), some (.inl s5.2.2.2.1), some (.inr (.inr (3, k, x13)))] [.inl p23] s5.2.2.2.2 (none, r) := by
        intro p23 HF
        obtain ⟨z24, HA25, HK26⟩ := q_bind HF
        have hP27 : ∀ p35 : Int32 × q_H, ((St_chainNext k s5.1 p35.2).bind fun x36 => some (.inl (x36, p23, p35.1, (s5.2.2.2.1 + (1 : Int32)), p35.2)) : Option ((Int32 × Int32 × Int32 × Int32 × q_H) ⊕ (Int32 × q_H))) = some z12 → q_E d q_K174 116 [some (.inr (.inr (0, k, 0))), some (.inl a1), some (.inl a2), some (.inl a3), some (.inl s5.1), some (.inl p23), some (.inl p35.1), some (.inl s5.2.2.2.1), some (.inr (.inr (3, k, x13)))] [] p35.2 (none, r) := by
          intro p35 HF
          obtain ⟨x36, hx37, HF⟩ := q_bind HF
          refine q_cll (m' := 158) (av := [.inr (.inr (0, k, 0)), .inl s5.1]) (st' := []) (pc' := 122) (loc' := [some (.inr (.inr (0, k, 0))), some (.inl a1), some (.inl a2), some (.inl a3), some (.inl s5.1), some (.inl p23), some (.inl p35.1), some (.inl s5.2.2.2.1), some (.inr (.inr (3, k, x13)))]) (h' := p35.2) 3 (fun _ _ => rfl) (eSt_chainNext (by omega) hx37) ?_
          refine q_blk (pc' := 23) (loc' := [some (.inr (.inr (0, k, 0))), some (.inl a1), some (.inl a2), some (.inl a3), some (.inl x36), some (.inl p23), some (.inl p35.1), some (.inl (s5.2.2.2.1 + (1 : Int32))), some (.inr (.inr (3, k, x13)))]) (stk' := []) (h' := p35.2) 3 (fun _ _ => rfl) ?_
          have hz := Option.some.inj HF
          subst hz
          exact q_wk (loc := [some (.inr (.inr (0, k, 0))), some (.inl a1), some (.inl a2), some (.inl a3), some (.inl x36), some (.inl p23), some (.inl p35.1), some (.inl (s5.2.2.2.1 + (1 : Int32))), none]) ⟨Or.inl rfl, ⟨Or.inl rfl, ⟨Or.inl rfl, ⟨Or.inl rfl, ⟨Or.inl rfl, ⟨Or.inl rfl, ⟨Or.inl rfl, ⟨Or.inl rfl, ⟨Or.inr ⟨rfl, fun _ h => by cases h⟩, trivial⟩⟩⟩⟩⟩⟩⟩⟩⟩ (H16 (x36, p23, p35.1, (s5.2.2.2.1 + (1 : Int32)), p35.2) rfl)
        replace HF := HA25
        refine q_br (P := ¬ s5.2.2.1 = 0) (pcT := 116) (pcF := 73) (loc' := [some (.inr (.inr (0, k, 0))), some (.inl a1), some (.inl a2), some (.inl a3), some (.inl s5.1), some (.inl p23), some (.inl s5.2.2.1), some (.inl s5.2.2.2.1), some (.inr (.inr (3, k, x13)))]) (stk' := []) (h' := s5.2.2.2.2) 3 (fun _ _ => rfl) (fun c34 => ?_) (fun c34 => ?_)
        · rw [if_pos c34] at HF
          have hz := Option.some.inj HF
          subst hz
          exact hP27 (s5.2.2.1, s5.2.2.2.2) HK26
        · rw [if_neg c34] at HF
          obtain ⟨x28, hx29, HF⟩ := q_bind HF
          refine q_cll (m' := 155) (av := [.inr (.inr (0, k, 0)), .inl a1, .inr (.inr (3, k, x13))]) (st' := []) (pc' := 80) (loc' := [some (.inr (.inr (0, k, 0))), some (.inl a1), some (.inl a2), some (.inl a3), some (.inl s5.1), some (.inl p23), some (.inl s5.2.2.1), some (.inl s5.2.2.2.1), some (.inr (.inr (3, k, x13)))]) (h' := s5.2.2.2.2) 4 (fun _ _ => rfl) (eSt_isSeen (by omega) hx29) ?_
          refine q_br (P := x28 = 0) (pcT := 116) (pcF := 83) (loc' := [some (.inr (.inr (0, k, 0))), some (.inl a1), some (.inl a2), some (.inl a3), some (.inl s5.1), some (.inl p23), some (.inl s5.2.2.1), some (.inl s5.2.2.2.1), some (.inr (.inr (3, k, x13)))]) (stk' := []) (h' := s5.2.2.2.2) 1 (fun _ _ => rfl) (fun c33 => ?_) (fun c33 => ?_)
          · rw [if_pos c33] at HF
            have hz := Option.some.inj HF
            subst hz
            exact hP27 (s5.2.2.1, s5.2.2.2.2) HK26
          · rw [if_neg c33] at HF
            refine q_br (P := ¬ (s5.2.2.2.2.1 3 3 k x13) = a2) (pcT := 116) (pcF := 95) (loc' := [some (.inr (.inr (0, k, 0))), some (.inl a1), some (.inl a2), some (.inl a3), some (.inl s5.1), some (.inl p23), some (.inl (1 : Int32)), some (.inl s5.2.2.2.1), some (.inr (.inr (3, k, x13)))]) (stk' := []) (h' := s5.2.2.2.2) 6 (fun _ _ => rfl) (fun c32 => ?_) (fun c32 => ?_)
            · rw [if_pos c32] at HF
              have hz := Option.some.inj HF
              subst hz
              exact hP27 ((1 : Int32), s5.2.2.2.2) HK26
            · rw [if_neg c32] at HF
              obtain ⟨x30, hx31, HF⟩ := q_bind HF
              refine q_cll (m' := 68) (av := [.inr (.inr (19, k, 0)), .inl (s5.2.2.2.2.1 3 2 k x13), .inl (s5.2.2.2.2.1 3 4 k x13), .inl s5.1, .inl s5.2.2.2.1]) (st' := []) (pc' := 116) (loc' := [some (.inr (.inr (0, k, 0))), some (.inl a1), some (.inl a2), some (.inl a3), some (.inl s5.1), some (.inl p23), some (.inl (1 : Int32)), some (.inl s5.2.2.2.1), some (.inr (.inr (3, k, x13)))]) (h' := s5.2.2.2.2) 9 (fun _ _ => rfl) (eFo_add (by omega) hx31) ?_
              have hz := Option.some.inj HF
              subst hz
              exact hP27 ((1 : Int32), x30) HK26
      replace HF := HA16
      refine q_br (P := ¬ s5.2.1 = 0) (pcT := 61) (pcF := 52) (loc' := [some (.inr (.inr (0, k, 0))), some (.inl a1), some (.inl a2), some (.inl a3), some (.inl s5.1), some (.inl s5.2.1), some (.inl s5.2.2.1), some (.inl s5.2.2.2.1), some (.inr (.inr (3, k, x13)))]) (stk' := []) (h' := s5.2.2.2.2) 3 (fun _ _ => rfl) (fun c22 => ?_) (fun c22 => ?_)
      · rw [if_pos c22] at HF
        refine q_blk (pc' := 66) (loc' := [some (.inr (.inr (0, k, 0))), some (.inl a1), some (.inl a2), some (.inl a3), some (.inl s5.1), some (.inl s5.2.1), some (.inl s5.2.2.1), some (.inl s5.2.2.2.1), some (.inr (.inr (3, k, x13)))]) (stk' := [.inl (1 : Int32)]) (h' := s5.2.2.2.2) 2 (fun _ _ => rfl) ?_
        have hz := Option.some.inj HF
        subst hz
        exact hP18 (1 : Int32) HK17
      · rw [if_neg c22] at HF
        obtain ⟨x19, hx20, HF⟩ := q_bind HF
        refine q_cll (m' := 145) (av := [.inr (.inr (0, k, 0)), .inr (.inr (3, k, x13))]) (st' := []) (pc' := 58) (loc' := [some (.inr (.inr (0, k, 0))), some (.inl a1), some (.inl a2), some (.inl a3), some (.inl s5.1), some (.inl s5.2.1), some (.inl s5.2.2.1), some (.inl s5.2.2.2.1), some (.inr (.inr (3, k, x13)))]) (h' := s5.2.2.2.2) 3 (fun _ _ => rfl) (eSt_isDead (by omega) hx20) ?_
        refine q_br (P := ¬ x19 = 0) (pcT := 65) (pcF := 61) (loc' := [some (.inr (.inr (0, k, 0))), some (.inl a1), some (.inl a2), some (.inl a3), some (.inl s5.1), some (.inl s5.2.1), some (.inl s5.2.2.1), some (.inl s5.2.2.2.1), some (.inr (.inr (3, k, x13)))]) (stk' := []) (h' := s5.2.2.2.2) 1 (fun _ _ => rfl) (fun c21 => ?_) (fun c21 => ?_)
        · rw [if_pos c21] at HF
          refine q_blk (pc' := 66) (loc' := [some (.inr (.inr (0, k, 0))), some (.inl a1), some (.inl a2), some (.inl a3), some (.inl s5.1), some (.inl s5.2.1), some (.inl s5.2.2.1), some (.inl s5.2.2.2.1), some (.inr (.inr (3, k, x13)))]) (stk' := [.inl (0 : Int32)]) (h' := s5.2.2.2.2) 1 (fun _ _ => rfl) ?_
          have hz := Option.some.inj HF
          subst hz
          exact hP18 (0 : Int32) HK17
        · rw [if_neg c21] at HF
          refine q_blk (pc' := 66) (loc' := [some (.inr (.inr (0, k, 0))), some (.inl a1), some (.inl a2), some (.inl a3), some (.inl s5.1), some (.inl s5.2.1), some (.inl s5.2.2.1), some (.inl s5.2.2.2.1), some (.inr (.inr (3, k, x13)))]) (stk' := [.inl (1 : Int32)]) (h' := s5.2.2.2.2) 2 (fun _ _ => rfl) ?_
          have hz := Option.some.inj HF
          subst hz
          exact hP18 (1 : Int32) HK17
def St_readsFor (k : Nat) (a1 : Int32) (h : q_H) : Option Int32 :=
  (q_lp (fun s1 : Int32 × Int32 => (if (h.1 11 3 k 0) ≤ s1.2 then (some (.inr (s1.1))) else ((Ix_keyAt k s1.2 h).bind fun x9 => Option.bind (α := Int32) (if ¬ x9 = a1 then (some ((1 : Int32))) else ((Ix_isKilled k s1.2 h).bind fun x15 => if x15 = 0 then (some ((0 : Int32))) else (some ((1 : Int32))))) (fun p19 => Option.bind (α := Int32) (if ¬ p19 = 0 then (some (s1.1)) else ((Ix_placeAt k s1.2 h).bind fun x24 => (Rp_pageOf x24 h).bind fun x26 => (Pg_isClear k x26 h).bind fun x28 => if ¬ x28 = 0 then (some (s1.1)) else (some ((s1.1 + (1 : Int32)))))) (fun p32 => some (.inl (p32, (s1.2 + (1 : Int32))))))) : Option ((Int32 × Int32) ⊕ Int32))) q_fu (((0 : Int32), (0 : Int32)) : Int32 × Int32)).bind fun z8 => some z8
set_option maxRecDepth 100000 in
set_option maxHeartbeats 4000000 in
theorem eSt_readsFor {d : Nat} (hd : 3 ≤ d) {k : Nat} {a1 : Int32} {h : q_H} {r : Int32} (HF : St_readsFor k a1 h = some r) : q_T d 175 [.inr (.inr (0, k, 0)), .inl a1] h (some (.inl r), h) := by
  obtain ⟨d, rfl⟩ : ∃ d', d = d' + 1 := ⟨d - 1, by omega⟩
  refine q_ent q_K175 rfl rfl rfl ?_
  unfold St_readsFor at HF
  refine q_blk (pc' := 4) (loc' := [some (.inr (.inr (0, k, 0))), some (.inl a1), some (.inl (0 : Int32)), some (.inl (0 : Int32)), none]) (stk' := []) (h' := h) 4 (fun _ _ => rfl) ?_
  obtain ⟨r6, hl7, HK4⟩ := q_bind HF
  refine q_lpE (E := fun s1 => q_E d q_K175 4 [some (.inr (.inr (0, k, 0))), some (.inl a1), some (.inl s1.1), some (.inl s1.2), none] [] h (some (.inl r), h)) r6 (fun s1 z8 HF H12 H23 => ?_) _ _ hl7
  refine q_br (P := (h.1 11 3 k 0) ≤ s1.2) (pcT := 80) (pcF := 15) (loc' := [some (.inr (.inr (0, k, 0))), some (.inl a1), some (.inl s1.1), some (.inl s1.2), none]) (stk' := []) (h' := h) 5 (fun _ _ => rfl) (fun c35 => ?_) (fun c35 => ?_)
  · rw [if_pos c35] at HF
    have hz := Option.some.inj HF
    subst hz
    replace HF := HK4
    rw [← H23 _ rfl] at HF
    have hz := Option.some.inj HF
    subst hz
    exact q_rtn 2 (fun _ _ => rfl)
  · rw [if_neg c35] at HF
    obtain ⟨x9, hx10, HF⟩ := q_bind HF
    refine q_cll (m' := 71) (av := [.inr (.inr (11, k, 0)), .inl s1.2]) (st' := []) (pc' := 23) (loc' := [some (.inr (.inr (0, k, 0))), some (.inl a1), some (.inl s1.1), some (.inl s1.2), none]) (h' := h) 4 (fun _ _ => rfl) (eIx_keyAt (by omega) hx10) ?_
    obtain ⟨z11, HA12, HK13⟩ := q_bind HF
    have hP14 : ∀ p19 : Int32, (Option.bind (α := Int32) (if ¬ p19 = 0 then (some (s1.1)) else ((Ix_placeAt k s1.2 h).bind fun x24 => (Rp_pageOf x24 h).bind fun x26 => (Pg_isClear k x26 h).bind fun x28 => if ¬ x28 = 0 then (some (s1.1)) else (some ((s1.1 + (1 : Int32)))))) (fun p32 => some (.inl (p32, (s1.2 + (1 : Int32))))) : Option ((Int32 × Int32) ⊕ Int32)) = some z8 → q_E d q_K175 43 [some (.inr (.inr (0, k, 0))), some (.inl a1), some (.inl s1.1), some (.inl s1.2), none] [.inl p19] h (some (.inl r), h) := by
      intro p19 HF
      obtain ⟨z20, HA21, HK22⟩ := q_bind HF
      have hP23 : ∀ p32 : Int32, (some (.inl (p32, (s1.2 + (1 : Int32)))) : Option ((Int32 × Int32) ⊕ Int32)) = some z8 → q_E d q_K175 74 [some (.inr (.inr (0, k, 0))), some (.inl a1), some (.inl p32), some (.inl s1.2), some (.inl p19)] [] h (some (.inl r), h) := by
        intro p32 HF
        refine q_blk (pc' := 4) (loc' := [some (.inr (.inr (0, k, 0))), some (.inl a1), some (.inl p32), some (.inl (s1.2 + (1 : Int32))), some (.inl p19)]) (stk' := []) (h' := h) 2 (fun _ _ => rfl) ?_
        have hz := Option.some.inj HF
        subst hz
        exact q_wk (loc := [some (.inr (.inr (0, k, 0))), some (.inl a1), some (.inl p32), some (.inl (s1.2 + (1 : Int32))), none]) ⟨Or.inl rfl, ⟨Or.inl rfl, ⟨Or.inl rfl, ⟨Or.inl rfl, ⟨Or.inr ⟨rfl, fun _ h => by cases h⟩, trivial⟩⟩⟩⟩⟩ (H12 (p32, (s1.2 + (1 : Int32))) rfl)
      replace HF := HA21
      refine q_br (P := ¬ p19 = 0) (pcT := 74) (pcF := 50) (loc' := [some (.inr (.inr (0, k, 0))), some (.inl a1), some (.inl s1.1), some (.inl s1.2), some (.inl p19)]) (stk' := []) (h' := h) 3 (fun _ _ => rfl) (fun c31 => ?_) (fun c31 => ?_)
      · rw [if_pos c31] at HF
        have hz := Option.some.inj HF
        subst hz
        exact hP23 (s1.1) HK22
      · rw [if_neg c31] at HF
        obtain ⟨x24, hx25, HF⟩ := q_bind HF
        refine q_cll (m' := 72) (av := [.inr (.inr (11, k, 0)), .inl s1.2]) (st' := [.inr (.inr (1, k, 0))]) (pc' := 62) (loc' := [some (.inr (.inr (0, k, 0))), some (.inl a1), some (.inl s1.1), some (.inl s1.2), some (.inl p19)]) (h' := h) 6 (fun _ _ => rfl) (eIx_placeAt (by omega) hx25) ?_
        obtain ⟨x26, hx27, HF⟩ := q_bind HF
        refine q_cll (m' := 58) (av := [.inl x24]) (st' := [.inr (.inr (1, k, 0))]) (pc' := 65) (loc' := [some (.inr (.inr (0, k, 0))), some (.inl a1), some (.inl s1.1), some (.inl s1.2), some (.inl p19)]) (h' := h) 1 (fun _ _ => rfl) (eRp_pageOf (by omega) hx27) ?_
        obtain ⟨x28, hx29, HF⟩ := q_bind HF
        refine q_cll (m' := 92) (av := [.inr (.inr (1, k, 0)), .inl x26]) (st' := []) (pc' := 68) (loc' := [some (.inr (.inr (0, k, 0))), some (.inl a1), some (.inl s1.1), some (.inl s1.2), some (.inl p19)]) (h' := h) 1 (fun _ _ => rfl) (ePg_isClear (by omega) hx29) ?_
        refine q_br (P := ¬ x28 = 0) (pcT := 74) (pcF := 71) (loc' := [some (.inr (.inr (0, k, 0))), some (.inl a1), some (.inl s1.1), some (.inl s1.2), some (.inl p19)]) (stk' := []) (h' := h) 1 (fun _ _ => rfl) (fun c30 => ?_) (fun c30 => ?_)
        · rw [if_pos c30] at HF
          have hz := Option.some.inj HF
          subst hz
          exact hP23 (s1.1) HK22
        · rw [if_neg c30] at HF
          refine q_blk (pc' := 74) (loc' := [some (.inr (.inr (0, k, 0))), some (.inl a1), some (.inl (s1.1 + (1 : Int32))), some (.inl s1.2), some (.inl p19)]) (stk' := []) (h' := h) 1 (fun _ _ => rfl) ?_
          have hz := Option.some.inj HF
          subst hz
          exact hP23 (s1.1 + (1 : Int32)) HK22
    replace HF := HA12
    refine q_br (P := ¬ x9 = a1) (pcT := 38) (pcF := 27) (loc' := [some (.inr (.inr (0, k, 0))), some (.inl a1), some (.inl s1.1), some (.inl s1.2), none]) (stk' := []) (h' := h) 2 (fun _ _ => rfl) (fun c18 => ?_) (fun c18 => ?_)
    · rw [if_pos c18] at HF
      refine q_blk (pc' := 43) (loc' := [some (.inr (.inr (0, k, 0))), some (.inl a1), some (.inl s1.1), some (.inl s1.2), none]) (stk' := [.inl (1 : Int32)]) (h' := h) 2 (fun _ _ => rfl) ?_
      have hz := Option.some.inj HF
      subst hz
      exact hP14 (1 : Int32) HK13
    · rw [if_neg c18] at HF
      obtain ⟨x15, hx16, HF⟩ := q_bind HF
      refine q_cll (m' := 73) (av := [.inr (.inr (11, k, 0)), .inl s1.2]) (st' := []) (pc' := 35) (loc' := [some (.inr (.inr (0, k, 0))), some (.inl a1), some (.inl s1.1), some (.inl s1.2), none]) (h' := h) 4 (fun _ _ => rfl) (eIx_isKilled (by omega) hx16) ?_
      refine q_br (P := x15 = 0) (pcT := 42) (pcF := 38) (loc' := [some (.inr (.inr (0, k, 0))), some (.inl a1), some (.inl s1.1), some (.inl s1.2), none]) (stk' := []) (h' := h) 1 (fun _ _ => rfl) (fun c17 => ?_) (fun c17 => ?_)
      · rw [if_pos c17] at HF
        refine q_blk (pc' := 43) (loc' := [some (.inr (.inr (0, k, 0))), some (.inl a1), some (.inl s1.1), some (.inl s1.2), none]) (stk' := [.inl (0 : Int32)]) (h' := h) 1 (fun _ _ => rfl) ?_
        have hz := Option.some.inj HF
        subst hz
        exact hP14 (0 : Int32) HK13
      · rw [if_neg c17] at HF
        refine q_blk (pc' := 43) (loc' := [some (.inr (.inr (0, k, 0))), some (.inl a1), some (.inl s1.1), some (.inl s1.2), none]) (stk' := [.inl (1 : Int32)]) (h' := h) 2 (fun _ _ => rfl) ?_
        have hz := Option.some.inj HF
        subst hz
        exact hP14 (1 : Int32) HK13
def St_isLasting (k : Nat) (k1 : Nat) (i1 : Nat) (h : q_H) : Option Int32 :=
  Option.bind (α := (Unit) ⊕ Int32) (if ¬ (h.1 3 11 k1 i1) = 0 then (some (.inl ())) else ((Tn_stateOf k (h.1 3 6 k1 i1) h).bind fun x5 => if ¬ x5 = (1 : Int32) then (some (.inr ((0 : Int32)))) else (some (.inl ())))) (fun z1 => match z1 with | .inl p9 => (St_isUnended k k1 i1 h).bind fun x10 => if x10 = 0 then (some ((0 : Int32))) else (some ((1 : Int32))) | .inr z1 => some z1)
set_option maxRecDepth 100000 in
set_option maxHeartbeats 4000000 in
theorem eSt_isLasting {d : Nat} (hd : 3 ≤ d) {k : Nat} {k1 : Nat} {i1 : Nat} {h : q_H} {r : Int32} (HF : St_isLasting k k1 i1 h = some r) : q_T d 179 [.inr (.inr (0, k, 0)), .inr (.inr (3, k1, i1))] h (some (.inl r), h) := by
  obtain ⟨d, rfl⟩ : ∃ d', d = d' + 1 := ⟨d - 1, by omega⟩
  refine q_ent q_K179 rfl rfl rfl ?_
  unfold St_isLasting at HF
  obtain ⟨z1, HA2, HK3⟩ := q_bind HF
  have hP4 : ∀ p9 : Unit, ((St_isUnended k k1 i1 h).bind fun x10 => if x10 = 0 then (some ((0 : Int32))) else (some ((1 : Int32))) : Option Int32) = some r → q_E d q_K179 22 [some (.inr (.inr (0, k, 0))), some (.inr (.inr (3, k1, i1)))] [] h (some (.inl r), h) := by
    intro p9 HF
    obtain ⟨x10, hx11, HF⟩ := q_bind HF
    refine q_cll (m' := 172) (av := [.inr (.inr (0, k, 0)), .inr (.inr (3, k1, i1))]) (st' := []) (pc' := 27) (loc' := [some (.inr (.inr (0, k, 0))), some (.inr (.inr (3, k1, i1)))]) (h' := h) 3 (fun _ _ => rfl) (eSt_isUnended (by omega) hx11) ?_
    refine q_br (P := x10 = 0) (pcT := 34) (pcF := 30) (loc' := [some (.inr (.inr (0, k, 0))), some (.inr (.inr (3, k1, i1)))]) (stk' := []) (h' := h) 1 (fun _ _ => rfl) (fun c12 => ?_) (fun c12 => ?_)
    · rw [if_pos c12] at HF
      have hz := Option.some.inj HF
      subst hz
      exact q_rtn 2 (fun _ _ => rfl)
    · rw [if_neg c12] at HF
      have hz := Option.some.inj HF
      subst hz
      exact q_rtn 3 (fun _ _ => rfl)
  replace HF := HA2
  refine q_br (P := ¬ (h.1 3 11 k1 i1) = 0) (pcT := 22) (pcF := 7) (loc' := [some (.inr (.inr (0, k, 0))), some (.inr (.inr (3, k1, i1)))]) (stk' := []) (h' := h) 3 (fun _ _ => rfl) (fun c8 => ?_) (fun c8 => ?_)
  · rw [if_pos c8] at HF
    have hz := Option.some.inj HF
    subst hz
    exact hP4 () HK3
  · rw [if_neg c8] at HF
    obtain ⟨x5, hx6, HF⟩ := q_bind HF
    refine q_cll (m' := 106) (av := [.inr (.inr (6, k, 0)), .inl (h.1 3 6 k1 i1)]) (st' := []) (pc' := 18) (loc' := [some (.inr (.inr (0, k, 0))), some (.inr (.inr (3, k1, i1)))]) (h' := h) 5 (fun _ _ => rfl) (eTn_stateOf (by omega) hx6) ?_
    refine q_br (P := ¬ x5 = (1 : Int32)) (pcT := 34) (pcF := 22) (loc' := [some (.inr (.inr (0, k, 0))), some (.inr (.inr (3, k1, i1)))]) (stk' := []) (h' := h) 2 (fun _ _ => rfl) (fun c7 => ?_) (fun c7 => ?_)
    · rw [if_pos c7] at HF
      have hz := Option.some.inj HF
      subst hz
      replace HF := HK3
      have hz := Option.some.inj HF
      subst hz
      exact q_rtn 2 (fun _ _ => rfl)
    · rw [if_neg c7] at HF
      have hz := Option.some.inj HF
      subst hz
      exact hP4 () HK3
def Mo_isVersion (a1 : Int32) (h : q_H) : Option Int32 :=
  (Mo_isSlot a1 h).bind fun x1 => if x1 = 0 then (some ((0 : Int32))) else ((Mo_isFull a1 h).bind fun x3 => if x3 = 0 then (some ((0 : Int32))) else (some ((1 : Int32))))
set_option maxRecDepth 100000 in
set_option maxHeartbeats 4000000 in
theorem eMo_isVersion {d : Nat} (hd : 3 ≤ d) {a1 : Int32} {h : q_H} {r : Int32} (HF : Mo_isVersion a1 h = some r) : q_T d 191 [.inr (.inr (30, 7, 0)), .inl a1] h (some (.inl r), h) := by
  obtain ⟨d, rfl⟩ : ∃ d', d = d' + 1 := ⟨d - 1, by omega⟩
  refine q_ent q_K191 rfl rfl rfl ?_
  unfold Mo_isVersion at HF
  obtain ⟨x1, hx2, HF⟩ := q_bind HF
  refine q_cll (m' := 190) (av := [.inr (.inr (30, 7, 0)), .inl a1]) (st' := []) (pc' := 5) (loc' := [some (.inr (.inr (30, 7, 0))), some (.inl a1)]) (h' := h) 3 (fun _ _ => rfl) (eMo_isSlot (by omega) hx2) ?_
  refine q_br (P := x1 = 0) (pcT := 20) (pcF := 8) (loc' := [some (.inr (.inr (30, 7, 0))), some (.inl a1)]) (stk' := []) (h' := h) 1 (fun _ _ => rfl) (fun c6 => ?_) (fun c6 => ?_)
  · rw [if_pos c6] at HF
    have hz := Option.some.inj HF
    subst hz
    exact q_rtn 2 (fun _ _ => rfl)
  · rw [if_neg c6] at HF
    obtain ⟨x3, hx4, HF⟩ := q_bind HF
    refine q_cll (m' := 189) (av := [.inr (.inr (30, 7, 0)), .inl a1]) (st' := []) (pc' := 13) (loc' := [some (.inr (.inr (30, 7, 0))), some (.inl a1)]) (h' := h) 3 (fun _ _ => rfl) (eMo_isFull (by omega) hx4) ?_
    refine q_br (P := x3 = 0) (pcT := 20) (pcF := 16) (loc' := [some (.inr (.inr (30, 7, 0))), some (.inl a1)]) (stk' := []) (h' := h) 1 (fun _ _ => rfl) (fun c5 => ?_) (fun c5 => ?_)
    · rw [if_pos c5] at HF
      have hz := Option.some.inj HF
      subst hz
      exact q_rtn 2 (fun _ _ => rfl)
    · rw [if_neg c5] at HF
      have hz := Option.some.inj HF
      subst hz
      exact q_rtn 3 (fun _ _ => rfl)
def Mo_freeIn (a1 : Int32) (h : q_H) : Option Int32 :=
  (q_lp (fun s1 : Int32 × Int32 => (bif q_in ((17 : Int32) + a1) 1644 then (if (((10 : Int32) * a1) + (h.1 31 0 7 ((17 : Int32) + a1).toNatClampNeg)) ≤ s1.2 then (some (.inr (s1.1))) else ((Mo_isFull s1.2 h).bind fun x9 => Option.bind (α := Int32) (if x9 = 0 then (some ((0 : Int32))) else ((Mo_of s1.2 (5 : Int32) h).bind fun x15 => some (x15))) (fun p18 => some (.inl ((s1.1 - p18), (s1.2 + (1 : Int32))))))) else none : Option ((Int32 × Int32) ⊕ Int32))) q_fu (((h.1 31 0 7 0), ((10 : Int32) * a1)) : Int32 × Int32)).bind fun z8 => some z8
set_option maxRecDepth 100000 in
set_option maxHeartbeats 4000000 in
theorem eMo_freeIn {d : Nat} (hd : 3 ≤ d) {a1 : Int32} {h : q_H} {r : Int32} (HF : Mo_freeIn a1 h = some r) : q_T d 192 [.inr (.inr (30, 7, 0)), .inl a1] h (some (.inl r), h) := by
  obtain ⟨d, rfl⟩ : ∃ d', d = d' + 1 := ⟨d - 1, by omega⟩
  refine q_ent q_K192 rfl rfl rfl ?_
  unfold Mo_freeIn at HF
  refine q_blk (pc' := 12) (loc' := [some (.inr (.inr (30, 7, 0))), some (.inl a1), some (.inl (h.1 31 0 7 0)), some (.inl ((10 : Int32) * a1))]) (stk' := []) (h' := h) 9 (fun _ _ => rfl) ?_
  obtain ⟨r6, hl7, HK4⟩ := q_bind HF
  refine q_lpE (E := fun s1 => q_E d q_K192 12 [some (.inr (.inr (30, 7, 0))), some (.inl a1), some (.inl s1.1), some (.inl s1.2)] [] h (some (.inl r), h)) r6 (fun s1 z8 HF H12 H23 => ?_) _ _ hl7
  obtain ⟨g21, HF⟩ := q_gF HF
  refine q_gd (pc' := 26) (loc' := [some (.inr (.inr (30, 7, 0))), some (.inl a1), some (.inl s1.1), some (.inl s1.2)]) (stk' := [.inl (h.1 31 0 7 ((17 : Int32) + a1).toNatClampNeg), .inl ((10 : Int32) * a1), .inl s1.2]) (h' := h) 10 (fun _ _ => rfl) g21 ?_
  refine q_br (P := (((10 : Int32) * a1) + (h.1 31 0 7 ((17 : Int32) + a1).toNatClampNeg)) ≤ s1.2) (pcT := 57) (pcF := 30) (loc' := [some (.inr (.inr (30, 7, 0))), some (.inl a1), some (.inl s1.1), some (.inl s1.2)]) (stk' := []) (h' := h) 2 (fun _ _ => rfl) (fun c20 => ?_) (fun c20 => ?_)
  · rw [if_pos c20] at HF
    have hz := Option.some.inj HF
    subst hz
    replace HF := HK4
    rw [← H23 _ rfl] at HF
    have hz := Option.some.inj HF
    subst hz
    exact q_rtn 2 (fun _ _ => rfl)
  · rw [if_neg c20] at HF
    obtain ⟨x9, hx10, HF⟩ := q_bind HF
    refine q_cll (m' := 189) (av := [.inr (.inr (30, 7, 0)), .inl s1.2]) (st' := [.inl s1.1]) (pc' := 36) (loc' := [some (.inr (.inr (30, 7, 0))), some (.inl a1), some (.inl s1.1), some (.inl s1.2)]) (h' := h) 4 (fun _ _ => rfl) (eMo_isFull (by omega) hx10) ?_
    obtain ⟨z11, HA12, HK13⟩ := q_bind HF
    have hP14 : ∀ p18 : Int32, (some (.inl ((s1.1 - p18), (s1.2 + (1 : Int32)))) : Option ((Int32 × Int32) ⊕ Int32)) = some z8 → q_E d q_K192 49 [some (.inr (.inr (30, 7, 0))), some (.inl a1), some (.inl s1.1), some (.inl s1.2)] [.inl p18, .inl s1.1] h (some (.inl r), h) := by
      intro p18 HF
      refine q_blk (pc' := 12) (loc' := [some (.inr (.inr (30, 7, 0))), some (.inl a1), some (.inl (s1.1 - p18)), some (.inl (s1.2 + (1 : Int32)))]) (stk' := []) (h' := h) 4 (fun _ _ => rfl) ?_
      have hz := Option.some.inj HF
      subst hz
      exact H12 ((s1.1 - p18), (s1.2 + (1 : Int32))) rfl
    replace HF := HA12
    refine q_br (P := x9 = 0) (pcT := 48) (pcF := 39) (loc' := [some (.inr (.inr (30, 7, 0))), some (.inl a1), some (.inl s1.1), some (.inl s1.2)]) (stk' := [.inl s1.1]) (h' := h) 1 (fun _ _ => rfl) (fun c17 => ?_) (fun c17 => ?_)
    · rw [if_pos c17] at HF
      refine q_blk (pc' := 49) (loc' := [some (.inr (.inr (30, 7, 0))), some (.inl a1), some (.inl s1.1), some (.inl s1.2)]) (stk' := [.inl (0 : Int32), .inl s1.1]) (h' := h) 1 (fun _ _ => rfl) ?_
      have hz := Option.some.inj HF
      subst hz
      exact hP14 (0 : Int32) HK13
    · rw [if_neg c17] at HF
      obtain ⟨x15, hx16, HF⟩ := q_bind HF
      refine q_cll (m' := 187) (av := [.inr (.inr (30, 7, 0)), .inl s1.2, .inl (5 : Int32)]) (st' := [.inl s1.1]) (pc' := 45) (loc' := [some (.inr (.inr (30, 7, 0))), some (.inl a1), some (.inl s1.1), some (.inl s1.2)]) (h' := h) 4 (fun _ _ => rfl) (eMo_of (by omega) hx16) ?_
      refine q_blk (pc' := 49) (loc' := [some (.inr (.inr (30, 7, 0))), some (.inl a1), some (.inl s1.1), some (.inl s1.2)]) (stk' := [.inl x15, .inl s1.1]) (h' := h) 1 (fun _ _ => rfl) ?_
      have hz := Option.some.inj HF
      subst hz
      exact hP14 (x15) HK13
def Mo_isSeen (a1 : Int32) (a2 : Int32) (h : q_H) : Option Int32 :=
  (Mo_of a2 (11 : Int32) h).bind fun x1 => Option.bind (α := (Unit) ⊕ Int32) (if x1 = (1 : Int32) then (some (.inl ())) else ((Mo_of a2 (6 : Int32) h).bind fun x7 => (Mo_isKnown a1 x7 h).bind fun x9 => if x9 = 0 then (some (.inr ((0 : Int32)))) else (some (.inl ())))) (fun z3 => match z3 with | .inl p13 => (Mo_of a2 (7 : Int32) h).bind fun x14 => if x14 ≤ 0 then (some ((1 : Int32))) else ((Mo_of a2 (7 : Int32) h).bind fun x16 => (Mo_isKnown a1 x16 h).bind fun x18 => if ¬ x18 = 0 then (some ((0 : Int32))) else (some ((1 : Int32)))) | .inr z3 => some z3)
set_option maxRecDepth 100000 in
set_option maxHeartbeats 4000000 in
theorem eMo_isSeen {d : Nat} (hd : 3 ≤ d) {a1 : Int32} {a2 : Int32} {h : q_H} {r : Int32} (HF : Mo_isSeen a1 a2 h = some r) : q_T d 202 [.inr (.inr (30, 7, 0)), .inl a1, .inl a2] h (some (.inl r), h) := by
  obtain ⟨d, rfl⟩ : ∃ d', d = d' + 1 := ⟨d - 1, by omega⟩
  refine q_ent q_K202 rfl rfl rfl ?_
  unfold Mo_isSeen at HF
  obtain ⟨x1, hx2, HF⟩ := q_bind HF
  refine q_cll (m' := 187) (av := [.inr (.inr (30, 7, 0)), .inl a2, .inl (11 : Int32)]) (st' := []) (pc' := 7) (loc' := [some (.inr (.inr (30, 7, 0))), some (.inl a1), some (.inl a2)]) (h' := h) 4 (fun _ _ => rfl) (eMo_of (by omega) hx2) ?_
  obtain ⟨z3, HA4, HK5⟩ := q_bind HF
  have hP6 : ∀ p13 : Unit, ((Mo_of a2 (7 : Int32) h).bind fun x14 => if x14 ≤ 0 then (some ((1 : Int32))) else ((Mo_of a2 (7 : Int32) h).bind fun x16 => (Mo_isKnown a1 x16 h).bind fun x18 => if ¬ x18 = 0 then (some ((0 : Int32))) else (some ((1 : Int32)))) : Option Int32) = some r → q_E d q_K202 26 [some (.inr (.inr (30, 7, 0))), some (.inl a1), some (.inl a2)] [] h (some (.inl r), h) := by
    intro p13 HF
    obtain ⟨x14, hx15, HF⟩ := q_bind HF
    refine q_cll (m' := 187) (av := [.inr (.inr (30, 7, 0)), .inl a2, .inl (7 : Int32)]) (st' := []) (pc' := 33) (loc' := [some (.inr (.inr (30, 7, 0))), some (.inl a1), some (.inl a2)]) (h' := h) 4 (fun _ _ => rfl) (eMo_of (by omega) hx15) ?_
    refine q_br (P := x14 ≤ 0) (pcT := 51) (pcF := 36) (loc' := [some (.inr (.inr (30, 7, 0))), some (.inl a1), some (.inl a2)]) (stk' := []) (h' := h) 1 (fun _ _ => rfl) (fun c21 => ?_) (fun c21 => ?_)
    · rw [if_pos c21] at HF
      have hz := Option.some.inj HF
      subst hz
      exact q_rtn 3 (fun _ _ => rfl)
    · rw [if_neg c21] at HF
      obtain ⟨x16, hx17, HF⟩ := q_bind HF
      refine q_cll (m' := 187) (av := [.inr (.inr (30, 7, 0)), .inl a2, .inl (7 : Int32)]) (st' := [.inl a1, .inr (.inr (30, 7, 0))]) (pc' := 45) (loc' := [some (.inr (.inr (30, 7, 0))), some (.inl a1), some (.inl a2)]) (h' := h) 6 (fun _ _ => rfl) (eMo_of (by omega) hx17) ?_
      obtain ⟨x18, hx19, HF⟩ := q_bind HF
      refine q_cll (m' := 200) (av := [.inr (.inr (30, 7, 0)), .inl a1, .inl x16]) (st' := []) (pc' := 48) (loc' := [some (.inr (.inr (30, 7, 0))), some (.inl a1), some (.inl a2)]) (h' := h) 1 (fun _ _ => rfl) (eMo_isKnown (by omega) hx19) ?_
      refine q_br (P := ¬ x18 = 0) (pcT := 55) (pcF := 51) (loc' := [some (.inr (.inr (30, 7, 0))), some (.inl a1), some (.inl a2)]) (stk' := []) (h' := h) 1 (fun _ _ => rfl) (fun c20 => ?_) (fun c20 => ?_)
      · rw [if_pos c20] at HF
        have hz := Option.some.inj HF
        subst hz
        exact q_rtn 2 (fun _ _ => rfl)
      · rw [if_neg c20] at HF
        have hz := Option.some.inj HF
        subst hz
        exact q_rtn 3 (fun _ _ => rfl)
  replace HF := HA4
  refine q_br (P := x1 = (1 : Int32)) (pcT := 26) (pcF := 11) (loc' := [some (.inr (.inr (30, 7, 0))), some (.inl a1), some (.inl a2)]) (stk' := []) (h' := h) 2 (fun _ _ => rfl) (fun c12 => ?_) (fun c12 => ?_)
  · rw [if_pos c12] at HF
    have hz := Option.some.inj HF
    subst hz
    exact hP6 () HK5
  · rw [if_neg c12] at HF
    obtain ⟨x7, hx8, HF⟩ := q_bind HF
    refine q_cll (m' := 187) (av := [.inr (.inr (30, 7, 0)), .inl a2, .inl (6 : Int32)]) (st' := [.inl a1, .inr (.inr (30, 7, 0))]) (pc' := 20) (loc' := [some (.inr (.inr (30, 7, 0))), some (.inl a1), some (.inl a2)]) (h' := h) 6 (fun _ _ => rfl) (eMo_of (by omega) hx8) ?_
    obtain ⟨x9, hx10, HF⟩ := q_bind HF
    refine q_cll (m' := 200) (av := [.inr (.inr (30, 7, 0)), .inl a1, .inl x7]) (st' := []) (pc' := 23) (loc' := [some (.inr (.inr (30, 7, 0))), some (.inl a1), some (.inl a2)]) (h' := h) 1 (fun _ _ => rfl) (eMo_isKnown (by omega) hx10) ?_
    refine q_br (P := x9 = 0) (pcT := 55) (pcF := 26) (loc' := [some (.inr (.inr (30, 7, 0))), some (.inl a1), some (.inl a2)]) (stk' := []) (h' := h) 1 (fun _ _ => rfl) (fun c11 => ?_) (fun c11 => ?_)
    · rw [if_pos c11] at HF
      have hz := Option.some.inj HF
      subst hz
      replace HF := HK5
      have hz := Option.some.inj HF
      subst hz
      exact q_rtn 2 (fun _ _ => rfl)
    · rw [if_neg c11] at HF
      have hz := Option.some.inj HF
      subst hz
      exact hP6 () HK5
def Mo_horizonBut (a1 : Int32) (h : q_H) : Option Int32 :=
  (q_lp (fun s1 : Int32 × Int32 => (if (h.1 31 0 7 4) ≤ s1.2 then (some (.inr (s1.1))) else ((Mo_isOpen s1.2 h).bind fun x9 => Option.bind (α := Int32) (if x9 = 0 then (some (s1.1)) else (if s1.2 = a1 then (some (s1.1)) else ((Mo_lowOf s1.2 h).bind fun x15 => if s1.1 ≤ x15 then (some (s1.1)) else ((Mo_lowOf s1.2 h).bind fun x17 => some (x17))))) (fun p22 => some (.inl (p22, (s1.2 + (1 : Int32)))))) : Option ((Int32 × Int32) ⊕ Int32))) q_fu (((h.1 31 0 7 4), (1 : Int32)) : Int32 × Int32)).bind fun z8 => some z8
set_option maxRecDepth 100000 in
set_option maxHeartbeats 4000000 in
theorem eMo_horizonBut {d : Nat} (hd : 3 ≤ d) {a1 : Int32} {h : q_H} {r : Int32} (HF : Mo_horizonBut a1 h = some r) : q_T d 204 [.inr (.inr (30, 7, 0)), .inl a1] h (some (.inl r), h) := by
  obtain ⟨d, rfl⟩ : ∃ d', d = d' + 1 := ⟨d - 1, by omega⟩
  refine q_ent q_K204 rfl rfl rfl ?_
  unfold Mo_horizonBut at HF
  refine q_blk (pc' := 9) (loc' := [some (.inr (.inr (30, 7, 0))), some (.inl a1), some (.inl (h.1 31 0 7 4)), some (.inl (1 : Int32))]) (stk' := []) (h' := h) 7 (fun _ _ => rfl) ?_
  obtain ⟨r6, hl7, HK4⟩ := q_bind HF
  refine q_lpE (E := fun s1 => q_E d q_K204 9 [some (.inr (.inr (30, 7, 0))), some (.inl a1), some (.inl s1.1), some (.inl s1.2)] [] h (some (.inl r), h)) r6 (fun s1 z8 HF H12 H23 => ?_) _ _ hl7
  refine q_br (P := (h.1 31 0 7 4) ≤ s1.2) (pcT := 53) (pcF := 19) (loc' := [some (.inr (.inr (30, 7, 0))), some (.inl a1), some (.inl s1.1), some (.inl s1.2)]) (stk' := []) (h' := h) 6 (fun _ _ => rfl) (fun c24 => ?_) (fun c24 => ?_)
  · rw [if_pos c24] at HF
    have hz := Option.some.inj HF
    subst hz
    replace HF := HK4
    rw [← H23 _ rfl] at HF
    have hz := Option.some.inj HF
    subst hz
    exact q_rtn 2 (fun _ _ => rfl)
  · rw [if_neg c24] at HF
    obtain ⟨x9, hx10, HF⟩ := q_bind HF
    refine q_cll (m' := 197) (av := [.inr (.inr (30, 7, 0)), .inl s1.2]) (st' := []) (pc' := 24) (loc' := [some (.inr (.inr (30, 7, 0))), some (.inl a1), some (.inl s1.1), some (.inl s1.2)]) (h' := h) 3 (fun _ _ => rfl) (eMo_isOpen (by omega) hx10) ?_
    obtain ⟨z11, HA12, HK13⟩ := q_bind HF
    have hP14 : ∀ p22 : Int32, (some (.inl (p22, (s1.2 + (1 : Int32)))) : Option ((Int32 × Int32) ⊕ Int32)) = some z8 → q_E d q_K204 47 [some (.inr (.inr (30, 7, 0))), some (.inl a1), some (.inl p22), some (.inl s1.2)] [] h (some (.inl r), h) := by
      intro p22 HF
      refine q_blk (pc' := 9) (loc' := [some (.inr (.inr (30, 7, 0))), some (.inl a1), some (.inl p22), some (.inl (s1.2 + (1 : Int32)))]) (stk' := []) (h' := h) 2 (fun _ _ => rfl) ?_
      have hz := Option.some.inj HF
      subst hz
      exact H12 (p22, (s1.2 + (1 : Int32))) rfl
    replace HF := HA12
    refine q_br (P := x9 = 0) (pcT := 47) (pcF := 27) (loc' := [some (.inr (.inr (30, 7, 0))), some (.inl a1), some (.inl s1.1), some (.inl s1.2)]) (stk' := []) (h' := h) 1 (fun _ _ => rfl) (fun c21 => ?_) (fun c21 => ?_)
    · rw [if_pos c21] at HF
      have hz := Option.some.inj HF
      subst hz
      exact hP14 (s1.1) HK13
    · rw [if_neg c21] at HF
      refine q_br (P := s1.2 = a1) (pcT := 47) (pcF := 32) (loc' := [some (.inr (.inr (30, 7, 0))), some (.inl a1), some (.inl s1.1), some (.inl s1.2)]) (stk' := []) (h' := h) 3 (fun _ _ => rfl) (fun c20 => ?_) (fun c20 => ?_)
      · rw [if_pos c20] at HF
        have hz := Option.some.inj HF
        subst hz
        exact hP14 (s1.1) HK13
      · rw [if_neg c20] at HF
        obtain ⟨x15, hx16, HF⟩ := q_bind HF
        refine q_cll (m' := 203) (av := [.inr (.inr (30, 7, 0)), .inl s1.2]) (st' := []) (pc' := 37) (loc' := [some (.inr (.inr (30, 7, 0))), some (.inl a1), some (.inl s1.1), some (.inl s1.2)]) (h' := h) 3 (fun _ _ => rfl) (eMo_lowOf (by omega) hx16) ?_
        refine q_br (P := s1.1 ≤ x15) (pcT := 47) (pcF := 41) (loc' := [some (.inr (.inr (30, 7, 0))), some (.inl a1), some (.inl s1.1), some (.inl s1.2)]) (stk' := []) (h' := h) 2 (fun _ _ => rfl) (fun c19 => ?_) (fun c19 => ?_)
        · rw [if_pos c19] at HF
          have hz := Option.some.inj HF
          subst hz
          exact hP14 (s1.1) HK13
        · rw [if_neg c19] at HF
          obtain ⟨x17, hx18, HF⟩ := q_bind HF
          refine q_cll (m' := 203) (av := [.inr (.inr (30, 7, 0)), .inl s1.2]) (st' := []) (pc' := 46) (loc' := [some (.inr (.inr (30, 7, 0))), some (.inl a1), some (.inl s1.1), some (.inl s1.2)]) (h' := h) 3 (fun _ _ => rfl) (eMo_lowOf (by omega) hx18) ?_
          refine q_blk (pc' := 47) (loc' := [some (.inr (.inr (30, 7, 0))), some (.inl a1), some (.inl x17), some (.inl s1.2)]) (stk' := []) (h' := h) 1 (fun _ _ => rfl) ?_
          have hz := Option.some.inj HF
          subst hz
          exact hP14 (x17) HK13
def Mo_isDead (a1 : Int32) (a2 : Int32) (h : q_H) : Option Int32 :=
  (Mo_of a1 (6 : Int32) h).bind fun x1 => (Mo_stateOf x1 h).bind fun x3 => Option.bind (α := (Unit) ⊕ Int32) (if ¬ x3 = (2 : Int32) then (some (.inl ())) else ((Mo_of a1 (11 : Int32) h).bind fun x9 => if ¬ x9 = 0 then (some (.inl ())) else (some (.inr ((1 : Int32)))))) (fun z5 => match z5 with | .inl p13 => (Mo_enderOf a1 h).bind fun x14 => if x14 ≤ 0 then (some ((0 : Int32))) else ((Mo_stateOf x14 h).bind fun x16 => if ¬ x16 = (1 : Int32) then (some ((0 : Int32))) else (if a2 ≤ x14 then (some ((0 : Int32))) else (some ((1 : Int32))))) | .inr z5 => some z5)
set_option maxRecDepth 100000 in
set_option maxHeartbeats 4000000 in
theorem eMo_isDead {d : Nat} (hd : 3 ≤ d) {a1 : Int32} {a2 : Int32} {h : q_H} {r : Int32} (HF : Mo_isDead a1 a2 h = some r) : q_T d 207 [.inr (.inr (30, 7, 0)), .inl a1, .inl a2] h (some (.inl r), h) := by
  obtain ⟨d, rfl⟩ : ∃ d', d = d' + 1 := ⟨d - 1, by omega⟩
  refine q_ent q_K207 rfl rfl rfl ?_
  unfold Mo_isDead at HF
  obtain ⟨x1, hx2, HF⟩ := q_bind HF
  refine q_cll (m' := 187) (av := [.inr (.inr (30, 7, 0)), .inl a1, .inl (6 : Int32)]) (st' := [.inr (.inr (30, 7, 0))]) (pc' := 8) (loc' := [some (.inr (.inr (30, 7, 0))), some (.inl a1), some (.inl a2), none]) (h' := h) 5 (fun _ _ => rfl) (eMo_of (by omega) hx2) ?_
  obtain ⟨x3, hx4, HF⟩ := q_bind HF
  refine q_cll (m' := 196) (av := [.inr (.inr (30, 7, 0)), .inl x1]) (st' := []) (pc' := 11) (loc' := [some (.inr (.inr (30, 7, 0))), some (.inl a1), some (.inl a2), none]) (h' := h) 1 (fun _ _ => rfl) (eMo_stateOf (by omega) hx4) ?_
  obtain ⟨z5, HA6, HK7⟩ := q_bind HF
  have hP8 : ∀ p13 : Unit, ((Mo_enderOf a1 h).bind fun x14 => if x14 ≤ 0 then (some ((0 : Int32))) else ((Mo_stateOf x14 h).bind fun x16 => if ¬ x16 = (1 : Int32) then (some ((0 : Int32))) else (if a2 ≤ x14 then (some ((0 : Int32))) else (some ((1 : Int32))))) : Option Int32) = some r → q_E d q_K207 27 [some (.inr (.inr (30, 7, 0))), some (.inl a1), some (.inl a2), none] [] h (some (.inl r), h) := by
    intro p13 HF
    obtain ⟨x14, hx15, HF⟩ := q_bind HF
    refine q_cll (m' := 206) (av := [.inr (.inr (30, 7, 0)), .inl a1]) (st' := []) (pc' := 32) (loc' := [some (.inr (.inr (30, 7, 0))), some (.inl a1), some (.inl a2), none]) (h' := h) 3 (fun _ _ => rfl) (eMo_enderOf (by omega) hx15) ?_
    refine q_br (P := x14 ≤ 0) (pcT := 55) (pcF := 37) (loc' := [some (.inr (.inr (30, 7, 0))), some (.inl a1), some (.inl a2), some (.inl x14)]) (stk' := []) (h' := h) 3 (fun _ _ => rfl) (fun c20 => ?_) (fun c20 => ?_)
    · rw [if_pos c20] at HF
      have hz := Option.some.inj HF
      subst hz
      exact q_rtn 2 (fun _ _ => rfl)
    · rw [if_neg c20] at HF
      obtain ⟨x16, hx17, HF⟩ := q_bind HF
      refine q_cll (m' := 196) (av := [.inr (.inr (30, 7, 0)), .inl x14]) (st' := []) (pc' := 42) (loc' := [some (.inr (.inr (30, 7, 0))), some (.inl a1), some (.inl a2), some (.inl x14)]) (h' := h) 3 (fun _ _ => rfl) (eMo_stateOf (by omega) hx17) ?_
      refine q_br (P := ¬ x16 = (1 : Int32)) (pcT := 55) (pcF := 46) (loc' := [some (.inr (.inr (30, 7, 0))), some (.inl a1), some (.inl a2), some (.inl x14)]) (stk' := []) (h' := h) 2 (fun _ _ => rfl) (fun c19 => ?_) (fun c19 => ?_)
      · rw [if_pos c19] at HF
        have hz := Option.some.inj HF
        subst hz
        exact q_rtn 2 (fun _ _ => rfl)
      · rw [if_neg c19] at HF
        refine q_br (P := a2 ≤ x14) (pcT := 55) (pcF := 51) (loc' := [some (.inr (.inr (30, 7, 0))), some (.inl a1), some (.inl a2), some (.inl x14)]) (stk' := []) (h' := h) 3 (fun _ _ => rfl) (fun c18 => ?_) (fun c18 => ?_)
        · rw [if_pos c18] at HF
          have hz := Option.some.inj HF
          subst hz
          exact q_rtn 2 (fun _ _ => rfl)
        · rw [if_neg c18] at HF
          have hz := Option.some.inj HF
          subst hz
          exact q_rtn 3 (fun _ _ => rfl)
  replace HF := HA6
  refine q_br (P := ¬ x3 = (2 : Int32)) (pcT := 27) (pcF := 15) (loc' := [some (.inr (.inr (30, 7, 0))), some (.inl a1), some (.inl a2), none]) (stk' := []) (h' := h) 2 (fun _ _ => rfl) (fun c12 => ?_) (fun c12 => ?_)
  · rw [if_pos c12] at HF
    have hz := Option.some.inj HF
    subst hz
    exact hP8 () HK7
  · rw [if_neg c12] at HF
    obtain ⟨x9, hx10, HF⟩ := q_bind HF
    refine q_cll (m' := 187) (av := [.inr (.inr (30, 7, 0)), .inl a1, .inl (11 : Int32)]) (st' := []) (pc' := 22) (loc' := [some (.inr (.inr (30, 7, 0))), some (.inl a1), some (.inl a2), none]) (h' := h) 4 (fun _ _ => rfl) (eMo_of (by omega) hx10) ?_
    refine q_br (P := ¬ x9 = 0) (pcT := 27) (pcF := 25) (loc' := [some (.inr (.inr (30, 7, 0))), some (.inl a1), some (.inl a2), none]) (stk' := []) (h' := h) 1 (fun _ _ => rfl) (fun c11 => ?_) (fun c11 => ?_)
    · rw [if_pos c11] at HF
      have hz := Option.some.inj HF
      subst hz
      exact hP8 () HK7
    · rw [if_neg c11] at HF
      have hz := Option.some.inj HF
      subst hz
      replace HF := HK7
      have hz := Option.some.inj HF
      subst hz
      exact q_rtn 2 (fun _ _ => rfl)
