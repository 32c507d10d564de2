def Mo_manyOf (a1 : Int32) (h : q_H) : Option Int32 :=
  (Mo_horizon h).bind fun x1 => (q_lp (fun s3 : Int32 × Int32 => (if (60 : Int32) ≤ s3.2 then (some (.inr (s3.1))) else ((Mo_isSlot s3.2 h).bind fun x11 => Option.bind (α := Int32) (if ¬ x11 = 0 then ((Mo_of s3.2 (0 : Int32) h).bind fun x17 => Option.bind (α := Int32) (if ¬ x17 = (1 : Int32) then (some ((0 : Int32))) else (some ((1 : Int32)))) (fun p24 => Option.bind (α := Int32) (if ¬ a1 = (7 : Int32) then (if ¬ a1 = (8 : Int32) then (if ¬ a1 = (9 : Int32) then (if ¬ a1 = (10 : Int32) then (if ¬ a1 = (11 : Int32) then (if ¬ a1 = (12 : Int32) then (if ¬ x17 = (2 : Int32) then (some ((0 : Int32))) else (some ((1 : Int32)))) else (if ¬ x17 = (3 : Int32) then (some ((0 : Int32))) else (some ((1 : Int32))))) else (if p24 = 0 then (some ((0 : Int32))) else ((Mo_of s3.2 (10 : Int32) h).bind fun x32 => if ¬ x32 = (1 : Int32) then (some ((0 : Int32))) else (some ((1 : Int32)))))) else (if p24 = 0 then (some ((0 : Int32))) else ((Mo_of s3.2 (11 : Int32) h).bind fun x37 => if ¬ x37 = (1 : Int32) then (some ((0 : Int32))) else (some ((1 : Int32)))))) else (if p24 = 0 then (some ((0 : Int32))) else ((Mo_isDying s3.2 h).bind fun x42 => if x42 = 0 then (some ((0 : Int32))) else (some ((1 : Int32)))))) else (if p24 = 0 then (some ((0 : Int32))) else ((Mo_isDead s3.2 x1 h).bind fun x47 => if x47 = 0 then (some ((0 : Int32))) else (some ((1 : Int32)))))) else (some (p24))) (fun p53 => if p53 = 0 then (some ((s3.1 + (0 : Int32)))) else (some ((s3.1 + (1 : Int32))))))) else (some (s3.1))) (fun p58 => some (.inl (p58, (s3.2 + (1 : Int32)))))) : Option ((Int32 × Int32) ⊕ Int32))) q_fu (((0 : Int32), (0 : Int32)) : Int32 × Int32)).bind fun z10 => some z10
set_option maxRecDepth 100000 in
set_option maxHeartbeats 4000000 in
theorem eMo_manyOf {d : Nat} (hd : 6 ≤ d) {a1 : Int32} {h : q_H} {r : Int32} (HF : Mo_manyOf a1 h = some r) : q_T d 260 [.inr (.inr (30, 7, 0)), .inl a1] h (some (.inl r), h) := by
  obtain ⟨d, rfl⟩ : ∃ d', d = d' + 1 := ⟨d - 1, by omega⟩
  refine q_ent q_K260 rfl rfl rfl ?_
  unfold Mo_manyOf at HF
  obtain ⟨x1, hx2, HF⟩ := q_bind HF
  refine q_cll (m' := 205) (av := [.inr (.inr (30, 7, 0))]) (st' := []) (pc' := 6) (loc' := [some (.inr (.inr (30, 7, 0))), some (.inl a1), some (.inl (0 : Int32)), none, none, none, none, none]) (h' := h) 4 (fun _ _ => rfl) (eMo_horizon (by omega) hx2) ?_
  refine q_blk (pc' := 10) (loc' := [some (.inr (.inr (30, 7, 0))), some (.inl a1), some (.inl (0 : Int32)), some (.inl x1), some (.inl (0 : Int32)), none, none, none]) (stk' := []) (h' := h) 3 (fun _ _ => rfl) ?_
  obtain ⟨r8, hl9, HK6⟩ := q_bind HF
  refine q_lpE (E := fun s3 => q_E d q_K260 10 [some (.inr (.inr (30, 7, 0))), some (.inl a1), some (.inl s3.1), some (.inl x1), some (.inl s3.2), none, none, none] [] h (some (.inl r), h)) r8 (fun s3 z10 HF H14 H25 => ?_) _ _ hl9
  refine q_br (P := (60 : Int32) ≤ s3.2) (pcT := 233) (pcF := 17) (loc' := [some (.inr (.inr (30, 7, 0))), some (.inl a1), some (.inl s3.1), some (.inl x1), some (.inl s3.2), none, none, none]) (stk' := []) (h' := h) 3 (fun _ _ => rfl) (fun c60 => ?_) (fun c60 => ?_)
  · rw [if_pos c60] at HF
    have hz := Option.some.inj HF
    subst hz
    replace HF := HK6
    rw [← H25 _ rfl] at HF
    have hz := Option.some.inj HF
    subst hz
    exact q_rtn 2 (fun _ _ => rfl)
  · rw [if_neg c60] at HF
    obtain ⟨x11, hx12, HF⟩ := q_bind HF
    refine q_cll (m' := 190) (av := [.inr (.inr (30, 7, 0)), .inl s3.2]) (st' := []) (pc' := 23) (loc' := [some (.inr (.inr (30, 7, 0))), some (.inl a1), some (.inl s3.1), some (.inl x1), some (.inl s3.2), none, none, none]) (h' := h) 3 (fun _ _ => rfl) (eMo_isSlot (by omega) hx12) ?_
    obtain ⟨z13, HA14, HK15⟩ := q_bind HF
    have hP16 : ∀ p58 : Int32, (some (.inl (p58, (s3.2 + (1 : Int32)))) : Option ((Int32 × Int32) ⊕ Int32)) = some z10 → q_E d q_K260 227 [some (.inr (.inr (30, 7, 0))), some (.inl a1), some (.inl p58), some (.inl x1), some (.inl s3.2), none, none, none] [] h (some (.inl r), h) := by
      intro p58 HF
      refine q_blk (pc' := 10) (loc' := [some (.inr (.inr (30, 7, 0))), some (.inl a1), some (.inl p58), some (.inl x1), some (.inl (s3.2 + (1 : Int32))), none, none, none]) (stk' := []) (h' := h) 2 (fun _ _ => rfl) ?_
      have hz := Option.some.inj HF
      subst hz
      exact H14 (p58, (s3.2 + (1 : Int32))) rfl
    replace HF := HA14
    refine q_br (P := ¬ x11 = 0) (pcT := 29) (pcF := 26) (loc' := [some (.inr (.inr (30, 7, 0))), some (.inl a1), some (.inl s3.1), some (.inl x1), some (.inl s3.2), none, none, none]) (stk' := []) (h' := h) 1 (fun _ _ => rfl) (fun c57 => ?_) (fun c57 => ?_)
    · rw [if_pos c57] at HF
      obtain ⟨x17, hx18, HF⟩ := q_bind HF
      refine q_cll (m' := 187) (av := [.inr (.inr (30, 7, 0)), .inl s3.2, .inl (0 : Int32)]) (st' := []) (pc' := 36) (loc' := [some (.inr (.inr (30, 7, 0))), some (.inl a1), some (.inl s3.1), some (.inl x1), some (.inl s3.2), none, none, none]) (h' := h) 4 (fun _ _ => rfl) (eMo_of (by omega) hx18) ?_
      obtain ⟨z19, HA20, HK21⟩ := q_bind HF
      have hP22 : ∀ p24 : Int32, (Option.bind (α := Int32) (if ¬ a1 = (7 : Int32) then (if ¬ a1 = (8 : Int32) then (if ¬ a1 = (9 : Int32) then (if ¬ a1 = (10 : Int32) then (if ¬ a1 = (11 : Int32) then (if ¬ a1 = (12 : Int32) then (if ¬ x17 = (2 : Int32) then (some ((0 : Int32))) else (some ((1 : Int32)))) else (if ¬ x17 = (3 : Int32) then (some ((0 : Int32))) else (some ((1 : Int32))))) else (if p24 = 0 then (some ((0 : Int32))) else ((Mo_of s3.2 (10 : Int32) h).bind fun x32 => if ¬ x32 = (1 : Int32) then (some ((0 : Int32))) else (some ((1 : Int32)))))) else (if p24 = 0 then (some ((0 : Int32))) else ((Mo_of s3.2 (11 : Int32) h).bind fun x37 => if ¬ x37 = (1 : Int32) then (some ((0 : Int32))) else (some ((1 : Int32)))))) else (if p24 = 0 then (some ((0 : Int32))) else ((Mo_isDying s3.2 h).bind fun x42 => if x42 = 0 then (some ((0 : Int32))) else (some ((1 : Int32)))))) else (if p24 = 0 then (some ((0 : Int32))) else ((Mo_isDead s3.2 x1 h).bind fun x47 => if x47 = 0 then (some ((0 : Int32))) else (some ((1 : Int32)))))) else (some (p24))) (fun p53 => if p53 = 0 then (some ((s3.1 + (0 : Int32)))) else (some ((s3.1 + (1 : Int32))))) : Option (Int32)) = some z13 → q_E d q_K260 49 [some (.inr (.inr (30, 7, 0))), some (.inl a1), some (.inl s3.1), some (.inl x1), some (.inl s3.2), some (.inl x17), none, none] [.inl p24] h (some (.inl r), h) := by
        intro p24 HF
        obtain ⟨z25, HA26, HK27⟩ := q_bind HF
        have hP28 : ∀ p53 : Int32, (if p53 = 0 then (some ((s3.1 + (0 : Int32)))) else (some ((s3.1 + (1 : Int32)))) : Option (Int32)) = some z13 → q_E d q_K260 212 [some (.inr (.inr (30, 7, 0))), some (.inl a1), some (.inl s3.1), some (.inl x1), some (.inl s3.2), some (.inl x17), some (.inl p24), none] [.inl p53] h (some (.inl r), h) := by
          intro p53 HF
          refine q_br (P := p53 = 0) (pcT := 224) (pcF := 220) (loc' := [some (.inr (.inr (30, 7, 0))), some (.inl a1), some (.inl s3.1), some (.inl x1), some (.inl s3.2), some (.inl x17), some (.inl p24), some (.inl p53)]) (stk' := [.inl s3.1]) (h' := h) 4 (fun _ _ => rfl) (fun c54 => ?_) (fun c54 => ?_)
          · rw [if_pos c54] at HF
            refine q_blk (pc' := 227) (loc' := [some (.inr (.inr (30, 7, 0))), some (.inl a1), some (.inl (s3.1 + (0 : Int32))), some (.inl x1), some (.inl s3.2), some (.inl x17), some (.inl p24), some (.inl p53)]) (stk' := []) (h' := h) 3 (fun _ _ => rfl) ?_
            have hz := Option.some.inj HF
            subst hz
            exact q_wk (loc := [some (.inr (.inr (30, 7, 0))), some (.inl a1), some (.inl (s3.1 + (0 : Int32))), some (.inl x1), some (.inl s3.2), none, none, none]) ⟨Or.inl rfl, ⟨Or.inl rfl, ⟨Or.inl rfl, ⟨Or.inl rfl, ⟨Or.inl rfl, ⟨Or.inr ⟨rfl, fun _ h => by cases h⟩, ⟨Or.inr ⟨rfl, fun _ h => by cases h⟩, ⟨Or.inr ⟨rfl, fun _ h => by cases h⟩, trivial⟩⟩⟩⟩⟩⟩⟩⟩ (hP16 (s3.1 + (0 : Int32)) HK15)
          · rw [if_neg c54] at HF
            refine q_blk (pc' := 227) (loc' := [some (.inr (.inr (30, 7, 0))), some (.inl a1), some (.inl (s3.1 + (1 : Int32))), some (.inl x1), some (.inl s3.2), some (.inl x17), some (.inl p24), some (.inl p53)]) (stk' := []) (h' := h) 4 (fun _ _ => rfl) ?_
            have hz := Option.some.inj HF
            subst hz
            exact q_wk (loc := [some (.inr (.inr (30, 7, 0))), some (.inl a1), some (.inl (s3.1 + (1 : Int32))), some (.inl x1), some (.inl s3.2), none, none, none]) ⟨Or.inl rfl, ⟨Or.inl rfl, ⟨Or.inl rfl, ⟨Or.inl rfl, ⟨Or.inl rfl, ⟨Or.inr ⟨rfl, fun _ h => by cases h⟩, ⟨Or.inr ⟨rfl, fun _ h => by cases h⟩, ⟨Or.inr ⟨rfl, fun _ h => by cases h⟩, trivial⟩⟩⟩⟩⟩⟩⟩⟩ (hP16 (s3.1 + (1 : Int32)) HK15)
        replace HF := HA26
        refine q_br (P := ¬ a1 = (7 : Int32)) (pcT := 62) (pcF := 57) (loc' := [some (.inr (.inr (30, 7, 0))), some (.inl a1), some (.inl s3.1), some (.inl x1), some (.inl s3.2), some (.inl x17), some (.inl p24), none]) (stk' := []) (h' := h) 4 (fun _ _ => rfl) (fun c52 => ?_) (fun c52 => ?_)
        · rw [if_pos c52] at HF
          refine q_br (P := ¬ a1 = (8 : Int32)) (pcT := 91) (pcF := 68) (loc' := [some (.inr (.inr (30, 7, 0))), some (.inl a1), some (.inl s3.1), some (.inl x1), some (.inl s3.2), some (.inl x17), some (.inl p24), none]) (stk' := []) (h' := h) 3 (fun _ _ => rfl) (fun c51 => ?_) (fun c51 => ?_)
          · rw [if_pos c51] at HF
            refine q_br (P := ¬ a1 = (9 : Int32)) (pcT := 119) (pcF := 97) (loc' := [some (.inr (.inr (30, 7, 0))), some (.inl a1), some (.inl s3.1), some (.inl x1), some (.inl s3.2), some (.inl x17), some (.inl p24), none]) (stk' := []) (h' := h) 3 (fun _ _ => rfl) (fun c46 => ?_) (fun c46 => ?_)
            · rw [if_pos c46] at HF
              refine q_br (P := ¬ a1 = (10 : Int32)) (pcT := 150) (pcF := 125) (loc' := [some (.inr (.inr (30, 7, 0))), some (.inl a1), some (.inl s3.1), some (.inl x1), some (.inl s3.2), some (.inl x17), some (.inl p24), none]) (stk' := []) (h' := h) 3 (fun _ _ => rfl) (fun c41 => ?_) (fun c41 => ?_)
              · rw [if_pos c41] at HF
                refine q_br (P := ¬ a1 = (11 : Int32)) (pcT := 181) (pcF := 156) (loc' := [some (.inr (.inr (30, 7, 0))), some (.inl a1), some (.inl s3.1), some (.inl x1), some (.inl s3.2), some (.inl x17), some (.inl p24), none]) (stk' := []) (h' := h) 3 (fun _ _ => rfl) (fun c36 => ?_) (fun c36 => ?_)
                · rw [if_pos c36] at HF
                  refine q_br (P := ¬ a1 = (12 : Int32)) (pcT := 201) (pcF := 187) (loc' := [some (.inr (.inr (30, 7, 0))), some (.inl a1), some (.inl s3.1), some (.inl x1), some (.inl s3.2), some (.inl x17), some (.inl p24), none]) (stk' := []) (h' := h) 3 (fun _ _ => rfl) (fun c31 => ?_) (fun c31 => ?_)
                  · rw [if_pos c31] at HF
                    refine q_br (P := ¬ x17 = (2 : Int32)) (pcT := 211) (pcF := 207) (loc' := [some (.inr (.inr (30, 7, 0))), some (.inl a1), some (.inl s3.1), some (.inl x1), some (.inl s3.2), some (.inl x17), some (.inl p24), none]) (stk' := []) (h' := h) 3 (fun _ _ => rfl) (fun c29 => ?_) (fun c29 => ?_)
                    · rw [if_pos c29] at HF
                      refine q_blk (pc' := 212) (loc' := [some (.inr (.inr (30, 7, 0))), some (.inl a1), some (.inl s3.1), some (.inl x1), some (.inl s3.2), some (.inl x17), some (.inl p24), none]) (stk' := [.inl (0 : Int32)]) (h' := h) 1 (fun _ _ => rfl) ?_
                      have hz := Option.some.inj HF
                      subst hz
                      exact hP28 (0 : Int32) HK27
                    · rw [if_neg c29] at HF
                      refine q_blk (pc' := 212) (loc' := [some (.inr (.inr (30, 7, 0))), some (.inl a1), some (.inl s3.1), some (.inl x1), some (.inl s3.2), some (.inl x17), some (.inl p24), none]) (stk' := [.inl (1 : Int32)]) (h' := h) 2 (fun _ _ => rfl) ?_
                      have hz := Option.some.inj HF
                      subst hz
                      exact hP28 (1 : Int32) HK27
                  · rw [if_neg c31] at HF
                    refine q_br (P := ¬ x17 = (3 : Int32)) (pcT := 197) (pcF := 193) (loc' := [some (.inr (.inr (30, 7, 0))), some (.inl a1), some (.inl s3.1), some (.inl x1), some (.inl s3.2), some (.inl x17), some (.inl p24), none]) (stk' := []) (h' := h) 3 (fun _ _ => rfl) (fun c30 => ?_) (fun c30 => ?_)
                    · rw [if_pos c30] at HF
                      refine q_blk (pc' := 212) (loc' := [some (.inr (.inr (30, 7, 0))), some (.inl a1), some (.inl s3.1), some (.inl x1), some (.inl s3.2), some (.inl x17), some (.inl p24), none]) (stk' := [.inl (0 : Int32)]) (h' := h) 2 (fun _ _ => rfl) ?_
                      have hz := Option.some.inj HF
                      subst hz
                      exact hP28 (0 : Int32) HK27
                    · rw [if_neg c30] at HF
                      refine q_blk (pc' := 212) (loc' := [some (.inr (.inr (30, 7, 0))), some (.inl a1), some (.inl s3.1), some (.inl x1), some (.inl s3.2), some (.inl x17), some (.inl p24), none]) (stk' := [.inl (1 : Int32)]) (h' := h) 2 (fun _ _ => rfl) ?_
                      have hz := Option.some.inj HF
                      subst hz
                      exact hP28 (1 : Int32) HK27
                · rw [if_neg c36] at HF
                  refine q_br (P := p24 = 0) (pcT := 177) (pcF := 161) (loc' := [some (.inr (.inr (30, 7, 0))), some (.inl a1), some (.inl s3.1), some (.inl x1), some (.inl s3.2), some (.inl x17), some (.inl p24), none]) (stk' := []) (h' := h) 2 (fun _ _ => rfl) (fun c35 => ?_) (fun c35 => ?_)
                  · rw [if_pos c35] at HF
                    refine q_blk (pc' := 212) (loc' := [some (.inr (.inr (30, 7, 0))), some (.inl a1), some (.inl s3.1), some (.inl x1), some (.inl s3.2), some (.inl x17), some (.inl p24), none]) (stk' := [.inl (0 : Int32)]) (h' := h) 2 (fun _ _ => rfl) ?_
                    have hz := Option.some.inj HF
                    subst hz
                    exact hP28 (0 : Int32) HK27
                  · rw [if_neg c35] at HF
                    obtain ⟨x32, hx33, HF⟩ := q_bind HF
                    refine q_cll (m' := 187) (av := [.inr (.inr (30, 7, 0)), .inl s3.2, .inl (10 : Int32)]) (st' := []) (pc' := 169) (loc' := [some (.inr (.inr (30, 7, 0))), some (.inl a1), some (.inl s3.1), some (.inl x1), some (.inl s3.2), some (.inl x17), some (.inl p24), none]) (h' := h) 4 (fun _ _ => rfl) (eMo_of (by omega) hx33) ?_
                    refine q_br (P := ¬ x32 = (1 : Int32)) (pcT := 177) (pcF := 173) (loc' := [some (.inr (.inr (30, 7, 0))), some (.inl a1), some (.inl s3.1), some (.inl x1), some (.inl s3.2), some (.inl x17), some (.inl p24), none]) (stk' := []) (h' := h) 2 (fun _ _ => rfl) (fun c34 => ?_) (fun c34 => ?_)
                    · rw [if_pos c34] at HF
                      refine q_blk (pc' := 212) (loc' := [some (.inr (.inr (30, 7, 0))), some (.inl a1), some (.inl s3.1), some (.inl x1), some (.inl s3.2), some (.inl x17), some (.inl p24), none]) (stk' := [.inl (0 : Int32)]) (h' := h) 2 (fun _ _ => rfl) ?_
                      have hz := Option.some.inj HF
                      subst hz
                      exact hP28 (0 : Int32) HK27
                    · rw [if_neg c34] at HF
                      refine q_blk (pc' := 212) (loc' := [some (.inr (.inr (30, 7, 0))), some (.inl a1), some (.inl s3.1), some (.inl x1), some (.inl s3.2), some (.inl x17), some (.inl p24), none]) (stk' := [.inl (1 : Int32)]) (h' := h) 2 (fun _ _ => rfl) ?_
                      have hz := Option.some.inj HF
                      subst hz
                      exact hP28 (1 : Int32) HK27
              · rw [if_neg c41] at HF
                refine q_br (P := p24 = 0) (pcT := 146) (pcF := 130) (loc' := [some (.inr (.inr (30, 7, 0))), some (.inl a1), some (.inl s3.1), some (.inl x1), some (.inl s3.2), some (.inl x17), some (.inl p24), none]) (stk' := []) (h' := h) 2 (fun _ _ => rfl) (fun c40 => ?_) (fun c40 => ?_)
                · rw [if_pos c40] at HF
                  refine q_blk (pc' := 212) (loc' := [some (.inr (.inr (30, 7, 0))), some (.inl a1), some (.inl s3.1), some (.inl x1), some (.inl s3.2), some (.inl x17), some (.inl p24), none]) (stk' := [.inl (0 : Int32)]) (h' := h) 2 (fun _ _ => rfl) ?_
                  have hz := Option.some.inj HF
                  subst hz
                  exact hP28 (0 : Int32) HK27
                · rw [if_neg c40] at HF
                  obtain ⟨x37, hx38, HF⟩ := q_bind HF
                  refine q_cll (m' := 187) (av := [.inr (.inr (30, 7, 0)), .inl s3.2, .inl (11 : Int32)]) (st' := []) (pc' := 138) (loc' := [some (.inr (.inr (30, 7, 0))), some (.inl a1), some (.inl s3.1), some (.inl x1), some (.inl s3.2), some (.inl x17), some (.inl p24), none]) (h' := h) 4 (fun _ _ => rfl) (eMo_of (by omega) hx38) ?_
                  refine q_br (P := ¬ x37 = (1 : Int32)) (pcT := 146) (pcF := 142) (loc' := [some (.inr (.inr (30, 7, 0))), some (.inl a1), some (.inl s3.1), some (.inl x1), some (.inl s3.2), some (.inl x17), some (.inl p24), none]) (stk' := []) (h' := h) 2 (fun _ _ => rfl) (fun c39 => ?_) (fun c39 => ?_)
                  · rw [if_pos c39] at HF
                    refine q_blk (pc' := 212) (loc' := [some (.inr (.inr (30, 7, 0))), some (.inl a1), some (.inl s3.1), some (.inl x1), some (.inl s3.2), some (.inl x17), some (.inl p24), none]) (stk' := [.inl (0 : Int32)]) (h' := h) 2 (fun _ _ => rfl) ?_
                    have hz := Option.some.inj HF
                    subst hz
                    exact hP28 (0 : Int32) HK27
                  · rw [if_neg c39] at HF
                    refine q_blk (pc' := 212) (loc' := [some (.inr (.inr (30, 7, 0))), some (.inl a1), some (.inl s3.1), some (.inl x1), some (.inl s3.2), some (.inl x17), some (.inl p24), none]) (stk' := [.inl (1 : Int32)]) (h' := h) 2 (fun _ _ => rfl) ?_
                    have hz := Option.some.inj HF
                    subst hz
                    exact hP28 (1 : Int32) HK27
            · rw [if_neg c46] at HF
              refine q_br (P := p24 = 0) (pcT := 115) (pcF := 102) (loc' := [some (.inr (.inr (30, 7, 0))), some (.inl a1), some (.inl s3.1), some (.inl x1), some (.inl s3.2), some (.inl x17), some (.inl p24), none]) (stk' := []) (h' := h) 2 (fun _ _ => rfl) (fun c45 => ?_) (fun c45 => ?_)
              · rw [if_pos c45] at HF
                refine q_blk (pc' := 212) (loc' := [some (.inr (.inr (30, 7, 0))), some (.inl a1), some (.inl s3.1), some (.inl x1), some (.inl s3.2), some (.inl x17), some (.inl p24), none]) (stk' := [.inl (0 : Int32)]) (h' := h) 2 (fun _ _ => rfl) ?_
                have hz := Option.some.inj HF
                subst hz
                exact hP28 (0 : Int32) HK27
              · rw [if_neg c45] at HF
                obtain ⟨x42, hx43, HF⟩ := q_bind HF
                refine q_cll (m' := 208) (av := [.inr (.inr (30, 7, 0)), .inl s3.2]) (st' := []) (pc' := 108) (loc' := [some (.inr (.inr (30, 7, 0))), some (.inl a1), some (.inl s3.1), some (.inl x1), some (.inl s3.2), some (.inl x17), some (.inl p24), none]) (h' := h) 3 (fun _ _ => rfl) (eMo_isDying (by omega) hx43) ?_
                refine q_br (P := x42 = 0) (pcT := 115) (pcF := 111) (loc' := [some (.inr (.inr (30, 7, 0))), some (.inl a1), some (.inl s3.1), some (.inl x1), some (.inl s3.2), some (.inl x17), some (.inl p24), none]) (stk' := []) (h' := h) 1 (fun _ _ => rfl) (fun c44 => ?_) (fun c44 => ?_)
                · rw [if_pos c44] at HF
                  refine q_blk (pc' := 212) (loc' := [some (.inr (.inr (30, 7, 0))), some (.inl a1), some (.inl s3.1), some (.inl x1), some (.inl s3.2), some (.inl x17), some (.inl p24), none]) (stk' := [.inl (0 : Int32)]) (h' := h) 2 (fun _ _ => rfl) ?_
                  have hz := Option.some.inj HF
                  subst hz
                  exact hP28 (0 : Int32) HK27
                · rw [if_neg c44] at HF
                  refine q_blk (pc' := 212) (loc' := [some (.inr (.inr (30, 7, 0))), some (.inl a1), some (.inl s3.1), some (.inl x1), some (.inl s3.2), some (.inl x17), some (.inl p24), none]) (stk' := [.inl (1 : Int32)]) (h' := h) 2 (fun _ _ => rfl) ?_
                  have hz := Option.some.inj HF
                  subst hz
                  exact hP28 (1 : Int32) HK27
          · rw [if_neg c51] at HF
            refine q_br (P := p24 = 0) (pcT := 87) (pcF := 73) (loc' := [some (.inr (.inr (30, 7, 0))), some (.inl a1), some (.inl s3.1), some (.inl x1), some (.inl s3.2), some (.inl x17), some (.inl p24), none]) (stk' := []) (h' := h) 2 (fun _ _ => rfl) (fun c50 => ?_) (fun c50 => ?_)
            · rw [if_pos c50] at HF
              refine q_blk (pc' := 212) (loc' := [some (.inr (.inr (30, 7, 0))), some (.inl a1), some (.inl s3.1), some (.inl x1), some (.inl s3.2), some (.inl x17), some (.inl p24), none]) (stk' := [.inl (0 : Int32)]) (h' := h) 2 (fun _ _ => rfl) ?_
              have hz := Option.some.inj HF
              subst hz
              exact hP28 (0 : Int32) HK27
            · rw [if_neg c50] at HF
              obtain ⟨x47, hx48, HF⟩ := q_bind HF
              refine q_cll (m' := 207) (av := [.inr (.inr (30, 7, 0)), .inl s3.2, .inl x1]) (st' := []) (pc' := 80) (loc' := [some (.inr (.inr (30, 7, 0))), some (.inl a1), some (.inl s3.1), some (.inl x1), some (.inl s3.2), some (.inl x17), some (.inl p24), none]) (h' := h) 4 (fun _ _ => rfl) (eMo_isDead (by omega) hx48) ?_
              refine q_br (P := x47 = 0) (pcT := 87) (pcF := 83) (loc' := [some (.inr (.inr (30, 7, 0))), some (.inl a1), some (.inl s3.1), some (.inl x1), some (.inl s3.2), some (.inl x17), some (.inl p24), none]) (stk' := []) (h' := h) 1 (fun _ _ => rfl) (fun c49 => ?_) (fun c49 => ?_)
              · rw [if_pos c49] at HF
                refine q_blk (pc' := 212) (loc' := [some (.inr (.inr (30, 7, 0))), some (.inl a1), some (.inl s3.1), some (.inl x1), some (.inl s3.2), some (.inl x17), some (.inl p24), none]) (stk' := [.inl (0 : Int32)]) (h' := h) 2 (fun _ _ => rfl) ?_
                have hz := Option.some.inj HF
                subst hz
                exact hP28 (0 : Int32) HK27
              · rw [if_neg c49] at HF
                refine q_blk (pc' := 212) (loc' := [some (.inr (.inr (30, 7, 0))), some (.inl a1), some (.inl s3.1), some (.inl x1), some (.inl s3.2), some (.inl x17), some (.inl p24), none]) (stk' := [.inl (1 : Int32)]) (h' := h) 2 (fun _ _ => rfl) ?_
                have hz := Option.some.inj HF
                subst hz
                exact hP28 (1 : Int32) HK27
        · rw [if_neg c52] at HF
          refine q_blk (pc' := 212) (loc' := [some (.inr (.inr (30, 7, 0))), some (.inl a1), some (.inl s3.1), some (.inl x1), some (.inl s3.2), some (.inl x17), some (.inl p24), none]) (stk' := [.inl p24]) (h' := h) 2 (fun _ _ => rfl) ?_
          have hz := Option.some.inj HF
          subst hz
          exact hP28 (p24) HK27
      replace HF := HA20
      refine q_br (P := ¬ x17 = (1 : Int32)) (pcT := 48) (pcF := 44) (loc' := [some (.inr (.inr (30, 7, 0))), some (.inl a1), some (.inl s3.1), some (.inl x1), some (.inl s3.2), some (.inl x17), none, none]) (stk' := []) (h' := h) 4 (fun _ _ => rfl) (fun c23 => ?_) (fun c23 => ?_)
      · rw [if_pos c23] at HF
        refine q_blk (pc' := 49) (loc' := [some (.inr (.inr (30, 7, 0))), some (.inl a1), some (.inl s3.1), some (.inl x1), some (.inl s3.2), some (.inl x17), none, none]) (stk' := [.inl (0 : Int32)]) (h' := h) 1 (fun _ _ => rfl) ?_
        have hz := Option.some.inj HF
        subst hz
        exact hP22 (0 : Int32) HK21
      · rw [if_neg c23] at HF
        refine q_blk (pc' := 49) (loc' := [some (.inr (.inr (30, 7, 0))), some (.inl a1), some (.inl s3.1), some (.inl x1), some (.inl s3.2), some (.inl x17), none, none]) (stk' := [.inl (1 : Int32)]) (h' := h) 2 (fun _ _ => rfl) ?_
        have hz := Option.some.inj HF
        subst hz
        exact hP22 (1 : Int32) HK21
    · rw [if_neg c57] at HF
      refine q_blk (pc' := 227) (loc' := [some (.inr (.inr (30, 7, 0))), some (.inl a1), some (.inl s3.1), some (.inl x1), some (.inl s3.2), none, none, none]) (stk' := []) (h' := h) 1 (fun _ _ => rfl) ?_
      have hz := Option.some.inj HF
      subst hz
      exact hP16 (s3.1) HK15
def Mo_slot (a1 : Int32) (a2 : Int32) (a3 : Int32) (h : q_H) : Option (Int32 × q_H) :=
  (Mo_isIn a3 (0 : Int32) (3 : Int32) h).bind fun x1 => (Mo_asksSlot x1 a1 a2 h).bind fun x3 => if ¬ x3.1 = 0 then (if ¬ a3 = 0 then (if ¬ a3 = (1 : Int32) then (if ¬ a3 = (2 : Int32) then ((Mo_chainMany (((10 : Int32) * a1) + a2) x3.2).bind fun x5 => some ((x5, x3.2))) else ((Mo_entriesTo (((10 : Int32) * a1) + a2) x3.2).bind fun x7 => some ((x7, x3.2)))) else ((Mo_of (((10 : Int32) * a1) + a2) (0 : Int32) x3.2).bind fun x10 => if ¬ x10 = (2 : Int32) then (some (((-1 : Int32), x3.2))) else ((Mo_of (((10 : Int32) * a1) + a2) (1 : Int32) x3.2).bind fun x12 => some ((x12, x3.2))))) else ((Mo_of (((10 : Int32) * a1) + a2) (0 : Int32) x3.2).bind fun x16 => some ((x16, x3.2)))) else (some (((-1 : Int32), x3.2)))
set_option maxRecDepth 100000 in
set_option maxHeartbeats 4000000 in
theorem eMo_slot {d : Nat} (hd : 6 ≤ d) {a1 : Int32} {a2 : Int32} {a3 : Int32} {h : q_H} {r : (Int32 × q_H)} (HF : Mo_slot a1 a2 a3 h = some r) : q_T d 270 [.inr (.inr (30, 7, 0)), .inl a1, .inl a2, .inl a3] h (some (.inl r.1), r.2) := by
  obtain ⟨d, rfl⟩ : ∃ d', d = d' + 1 := ⟨d - 1, by omega⟩
  refine q_ent q_K270 rfl rfl rfl ?_
  unfold Mo_slot at HF
  obtain ⟨x1, hx2, HF⟩ := q_bind HF
  refine q_cll (m' := 184) (av := [.inl a3, .inl (0 : Int32), .inl (3 : Int32)]) (st' := [.inr (.inr (30, 7, 0))]) (pc' := 7) (loc' := [some (.inr (.inr (30, 7, 0))), some (.inl a1), some (.inl a2), some (.inl a3), none]) (h' := h) 5 (fun _ _ => rfl) (eMo_isIn (by omega) hx2) ?_
  obtain ⟨x3, hx4, HF⟩ := q_bind HF
  refine q_cll (m' := 269) (av := [.inr (.inr (30, 7, 0)), .inl x1, .inl a1, .inl a2]) (st' := []) (pc' := 12) (loc' := [some (.inr (.inr (30, 7, 0))), some (.inl a1), some (.inl a2), some (.inl a3), none]) (h' := h) 3 (fun _ _ => rfl) (eMo_asksSlot (by omega) hx4) ?_
  refine q_br (P := ¬ x3.1 = 0) (pcT := 17) (pcF := 15) (loc' := [some (.inr (.inr (30, 7, 0))), some (.inl a1), some (.inl a2), some (.inl a3), none]) (stk' := []) (h' := x3.2) 1 (fun _ _ => rfl) (fun c19 => ?_) (fun c19 => ?_)
  · rw [if_pos c19] at HF
    refine q_br (P := ¬ a3 = 0) (pcT := 39) (pcF := 29) (loc' := [some (.inr (.inr (30, 7, 0))), some (.inl a1), some (.inl a2), some (.inl a3), some (.inl (((10 : Int32) * a1) + a2))]) (stk' := []) (h' := x3.2) 8 (fun _ _ => rfl) (fun c18 => ?_) (fun c18 => ?_)
    · rw [if_pos c18] at HF
      refine q_br (P := ¬ a3 = (1 : Int32)) (pcT := 69) (pcF := 44) (loc' := [some (.inr (.inr (30, 7, 0))), some (.inl a1), some (.inl a2), some (.inl a3), some (.inl (((10 : Int32) * a1) + a2))]) (stk' := []) (h' := x3.2) 3 (fun _ _ => rfl) (fun c15 => ?_) (fun c15 => ?_)
      · rw [if_pos c15] at HF
        refine q_br (P := ¬ a3 = (2 : Int32)) (pcT := 83) (pcF := 74) (loc' := [some (.inr (.inr (30, 7, 0))), some (.inl a1), some (.inl a2), some (.inl a3), some (.inl (((10 : Int32) * a1) + a2))]) (stk' := []) (h' := x3.2) 3 (fun _ _ => rfl) (fun c9 => ?_) (fun c9 => ?_)
        · rw [if_pos c9] at HF
          obtain ⟨x5, hx6, HF⟩ := q_bind HF
          refine q_cll (m' := 211) (av := [.inr (.inr (30, 7, 0)), .inl (((10 : Int32) * a1) + a2)]) (st' := []) (pc' := 89) (loc' := [some (.inr (.inr (30, 7, 0))), some (.inl a1), some (.inl a2), some (.inl a3), some (.inl (((10 : Int32) * a1) + a2))]) (h' := x3.2) 3 (fun _ _ => rfl) (eMo_chainMany (by omega) hx6) ?_
          have hz := Option.some.inj HF
          subst hz
          exact q_rtn 1 (fun _ _ => rfl)
        · rw [if_neg c9] at HF
          obtain ⟨x7, hx8, HF⟩ := q_bind HF
          refine q_cll (m' := 219) (av := [.inr (.inr (30, 7, 0)), .inl (((10 : Int32) * a1) + a2)]) (st' := []) (pc' := 80) (loc' := [some (.inr (.inr (30, 7, 0))), some (.inl a1), some (.inl a2), some (.inl a3), some (.inl (((10 : Int32) * a1) + a2))]) (h' := x3.2) 3 (fun _ _ => rfl) (eMo_entriesTo (by omega) hx8) ?_
          have hz := Option.some.inj HF
          subst hz
          exact q_rtn 2 (fun _ _ => rfl)
      · rw [if_neg c15] at HF
        obtain ⟨x10, hx11, HF⟩ := q_bind HF
        refine q_cll (m' := 187) (av := [.inr (.inr (30, 7, 0)), .inl (((10 : Int32) * a1) + a2), .inl (0 : Int32)]) (st' := []) (pc' := 51) (loc' := [some (.inr (.inr (30, 7, 0))), some (.inl a1), some (.inl a2), some (.inl a3), some (.inl (((10 : Int32) * a1) + a2))]) (h' := x3.2) 4 (fun _ _ => rfl) (eMo_of (by omega) hx11) ?_
        refine q_br (P := ¬ x10 = (2 : Int32)) (pcT := 65) (pcF := 55) (loc' := [some (.inr (.inr (30, 7, 0))), some (.inl a1), some (.inl a2), some (.inl a3), some (.inl (((10 : Int32) * a1) + a2))]) (stk' := []) (h' := x3.2) 2 (fun _ _ => rfl) (fun c14 => ?_) (fun c14 => ?_)
        · rw [if_pos c14] at HF
          have hz := Option.some.inj HF
          subst hz
          exact q_rtn 3 (fun _ _ => rfl)
        · rw [if_neg c14] at HF
          obtain ⟨x12, hx13, HF⟩ := q_bind HF
          refine q_cll (m' := 187) (av := [.inr (.inr (30, 7, 0)), .inl (((10 : Int32) * a1) + a2), .inl (1 : Int32)]) (st' := []) (pc' := 62) (loc' := [some (.inr (.inr (30, 7, 0))), some (.inl a1), some (.inl a2), some (.inl a3), some (.inl (((10 : Int32) * a1) + a2))]) (h' := x3.2) 4 (fun _ _ => rfl) (eMo_of (by omega) hx13) ?_
          have hz := Option.some.inj HF
          subst hz
          exact q_rtn 2 (fun _ _ => rfl)
    · rw [if_neg c18] at HF
      obtain ⟨x16, hx17, HF⟩ := q_bind HF
      refine q_cll (m' := 187) (av := [.inr (.inr (30, 7, 0)), .inl (((10 : Int32) * a1) + a2), .inl (0 : Int32)]) (st' := []) (pc' := 36) (loc' := [some (.inr (.inr (30, 7, 0))), some (.inl a1), some (.inl a2), some (.inl a3), some (.inl (((10 : Int32) * a1) + a2))]) (h' := x3.2) 4 (fun _ _ => rfl) (eMo_of (by omega) hx17) ?_
      have hz := Option.some.inj HF
      subst hz
      exact q_rtn 2 (fun _ _ => rfl)
  · rw [if_neg c19] at HF
    have hz := Option.some.inj HF
    subst hz
    exact q_rtn 2 (fun _ _ => rfl)
def Mo_version (a1 : Int32) (a2 : Int32) (a3 : Int32) (h : q_H) : Option (Int32 × q_H) :=
  (Mo_isIn a3 (0 : Int32) (11 : Int32) h).bind fun x1 => (Mo_asksSlot x1 a1 a2 h).bind fun x3 => if ¬ x3.1 = 0 then ((Mo_isFull (((10 : Int32) * a1) + a2) x3.2).bind fun x5 => if ¬ x5 = 0 then (if (10 : Int32) ≤ a3 then (if ¬ a3 = (10 : Int32) then ((Mo_isDying (((10 : Int32) * a1) + a2) x3.2).bind fun x7 => if x7 = 0 then (some (((0 : Int32), x3.2))) else (some (((1 : Int32), x3.2)))) else ((Mo_horizon x3.2).bind fun x10 => (Mo_isDead (((10 : Int32) * a1) + a2) x10 x3.2).bind fun x12 => if x12 = 0 then (some (((0 : Int32), x3.2))) else (some (((1 : Int32), x3.2))))) else ((Mo_of (((10 : Int32) * a1) + a2) ((2 : Int32) + a3) x3.2).bind fun x16 => some ((x16, x3.2)))) else ((Mo_refuse (5 : Int32) x3.2).bind fun x19 => some ((x19.1, x19.2)))) else (some (((-1 : Int32), x3.2)))
set_option maxRecDepth 100000 in
set_option maxHeartbeats 4000000 in
theorem eMo_version {d : Nat} (hd : 6 ≤ d) {a1 : Int32} {a2 : Int32} {a3 : Int32} {h : q_H} {r : (Int32 × q_H)} (HF : Mo_version a1 a2 a3 h = some r) : q_T d 271 [.inr (.inr (30, 7, 0)), .inl a1, .inl a2, .inl a3] h (some (.inl r.1), r.2) := by
  obtain ⟨d, rfl⟩ : ∃ d', d = d' + 1 := ⟨d - 1, by omega⟩
  refine q_ent q_K271 rfl rfl rfl ?_
  unfold Mo_version at HF
  obtain ⟨x1, hx2, HF⟩ := q_bind HF
  refine q_cll (m' := 184) (av := [.inl a3, .inl (0 : Int32), .inl (11 : Int32)]) (st' := [.inr (.inr (30, 7, 0))]) (pc' := 8) (loc' := [some (.inr (.inr (30, 7, 0))), some (.inl a1), some (.inl a2), some (.inl a3), none]) (h' := h) 5 (fun _ _ => rfl) (eMo_isIn (by omega) hx2) ?_
  obtain ⟨x3, hx4, HF⟩ := q_bind HF
  refine q_cll (m' := 269) (av := [.inr (.inr (30, 7, 0)), .inl x1, .inl a1, .inl a2]) (st' := []) (pc' := 13) (loc' := [some (.inr (.inr (30, 7, 0))), some (.inl a1), some (.inl a2), some (.inl a3), none]) (h' := h) 3 (fun _ _ => rfl) (eMo_asksSlot (by omega) hx4) ?_
  refine q_br (P := ¬ x3.1 = 0) (pcT := 18) (pcF := 16) (loc' := [some (.inr (.inr (30, 7, 0))), some (.inl a1), some (.inl a2), some (.inl a3), none]) (stk' := []) (h' := x3.2) 1 (fun _ _ => rfl) (fun c22 => ?_) (fun c22 => ?_)
  · rw [if_pos c22] at HF
    obtain ⟨x5, hx6, HF⟩ := q_bind HF
    refine q_cll (m' := 189) (av := [.inr (.inr (30, 7, 0)), .inl (((10 : Int32) * a1) + a2)]) (st' := []) (pc' := 32) (loc' := [some (.inr (.inr (30, 7, 0))), some (.inl a1), some (.inl a2), some (.inl a3), some (.inl (((10 : Int32) * a1) + a2))]) (h' := x3.2) 9 (fun _ _ => rfl) (eMo_isFull (by omega) hx6) ?_
    refine q_br (P := ¬ x5 = 0) (pcT := 41) (pcF := 35) (loc' := [some (.inr (.inr (30, 7, 0))), some (.inl a1), some (.inl a2), some (.inl a3), some (.inl (((10 : Int32) * a1) + a2))]) (stk' := []) (h' := x3.2) 1 (fun _ _ => rfl) (fun c21 => ?_) (fun c21 => ?_)
    · rw [if_pos c21] at HF
      refine q_br (P := (10 : Int32) ≤ a3) (pcT := 57) (pcF := 47) (loc' := [some (.inr (.inr (30, 7, 0))), some (.inl a1), some (.inl a2), some (.inl a3), some (.inl (((10 : Int32) * a1) + a2))]) (stk' := []) (h' := x3.2) 3 (fun _ _ => rfl) (fun c18 => ?_) (fun c18 => ?_)
      · rw [if_pos c18] at HF
        refine q_br (P := ¬ a3 = (10 : Int32)) (pcT := 79) (pcF := 63) (loc' := [some (.inr (.inr (30, 7, 0))), some (.inl a1), some (.inl a2), some (.inl a3), some (.inl (((10 : Int32) * a1) + a2))]) (stk' := []) (h' := x3.2) 3 (fun _ _ => rfl) (fun c15 => ?_) (fun c15 => ?_)
        · rw [if_pos c15] at HF
          obtain ⟨x7, hx8, HF⟩ := q_bind HF
          refine q_cll (m' := 208) (av := [.inr (.inr (30, 7, 0)), .inl (((10 : Int32) * a1) + a2)]) (st' := []) (pc' := 85) (loc' := [some (.inr (.inr (30, 7, 0))), some (.inl a1), some (.inl a2), some (.inl a3), some (.inl (((10 : Int32) * a1) + a2))]) (h' := x3.2) 3 (fun _ _ => rfl) (eMo_isDying (by omega) hx8) ?_
          refine q_br (P := x7 = 0) (pcT := 92) (pcF := 88) (loc' := [some (.inr (.inr (30, 7, 0))), some (.inl a1), some (.inl a2), some (.inl a3), some (.inl (((10 : Int32) * a1) + a2))]) (stk' := []) (h' := x3.2) 1 (fun _ _ => rfl) (fun c9 => ?_) (fun c9 => ?_)
          · rw [if_pos c9] at HF
            have hz := Option.some.inj HF
            subst hz
            exact q_rtn 2 (fun _ _ => rfl)
          · rw [if_neg c9] at HF
            have hz := Option.some.inj HF
            subst hz
            exact q_rtn 3 (fun _ _ => rfl)
        · rw [if_neg c15] at HF
          obtain ⟨x10, hx11, HF⟩ := q_bind HF
          refine q_cll (m' := 205) (av := [.inr (.inr (30, 7, 0))]) (st' := [.inl (((10 : Int32) * a1) + a2), .inr (.inr (30, 7, 0))]) (pc' := 70) (loc' := [some (.inr (.inr (30, 7, 0))), some (.inl a1), some (.inl a2), some (.inl a3), some (.inl (((10 : Int32) * a1) + a2))]) (h' := x3.2) 4 (fun _ _ => rfl) (eMo_horizon (by omega) hx11) ?_
          obtain ⟨x12, hx13, HF⟩ := q_bind HF
          refine q_cll (m' := 207) (av := [.inr (.inr (30, 7, 0)), .inl (((10 : Int32) * a1) + a2), .inl x10]) (st' := []) (pc' := 73) (loc' := [some (.inr (.inr (30, 7, 0))), some (.inl a1), some (.inl a2), some (.inl a3), some (.inl (((10 : Int32) * a1) + a2))]) (h' := x3.2) 1 (fun _ _ => rfl) (eMo_isDead (by omega) hx13) ?_
          refine q_br (P := x12 = 0) (pcT := 92) (pcF := 76) (loc' := [some (.inr (.inr (30, 7, 0))), some (.inl a1), some (.inl a2), some (.inl a3), some (.inl (((10 : Int32) * a1) + a2))]) (stk' := []) (h' := x3.2) 1 (fun _ _ => rfl) (fun c14 => ?_) (fun c14 => ?_)
          · rw [if_pos c14] at HF
            have hz := Option.some.inj HF
            subst hz
            exact q_rtn 2 (fun _ _ => rfl)
          · rw [if_neg c14] at HF
            have hz := Option.some.inj HF
            subst hz
            exact q_rtn 4 (fun _ _ => rfl)
      · rw [if_neg c18] at HF
        obtain ⟨x16, hx17, HF⟩ := q_bind HF
        refine q_cll (m' := 187) (av := [.inr (.inr (30, 7, 0)), .inl (((10 : Int32) * a1) + a2), .inl ((2 : Int32) + a3)]) (st' := []) (pc' := 56) (loc' := [some (.inr (.inr (30, 7, 0))), some (.inl a1), some (.inl a2), some (.inl a3), some (.inl (((10 : Int32) * a1) + a2))]) (h' := x3.2) 6 (fun _ _ => rfl) (eMo_of (by omega) hx17) ?_
        have hz := Option.some.inj HF
        subst hz
        exact q_rtn 1 (fun _ _ => rfl)
    · rw [if_neg c21] at HF
      obtain ⟨x19, hx20, HF⟩ := q_bind HF
      refine q_cll (m' := 182) (av := [.inr (.inr (30, 7, 0)), .inl (5 : Int32)]) (st' := []) (pc' := 40) (loc' := [some (.inr (.inr (30, 7, 0))), some (.inl a1), some (.inl a2), some (.inl a3), some (.inl (((10 : Int32) * a1) + a2))]) (h' := x3.2) 3 (fun _ _ => rfl) (eMo_refuse (by omega) hx20) ?_
      have hz := Option.some.inj HF
      subst hz
      exact q_rtn 1 (fun _ _ => rfl)
  · rw [if_neg c22] at HF
    have hz := Option.some.inj HF
    subst hz
    exact q_rtn 2 (fun _ _ => rfl)
def Mo_commit (a1 : Int32) (h : q_H) : Option (Int32 × q_H) :=
  (Mo_is (0 : Int32) h).bind fun x1 => (Mo_closeNow a1 (1 : Int32) x1.2).bind fun x3 => some ((x3.1, x3.2))
set_option maxRecDepth 100000 in
set_option maxHeartbeats 4000000 in
theorem eMo_commit {d : Nat} (hd : 6 ≤ d) {a1 : Int32} {h : q_H} {r : (Int32 × q_H)} (HF : Mo_commit a1 h = some r) : q_T d 282 [.inr (.inr (30, 7, 0)), .inl a1] h (some (.inl r.1), r.2) := by
  obtain ⟨d, rfl⟩ : ∃ d', d = d' + 1 := ⟨d - 1, by omega⟩
  refine q_ent q_K282 rfl rfl rfl ?_
  unfold Mo_commit at HF
  obtain ⟨x1, hx2, HF⟩ := q_bind HF
  refine q_cll (m' := 183) (av := [.inr (.inr (30, 7, 0)), .inl (0 : Int32)]) (st' := []) (pc' := 5) (loc' := [some (.inr (.inr (30, 7, 0))), some (.inl a1)]) (h' := h) 3 (fun _ _ => rfl) (eMo_is (by omega) hx2) ?_
  obtain ⟨x3, hx4, HF⟩ := q_bind HF
  refine q_cll (m' := 237) (av := [.inr (.inr (30, 7, 0)), .inl a1, .inl (1 : Int32)]) (st' := []) (pc' := 12) (loc' := [some (.inr (.inr (30, 7, 0))), some (.inl a1)]) (h' := x1.2) 5 (fun _ _ => rfl) (eMo_closeNow (by omega) hx4) ?_
  have hz := Option.some.inj HF
  subst hz
  exact q_rtn 1 (fun _ _ => rfl)
def Mo_abort (a1 : Int32) (h : q_H) : Option (Int32 × q_H) :=
  (Mo_is (0 : Int32) h).bind fun x1 => (Mo_closeNow a1 (2 : Int32) x1.2).bind fun x3 => some ((x3.1, x3.2))
set_option maxRecDepth 100000 in
set_option maxHeartbeats 4000000 in
theorem eMo_abort {d : Nat} (hd : 6 ≤ d) {a1 : Int32} {h : q_H} {r : (Int32 × q_H)} (HF : Mo_abort a1 h = some r) : q_T d 283 [.inr (.inr (30, 7, 0)), .inl a1] h (some (.inl r.1), r.2) := by
  obtain ⟨d, rfl⟩ : ∃ d', d = d' + 1 := ⟨d - 1, by omega⟩
  refine q_ent q_K283 rfl rfl rfl ?_
  unfold Mo_abort at HF
  obtain ⟨x1, hx2, HF⟩ := q_bind HF
  refine q_cll (m' := 183) (av := [.inr (.inr (30, 7, 0)), .inl (0 : Int32)]) (st' := []) (pc' := 5) (loc' := [some (.inr (.inr (30, 7, 0))), some (.inl a1)]) (h' := h) 3 (fun _ _ => rfl) (eMo_is (by omega) hx2) ?_
  obtain ⟨x3, hx4, HF⟩ := q_bind HF
  refine q_cll (m' := 237) (av := [.inr (.inr (30, 7, 0)), .inl a1, .inl (2 : Int32)]) (st' := []) (pc' := 12) (loc' := [some (.inr (.inr (30, 7, 0))), some (.inl a1)]) (h' := x1.2) 5 (fun _ _ => rfl) (eMo_closeNow (by omega) hx4) ?_
  have hz := Option.some.inj HF
  subst hz
  exact q_rtn 1 (fun _ _ => rfl)
def Mo_await (a1 : Int32) (a2 : Int32) (h : q_H) : Option (Int32 × q_H) :=
  (Mo_enderFor a1 a2 h).bind fun x1 => if 0 ≤ x1.1 then ((Mo_ringOf a1 x1.1 x1.2).bind fun x3 => if x3 ≤ 0 then (bif q_in ((1583 : Int32) + a1) 1644 then (some ((x1.1, (q_si x1.2 31 0 7 ((1583 : Int32) + a1).toNatClampNeg x1.1)))) else none) else ((Mo_refuse (12 : Int32) x1.2).bind fun x6 => some ((x6.1, x6.2)))) else (some (((-1 : Int32), x1.2)))
set_option maxRecDepth 100000 in
set_option maxHeartbeats 4000000 in
theorem eMo_await {d : Nat} (hd : 6 ≤ d) {a1 : Int32} {a2 : Int32} {h : q_H} {r : (Int32 × q_H)} (HF : Mo_await a1 a2 h = some r) : q_T d 299 [.inr (.inr (30, 7, 0)), .inl a1, .inl a2] h (some (.inl r.1), r.2) := by
  obtain ⟨d, rfl⟩ : ∃ d', d = d' + 1 := ⟨d - 1, by omega⟩
  refine q_ent q_K299 rfl rfl rfl ?_
  unfold Mo_await at HF
  obtain ⟨x1, hx2, HF⟩ := q_bind HF
  refine q_cll (m' := 297) (av := [.inr (.inr (30, 7, 0)), .inl a1, .inl a2]) (st' := []) (pc' := 6) (loc' := [some (.inr (.inr (30, 7, 0))), some (.inl a1), some (.inl a2), none]) (h' := h) 4 (fun _ _ => rfl) (eMo_enderFor (by omega) hx2) ?_
  refine q_br (P := 0 ≤ x1.1) (pcT := 13) (pcF := 11) (loc' := [some (.inr (.inr (30, 7, 0))), some (.inl a1), some (.inl a2), some (.inl x1.1)]) (stk' := []) (h' := x1.2) 3 (fun _ _ => rfl) (fun c9 => ?_) (fun c9 => ?_)
  · rw [if_pos c9] at HF
    obtain ⟨x3, hx4, HF⟩ := q_bind HF
    refine q_cll (m' := 298) (av := [.inr (.inr (30, 7, 0)), .inl a1, .inl x1.1]) (st' := []) (pc' := 19) (loc' := [some (.inr (.inr (30, 7, 0))), some (.inl a1), some (.inl a2), some (.inl x1.1)]) (h' := x1.2) 4 (fun _ _ => rfl) (eMo_ringOf (by omega) hx4) ?_
    refine q_br (P := x3 ≤ 0) (pcT := 29) (pcF := 22) (loc' := [some (.inr (.inr (30, 7, 0))), some (.inl a1), some (.inl a2), some (.inl x1.1)]) (stk' := []) (h' := x1.2) 1 (fun _ _ => rfl) (fun c8 => ?_) (fun c8 => ?_)
    · rw [if_pos c8] at HF
      obtain ⟨g5, HF⟩ := q_gF HF
      refine q_gd (pc' := 40) (loc' := [some (.inr (.inr (30, 7, 0))), some (.inl a1), some (.inl a2), some (.inl x1.1)]) (stk' := []) (h' := (q_si x1.2 31 0 7 ((1583 : Int32) + a1).toNatClampNeg x1.1)) 7 (fun _ _ => rfl) g5 ?_
      have hz := Option.some.inj HF
      subst hz
      exact q_rtn 2 (fun _ _ => rfl)
    · rw [if_neg c8] at HF
      obtain ⟨x6, hx7, HF⟩ := q_bind HF
      refine q_cll (m' := 182) (av := [.inr (.inr (30, 7, 0)), .inl (12 : Int32)]) (st' := []) (pc' := 28) (loc' := [some (.inr (.inr (30, 7, 0))), some (.inl a1), some (.inl a2), some (.inl x1.1)]) (h' := x1.2) 3 (fun _ _ => rfl) (eMo_refuse (by omega) hx7) ?_
      have hz := Option.some.inj HF
      subst hz
      exact q_rtn 1 (fun _ _ => rfl)
  · rw [if_neg c9] at HF
    have hz := Option.some.inj HF
    subst hz
    exact q_rtn 2 (fun _ _ => rfl)
def Mo_ring (a1 : Int32) (a2 : Int32) (h : q_H) : Option (Int32 × q_H) :=
  (Mo_enderFor a1 a2 h).bind fun x1 => if 0 ≤ x1.1 then ((Mo_ringOf a1 x1.1 x1.2).bind fun x3 => some ((x3, x1.2))) else (some (((-1 : Int32), x1.2)))
set_option maxRecDepth 100000 in
set_option maxHeartbeats 4000000 in
theorem eMo_ring {d : Nat} (hd : 6 ≤ d) {a1 : Int32} {a2 : Int32} {h : q_H} {r : (Int32 × q_H)} (HF : Mo_ring a1 a2 h = some r) : q_T d 300 [.inr (.inr (30, 7, 0)), .inl a1, .inl a2] h (some (.inl r.1), r.2) := by
  obtain ⟨d, rfl⟩ : ∃ d', d = d' + 1 := ⟨d - 1, by omega⟩
  refine q_ent q_K300 rfl rfl rfl ?_
  unfold Mo_ring at HF
  obtain ⟨x1, hx2, HF⟩ := q_bind HF
  refine q_cll (m' := 297) (av := [.inr (.inr (30, 7, 0)), .inl a1, .inl a2]) (st' := []) (pc' := 6) (loc' := [some (.inr (.inr (30, 7, 0))), some (.inl a1), some (.inl a2), none]) (h' := h) 4 (fun _ _ => rfl) (eMo_enderFor (by omega) hx2) ?_
  refine q_br (P := 0 ≤ x1.1) (pcT := 15) (pcF := 11) (loc' := [some (.inr (.inr (30, 7, 0))), some (.inl a1), some (.inl a2), some (.inl x1.1)]) (stk' := []) (h' := x1.2) 3 (fun _ _ => rfl) (fun c5 => ?_) (fun c5 => ?_)
  · rw [if_pos c5] at HF
    obtain ⟨x3, hx4, HF⟩ := q_bind HF
    refine q_cll (m' := 298) (av := [.inr (.inr (30, 7, 0)), .inl a1, .inl x1.1]) (st' := []) (pc' := 21) (loc' := [some (.inr (.inr (30, 7, 0))), some (.inl a1), some (.inl a2), some (.inl x1.1)]) (h' := x1.2) 4 (fun _ _ => rfl) (eMo_ringOf (by omega) hx4) ?_
    have hz := Option.some.inj HF
    subst hz
    exact q_rtn 1 (fun _ _ => rfl)
  · rw [if_neg c5] at HF
    have hz := Option.some.inj HF
    subst hz
    exact q_rtn 3 (fun _ _ => rfl)
def Mo_holds (a1 : Int32) (h : q_H) : Option (Int32 × q_H) :=
  (Mo_asksOpen a1 h).bind fun x1 => if ¬ x1.1 = 0 then ((Mo_allDead x1.2).bind fun x3 => bif q_in ((1052 : Int32) + ((3 : Int32) * a1)) 1644 then ((Mo_allDead (q_si x1.2 31 0 7 ((1052 : Int32) + ((3 : Int32) * a1)).toNatClampNeg (1 : Int32))).bind fun x5 => bif q_in ((1052 : Int32) + ((3 : Int32) * a1)) 1644 then (some (((x5 - x3), (q_si (q_si x1.2 31 0 7 ((1052 : Int32) + ((3 : Int32) * a1)).toNatClampNeg (1 : Int32)) 31 0 7 ((1052 : Int32) + ((3 : Int32) * a1)).toNatClampNeg (0 : Int32))))) else none) else none) else (some (((-1 : Int32), x1.2)))
set_option maxRecDepth 100000 in
set_option maxHeartbeats 4000000 in
theorem eMo_holds {d : Nat} (hd : 6 ≤ d) {a1 : Int32} {h : q_H} {r : (Int32 × q_H)} (HF : Mo_holds a1 h = some r) : q_T d 304 [.inr (.inr (30, 7, 0)), .inl a1] h (some (.inl r.1), r.2) := by
  obtain ⟨d, rfl⟩ : ∃ d', d = d' + 1 := ⟨d - 1, by omega⟩
  refine q_ent q_K304 rfl rfl rfl ?_
  unfold Mo_holds at HF
  obtain ⟨x1, hx2, HF⟩ := q_bind HF
  refine q_cll (m' := 295) (av := [.inr (.inr (30, 7, 0)), .inl a1]) (st' := []) (pc' := 5) (loc' := [some (.inr (.inr (30, 7, 0))), some (.inl a1), none, none]) (h' := h) 3 (fun _ _ => rfl) (eMo_asksOpen (by omega) hx2) ?_
  refine q_br (P := ¬ x1.1 = 0) (pcT := 10) (pcF := 8) (loc' := [some (.inr (.inr (30, 7, 0))), some (.inl a1), none, none]) (stk' := []) (h' := x1.2) 1 (fun _ _ => rfl) (fun c9 => ?_) (fun c9 => ?_)
  · rw [if_pos c9] at HF
    obtain ⟨x3, hx4, HF⟩ := q_bind HF
    refine q_cll (m' := 303) (av := [.inr (.inr (30, 7, 0))]) (st' := []) (pc' := 14) (loc' := [some (.inr (.inr (30, 7, 0))), some (.inl a1), none, none]) (h' := x1.2) 2 (fun _ _ => rfl) (eMo_allDead (by omega) hx4) ?_
    obtain ⟨g8, HF⟩ := q_gF HF
    refine q_gd (pc' := 28) (loc' := [some (.inr (.inr (30, 7, 0))), some (.inl a1), some (.inl x3), none]) (stk' := []) (h' := (q_si x1.2 31 0 7 ((1052 : Int32) + ((3 : Int32) * a1)).toNatClampNeg (1 : Int32))) 10 (fun _ _ => rfl) g8 ?_
    obtain ⟨x5, hx6, HF⟩ := q_bind HF
    refine q_cll (m' := 303) (av := [.inr (.inr (30, 7, 0))]) (st' := []) (pc' := 32) (loc' := [some (.inr (.inr (30, 7, 0))), some (.inl a1), some (.inl x3), none]) (h' := (q_si x1.2 31 0 7 ((1052 : Int32) + ((3 : Int32) * a1)).toNatClampNeg (1 : Int32))) 2 (fun _ _ => rfl) (eMo_allDead (by omega) hx6) ?_
    obtain ⟨g7, HF⟩ := q_gF HF
    refine q_gd (pc' := 46) (loc' := [some (.inr (.inr (30, 7, 0))), some (.inl a1), some (.inl x3), some (.inl x5)]) (stk' := []) (h' := (q_si (q_si x1.2 31 0 7 ((1052 : Int32) + ((3 : Int32) * a1)).toNatClampNeg (1 : Int32)) 31 0 7 ((1052 : Int32) + ((3 : Int32) * a1)).toNatClampNeg (0 : Int32))) 10 (fun _ _ => rfl) g7 ?_
    have hz := Option.some.inj HF
    subst hz
    exact q_rtn 4 (fun _ _ => rfl)
  · rw [if_neg c9] at HF
    have hz := Option.some.inj HF
    subst hz
    exact q_rtn 2 (fun _ _ => rfl)
def Rp_perform  (h : q_H) : Option q_H :=
  (Tx_told (0 : Int32) h).bind fun x1 => (Tx_told (1 : Int32) h).bind fun x3 => (Tx_told (2 : Int32) h).bind fun x5 => (Tx_told (3 : Int32) h).bind fun x7 => Option.bind (α := q_H) (if ((q_si h 24 6 6 0 (0 : Int32)).1 25 7 6 0) = 0 then (some ((q_si (q_si h 24 6 6 0 (0 : Int32)) 1 4 0 0 x1))) else (if ((q_si h 24 6 6 0 (0 : Int32)).1 25 7 6 0) = 1 then (some ((q_si (q_si h 24 6 6 0 (0 : Int32)) 0 5 0 0 x1))) else (if ((q_si h 24 6 6 0 (0 : Int32)).1 25 7 6 0) = 2 then (some ((q_si (q_si h 24 6 6 0 (0 : Int32)) 0 6 0 0 x1))) else (if ((q_si h 24 6 6 0 (0 : Int32)).1 25 7 6 0) = 3 then ((Rp_addFirstRow x1 x3 x5 (q_si h 24 6 6 0 (0 : Int32))).bind fun x13 => some (x13)) else (if ((q_si h 24 6 6 0 (0 : Int32)).1 25 7 6 0) = 4 then ((Rp_begin (q_si h 24 6 6 0 (0 : Int32))).bind fun x15 => some (x15.2)) else (if ((q_si h 24 6 6 0 (0 : Int32)).1 25 7 6 0) = 5 then ((Rp_insert x1 x3 x5 x7 (q_si h 24 6 6 0 (0 : Int32))).bind fun x17 => some (x17.2)) else (if ((q_si h 24 6 6 0 (0 : Int32)).1 25 7 6 0) = 6 then ((Tx_told (4 : Int32) (q_si h 24 6 6 0 (0 : Int32))).bind fun x19 => (Rp_update x1 x3 x5 x7 x19 (q_si h 24 6 6 0 (0 : Int32))).bind fun x21 => some (x21.2)) else (if ((q_si h 24 6 6 0 (0 : Int32)).1 25 7 6 0) = 7 then ((Rp_delete x1 x3 (q_si h 24 6 6 0 (0 : Int32))).bind fun x23 => some (x23.2)) else (if ((q_si h 24 6 6 0 (0 : Int32)).1 25 7 6 0) = 8 then ((Rp_commit x1 (q_si h 24 6 6 0 (0 : Int32))).bind fun x25 => some (x25.2)) else (if ((q_si h 24 6 6 0 (0 : Int32)).1 25 7 6 0) = 9 then ((Rp_abort x1 (q_si h 24 6 6 0 (0 : Int32))).bind fun x27 => some (x27.2)) else (if ((q_si h 24 6 6 0 (0 : Int32)).1 25 7 6 0) = 10 then ((Rp_prune x1 (q_si h 24 6 6 0 (0 : Int32))).bind fun x29 => some (x29.2)) else (if ((q_si h 24 6 6 0 (0 : Int32)).1 25 7 6 0) = 11 then ((Rp_vacuum (q_si h 24 6 6 0 (0 : Int32))).bind fun x31 => some (x31.2)) else (if ((q_si h 24 6 6 0 (0 : Int32)).1 25 7 6 0) = 12 then ((Rp_look x1 x3 (q_si h 24 6 6 0 (0 : Int32))).bind fun x33 => some (x33.2)) else (if ((q_si h 24 6 6 0 (0 : Int32)).1 25 7 6 0) = 13 then ((Rp_repack (q_si h 24 6 6 0 (0 : Int32))).bind fun x35 => some (x35.2)) else (some ((q_si h 24 6 6 0 (0 : Int32)))))))))))))))))) (fun p51 => if (p51.1 24 6 6 0) = 0 then (some (p51)) else (if ¬ (p51.1 25 7 6 0) = (3 : Int32) then ((Tx_blame (7 : Int32) (p51.1 25 8 6 0) p51).bind fun x52 => some (x52)) else ((Tx_blame (6 : Int32) (p51.1 25 8 6 0) p51).bind fun x54 => some (x54))))
set_option maxRecDepth 100000 in
set_option maxHeartbeats 4000000 in
theorem eRp_perform {d : Nat} (hd : 7 ≤ d)  {h : q_H} {r : q_H} (HF : Rp_perform  h = some r) : q_T d 53 [.inr (.inr (24, 6, 0))] h (none, r) := by
  obtain ⟨d, rfl⟩ : ∃ d', d = d' + 1 := ⟨d - 1, by omega⟩
  refine q_ent q_K53 rfl rfl rfl ?_
  unfold Rp_perform at HF
  obtain ⟨x1, hx2, HF⟩ := q_bind HF
  refine q_cll (m' := 126) (av := [.inr (.inr (25, 6, 0)), .inl (0 : Int32)]) (st' := []) (pc' := 8) (loc' := [some (.inr (.inr (24, 6, 0))), none, none, none, none]) (h' := h) 4 (fun _ _ => rfl) (eTx_told (by omega) hx2) ?_
  obtain ⟨x3, hx4, HF⟩ := q_bind HF
  refine q_cll (m' := 126) (av := [.inr (.inr (25, 6, 0)), .inl (1 : Int32)]) (st' := []) (pc' := 17) (loc' := [some (.inr (.inr (24, 6, 0))), some (.inl x1), none, none, none]) (h' := h) 5 (fun _ _ => rfl) (eTx_told (by omega) hx4) ?_
  obtain ⟨x5, hx6, HF⟩ := q_bind HF
  refine q_cll (m' := 126) (av := [.inr (.inr (25, 6, 0)), .inl (2 : Int32)]) (st' := []) (pc' := 26) (loc' := [some (.inr (.inr (24, 6, 0))), some (.inl x1), some (.inl x3), none, none]) (h' := h) 5 (fun _ _ => rfl) (eTx_told (by omega) hx6) ?_
  obtain ⟨x7, hx8, HF⟩ := q_bind HF
  refine q_cll (m' := 126) (av := [.inr (.inr (25, 6, 0)), .inl (3 : Int32)]) (st' := []) (pc' := 35) (loc' := [some (.inr (.inr (24, 6, 0))), some (.inl x1), some (.inl x3), some (.inl x5), none]) (h' := h) 5 (fun _ _ => rfl) (eTx_told (by omega) hx8) ?_
  obtain ⟨z9, HA10, HK11⟩ := q_bind HF
  have hP12 : ∀ p51 : q_H, (if (p51.1 24 6 6 0) = 0 then (some (p51)) else (if ¬ (p51.1 25 7 6 0) = (3 : Int32) then ((Tx_blame (7 : Int32) (p51.1 25 8 6 0) p51).bind fun x52 => some (x52)) else ((Tx_blame (6 : Int32) (p51.1 25 8 6 0) p51).bind fun x54 => some (x54))) : Option q_H) = some r → q_E d q_K53 271 [some (.inr (.inr (24, 6, 0))), some (.inl x1), some (.inl x3), some (.inl x5), some (.inl x7)] [] p51 (none, r) := by
    intro p51 HF
    refine q_br (P := (p51.1 24 6 6 0) = 0) (pcT := 310) (pcF := 278) (loc' := [some (.inr (.inr (24, 6, 0))), some (.inl x1), some (.inl x3), some (.inl x5), some (.inl x7)]) (stk' := []) (h' := p51) 3 (fun _ _ => rfl) (fun c57 => ?_) (fun c57 => ?_)
    · rw [if_pos c57] at HF
      have hz := Option.some.inj HF
      subst hz
      exact q_rtn 1 (fun _ _ => rfl)
    · rw [if_neg c57] at HF
      refine q_br (P := ¬ (p51.1 25 7 6 0) = (3 : Int32)) (pcT := 298) (pcF := 293) (loc' := [some (.inr (.inr (24, 6, 0))), some (.inl x1), some (.inl x3), some (.inl x5), some (.inl x7)]) (stk' := [.inr (.inr (25, 6, 0))]) (h' := p51) 7 (fun _ _ => rfl) (fun c56 => ?_) (fun c56 => ?_)
      · rw [if_pos c56] at HF
        obtain ⟨x52, hx53, HF⟩ := q_bind HF
        refine q_cll (m' := 125) (av := [.inr (.inr (25, 6, 0)), .inl (7 : Int32), .inl (p51.1 25 8 6 0)]) (st' := []) (pc' := 310) (loc' := [some (.inr (.inr (24, 6, 0))), some (.inl x1), some (.inl x3), some (.inl x5), some (.inl x7)]) (h' := p51) 5 (fun _ _ => rfl) (eTx_blame (by omega) hx53) ?_
        have hz := Option.some.inj HF
        subst hz
        exact q_rtn 1 (fun _ _ => rfl)
      · rw [if_neg c56] at HF
        obtain ⟨x54, hx55, HF⟩ := q_bind HF
        refine q_cll (m' := 125) (av := [.inr (.inr (25, 6, 0)), .inl (6 : Int32), .inl (p51.1 25 8 6 0)]) (st' := []) (pc' := 310) (loc' := [some (.inr (.inr (24, 6, 0))), some (.inl x1), some (.inl x3), some (.inl x5), some (.inl x7)]) (h' := p51) 6 (fun _ _ => rfl) (eTx_blame (by omega) hx55) ?_
        have hz := Option.some.inj HF
        subst hz
        exact q_rtn 1 (fun _ _ => rfl)
  replace HF := HA10
  by_cases c37 : ((q_si h 24 6 6 0 (0 : Int32)).1 25 7 6 0) = 0
  · rw [if_pos c37] at HF
    refine q_sw (o1 := 71) (pcx := 49) (pc' := 120) (loc' := [some (.inr (.inr (24, 6, 0))), some (.inl x1), some (.inl x3), some (.inl x5), some (.inl x7)]) (stk' := []) (h' := (q_si h 24 6 6 0 (0 : Int32))) 8 (fun _ _ => rfl) (q_tsI c37 rfl) rfl ?_
    refine q_blk (pc' := 271) (loc' := [some (.inr (.inr (24, 6, 0))), some (.inl x1), some (.inl x3), some (.inl x5), some (.inl x7)]) (stk' := []) (h' := (q_si (q_si h 24 6 6 0 (0 : Int32)) 1 4 0 0 x1)) 6 (fun _ _ => rfl) ?_
    have hz := Option.some.inj HF
    subst hz
    exact hP12 (q_si (q_si h 24 6 6 0 (0 : Int32)) 1 4 0 0 x1) HK11
  · rw [if_neg c37] at HF
    by_cases c38 : ((q_si h 24 6 6 0 (0 : Int32)).1 25 7 6 0) = 1
    · rw [if_pos c38] at HF
      refine q_sw (o1 := 85) (pcx := 49) (pc' := 134) (loc' := [some (.inr (.inr (24, 6, 0))), some (.inl x1), some (.inl x3), some (.inl x5), some (.inl x7)]) (stk' := []) (h' := (q_si h 24 6 6 0 (0 : Int32))) 8 (fun _ _ => rfl) (q_tsI c38 rfl) rfl ?_
      refine q_blk (pc' := 271) (loc' := [some (.inr (.inr (24, 6, 0))), some (.inl x1), some (.inl x3), some (.inl x5), some (.inl x7)]) (stk' := []) (h' := (q_si (q_si h 24 6 6 0 (0 : Int32)) 0 5 0 0 x1)) 5 (fun _ _ => rfl) ?_
      have hz := Option.some.inj HF
      subst hz
      exact hP12 (q_si (q_si h 24 6 6 0 (0 : Int32)) 0 5 0 0 x1) HK11
    · rw [if_neg c38] at HF
      by_cases c39 : ((q_si h 24 6 6 0 (0 : Int32)).1 25 7 6 0) = 2
      · rw [if_pos c39] at HF
        refine q_sw (o1 := 96) (pcx := 49) (pc' := 145) (loc' := [some (.inr (.inr (24, 6, 0))), some (.inl x1), some (.inl x3), some (.inl x5), some (.inl x7)]) (stk' := []) (h' := (q_si h 24 6 6 0 (0 : Int32))) 8 (fun _ _ => rfl) (q_tsI c39 rfl) rfl ?_
        refine q_blk (pc' := 271) (loc' := [some (.inr (.inr (24, 6, 0))), some (.inl x1), some (.inl x3), some (.inl x5), some (.inl x7)]) (stk' := []) (h' := (q_si (q_si h 24 6 6 0 (0 : Int32)) 0 6 0 0 x1)) 5 (fun _ _ => rfl) ?_
        have hz := Option.some.inj HF
        subst hz
        exact hP12 (q_si (q_si h 24 6 6 0 (0 : Int32)) 0 6 0 0 x1) HK11
      · rw [if_neg c39] at HF
        by_cases c40 : ((q_si h 24 6 6 0 (0 : Int32)).1 25 7 6 0) = 3
        · rw [if_pos c40] at HF
          refine q_sw (o1 := 107) (pcx := 49) (pc' := 156) (loc' := [some (.inr (.inr (24, 6, 0))), some (.inl x1), some (.inl x3), some (.inl x5), some (.inl x7)]) (stk' := []) (h' := (q_si h 24 6 6 0 (0 : Int32))) 8 (fun _ _ => rfl) (q_tsI c40 rfl) rfl ?_
          obtain ⟨x13, hx14, HF⟩ := q_bind HF
          refine q_cll (m' := 54) (av := [.inr (.inr (24, 6, 0)), .inl x1, .inl x3, .inl x5]) (st' := []) (pc' := 163) (loc' := [some (.inr (.inr (24, 6, 0))), some (.inl x1), some (.inl x3), some (.inl x5), some (.inl x7)]) (h' := (q_si h 24 6 6 0 (0 : Int32))) 5 (fun _ _ => rfl) (eRp_addFirstRow (by omega) hx14) ?_
          refine q_blk (pc' := 271) (loc' := [some (.inr (.inr (24, 6, 0))), some (.inl x1), some (.inl x3), some (.inl x5), some (.inl x7)]) (stk' := []) (h' := x13) 1 (fun _ _ => rfl) ?_
          have hz := Option.some.inj HF
          subst hz
          exact hP12 (x13) HK11
        · rw [if_neg c40] at HF
          by_cases c41 : ((q_si h 24 6 6 0 (0 : Int32)).1 25 7 6 0) = 4
          · rw [if_pos c41] at HF
            refine q_sw (o1 := 117) (pcx := 49) (pc' := 166) (loc' := [some (.inr (.inr (24, 6, 0))), some (.inl x1), some (.inl x3), some (.inl x5), some (.inl x7)]) (stk' := []) (h' := (q_si h 24 6 6 0 (0 : Int32))) 8 (fun _ _ => rfl) (q_tsI c41 rfl) rfl ?_
            obtain ⟨x15, hx16, HF⟩ := q_bind HF
            refine q_cll (m' := 21) (av := [.inr (.inr (24, 6, 0))]) (st' := []) (pc' := 170) (loc' := [some (.inr (.inr (24, 6, 0))), some (.inl x1), some (.inl x3), some (.inl x5), some (.inl x7)]) (h' := (q_si h 24 6 6 0 (0 : Int32))) 2 (fun _ _ => rfl) (eRp_begin (by omega) hx16) ?_
            refine q_blk (pc' := 271) (loc' := [some (.inr (.inr (24, 6, 0))), some (.inl x1), some (.inl x3), some (.inl x5), some (.inl x7)]) (stk' := []) (h' := x15.2) 2 (fun _ _ => rfl) ?_
            have hz := Option.some.inj HF
            subst hz
            exact hP12 (x15.2) HK11
          · rw [if_neg c41] at HF
            by_cases c42 : ((q_si h 24 6 6 0 (0 : Int32)).1 25 7 6 0) = 5
            · rw [if_pos c42] at HF
              refine q_sw (o1 := 125) (pcx := 49) (pc' := 174) (loc' := [some (.inr (.inr (24, 6, 0))), some (.inl x1), some (.inl x3), some (.inl x5), some (.inl x7)]) (stk' := []) (h' := (q_si h 24 6 6 0 (0 : Int32))) 8 (fun _ _ => rfl) (q_tsI c42 rfl) rfl ?_
              obtain ⟨x17, hx18, HF⟩ := q_bind HF
              refine q_cll (m' := 24) (av := [.inr (.inr (24, 6, 0)), .inl x1, .inl x3, .inl x5, .inl x7]) (st' := []) (pc' := 183) (loc' := [some (.inr (.inr (24, 6, 0))), some (.inl x1), some (.inl x3), some (.inl x5), some (.inl x7)]) (h' := (q_si h 24 6 6 0 (0 : Int32))) 6 (fun _ _ => rfl) (eRp_insert (by omega) hx18) ?_
              refine q_blk (pc' := 271) (loc' := [some (.inr (.inr (24, 6, 0))), some (.inl x1), some (.inl x3), some (.inl x5), some (.inl x7)]) (stk' := []) (h' := x17.2) 2 (fun _ _ => rfl) ?_
              have hz := Option.some.inj HF
              subst hz
              exact hP12 (x17.2) HK11
            · rw [if_neg c42] at HF
              by_cases c43 : ((q_si h 24 6 6 0 (0 : Int32)).1 25 7 6 0) = 6
              · rw [if_pos c43] at HF
                refine q_sw (o1 := 138) (pcx := 49) (pc' := 187) (loc' := [some (.inr (.inr (24, 6, 0))), some (.inl x1), some (.inl x3), some (.inl x5), some (.inl x7)]) (stk' := []) (h' := (q_si h 24 6 6 0 (0 : Int32))) 8 (fun _ _ => rfl) (q_tsI c43 rfl) rfl ?_
                obtain ⟨x19, hx20, HF⟩ := q_bind HF
                refine q_cll (m' := 126) (av := [.inr (.inr (25, 6, 0)), .inl (4 : Int32)]) (st' := [.inl x7, .inl x5, .inl x3, .inl x1, .inr (.inr (24, 6, 0))]) (pc' := 201) (loc' := [some (.inr (.inr (24, 6, 0))), some (.inl x1), some (.inl x3), some (.inl x5), some (.inl x7)]) (h' := (q_si h 24 6 6 0 (0 : Int32))) 9 (fun _ _ => rfl) (eTx_told (by omega) hx20) ?_
                obtain ⟨x21, hx22, HF⟩ := q_bind HF
                refine q_cll (m' := 25) (av := [.inr (.inr (24, 6, 0)), .inl x1, .inl x3, .inl x5, .inl x7, .inl x19]) (st' := []) (pc' := 204) (loc' := [some (.inr (.inr (24, 6, 0))), some (.inl x1), some (.inl x3), some (.inl x5), some (.inl x7)]) (h' := (q_si h 24 6 6 0 (0 : Int32))) 1 (fun _ _ => rfl) (eRp_update (by omega) hx22) ?_
                refine q_blk (pc' := 271) (loc' := [some (.inr (.inr (24, 6, 0))), some (.inl x1), some (.inl x3), some (.inl x5), some (.inl x7)]) (stk' := []) (h' := x21.2) 2 (fun _ _ => rfl) ?_
                have hz := Option.some.inj HF
                subst hz
                exact hP12 (x21.2) HK11
              · rw [if_neg c43] at HF
                by_cases c44 : ((q_si h 24 6 6 0 (0 : Int32)).1 25 7 6 0) = 7
                · rw [if_pos c44] at HF
                  refine q_sw (o1 := 159) (pcx := 49) (pc' := 208) (loc' := [some (.inr (.inr (24, 6, 0))), some (.inl x1), some (.inl x3), some (.inl x5), some (.inl x7)]) (stk' := []) (h' := (q_si h 24 6 6 0 (0 : Int32))) 8 (fun _ _ => rfl) (q_tsI c44 rfl) rfl ?_
                  obtain ⟨x23, hx24, HF⟩ := q_bind HF
                  refine q_cll (m' := 26) (av := [.inr (.inr (24, 6, 0)), .inl x1, .inl x3]) (st' := []) (pc' := 214) (loc' := [some (.inr (.inr (24, 6, 0))), some (.inl x1), some (.inl x3), some (.inl x5), some (.inl x7)]) (h' := (q_si h 24 6 6 0 (0 : Int32))) 4 (fun _ _ => rfl) (eRp_delete (by omega) hx24) ?_
                  refine q_blk (pc' := 271) (loc' := [some (.inr (.inr (24, 6, 0))), some (.inl x1), some (.inl x3), some (.inl x5), some (.inl x7)]) (stk' := []) (h' := x23.2) 2 (fun _ _ => rfl) ?_
                  have hz := Option.some.inj HF
                  subst hz
                  exact hP12 (x23.2) HK11
                · rw [if_neg c44] at HF
                  by_cases c45 : ((q_si h 24 6 6 0 (0 : Int32)).1 25 7 6 0) = 8
                  · rw [if_pos c45] at HF
                    refine q_sw (o1 := 169) (pcx := 49) (pc' := 218) (loc' := [some (.inr (.inr (24, 6, 0))), some (.inl x1), some (.inl x3), some (.inl x5), some (.inl x7)]) (stk' := []) (h' := (q_si h 24 6 6 0 (0 : Int32))) 8 (fun _ _ => rfl) (q_tsI c45 rfl) rfl ?_
                    obtain ⟨x25, hx26, HF⟩ := q_bind HF
                    refine q_cll (m' := 22) (av := [.inr (.inr (24, 6, 0)), .inl x1]) (st' := []) (pc' := 223) (loc' := [some (.inr (.inr (24, 6, 0))), some (.inl x1), some (.inl x3), some (.inl x5), some (.inl x7)]) (h' := (q_si h 24 6 6 0 (0 : Int32))) 3 (fun _ _ => rfl) (eRp_commit (by omega) hx26) ?_
                    refine q_blk (pc' := 271) (loc' := [some (.inr (.inr (24, 6, 0))), some (.inl x1), some (.inl x3), some (.inl x5), some (.inl x7)]) (stk' := []) (h' := x25.2) 2 (fun _ _ => rfl) ?_
                    have hz := Option.some.inj HF
                    subst hz
                    exact hP12 (x25.2) HK11
                  · rw [if_neg c45] at HF
                    by_cases c46 : ((q_si h 24 6 6 0 (0 : Int32)).1 25 7 6 0) = 9
                    · rw [if_pos c46] at HF
                      refine q_sw (o1 := 178) (pcx := 49) (pc' := 227) (loc' := [some (.inr (.inr (24, 6, 0))), some (.inl x1), some (.inl x3), some (.inl x5), some (.inl x7)]) (stk' := []) (h' := (q_si h 24 6 6 0 (0 : Int32))) 8 (fun _ _ => rfl) (q_tsI c46 rfl) rfl ?_
                      obtain ⟨x27, hx28, HF⟩ := q_bind HF
                      refine q_cll (m' := 23) (av := [.inr (.inr (24, 6, 0)), .inl x1]) (st' := []) (pc' := 232) (loc' := [some (.inr (.inr (24, 6, 0))), some (.inl x1), some (.inl x3), some (.inl x5), some (.inl x7)]) (h' := (q_si h 24 6 6 0 (0 : Int32))) 3 (fun _ _ => rfl) (eRp_abort (by omega) hx28) ?_
                      refine q_blk (pc' := 271) (loc' := [some (.inr (.inr (24, 6, 0))), some (.inl x1), some (.inl x3), some (.inl x5), some (.inl x7)]) (stk' := []) (h' := x27.2) 2 (fun _ _ => rfl) ?_
                      have hz := Option.some.inj HF
                      subst hz
                      exact hP12 (x27.2) HK11
                    · rw [if_neg c46] at HF
                      by_cases c47 : ((q_si h 24 6 6 0 (0 : Int32)).1 25 7 6 0) = 10
                      · rw [if_pos c47] at HF
                        refine q_sw (o1 := 187) (pcx := 49) (pc' := 236) (loc' := [some (.inr (.inr (24, 6, 0))), some (.inl x1), some (.inl x3), some (.inl x5), some (.inl x7)]) (stk' := []) (h' := (q_si h 24 6 6 0 (0 : Int32))) 8 (fun _ _ => rfl) (q_tsI c47 rfl) rfl ?_
                        obtain ⟨x29, hx30, HF⟩ := q_bind HF
                        refine q_cll (m' := 28) (av := [.inr (.inr (24, 6, 0)), .inl x1]) (st' := []) (pc' := 241) (loc' := [some (.inr (.inr (24, 6, 0))), some (.inl x1), some (.inl x3), some (.inl x5), some (.inl x7)]) (h' := (q_si h 24 6 6 0 (0 : Int32))) 3 (fun _ _ => rfl) (eRp_prune (by omega) hx30) ?_
                        refine q_blk (pc' := 271) (loc' := [some (.inr (.inr (24, 6, 0))), some (.inl x1), some (.inl x3), some (.inl x5), some (.inl x7)]) (stk' := []) (h' := x29.2) 2 (fun _ _ => rfl) ?_
                        have hz := Option.some.inj HF
                        subst hz
                        exact hP12 (x29.2) HK11
                      · rw [if_neg c47] at HF
                        by_cases c48 : ((q_si h 24 6 6 0 (0 : Int32)).1 25 7 6 0) = 11
                        · rw [if_pos c48] at HF
                          refine q_sw (o1 := 196) (pcx := 49) (pc' := 245) (loc' := [some (.inr (.inr (24, 6, 0))), some (.inl x1), some (.inl x3), some (.inl x5), some (.inl x7)]) (stk' := []) (h' := (q_si h 24 6 6 0 (0 : Int32))) 8 (fun _ _ => rfl) (q_tsI c48 rfl) rfl ?_
                          obtain ⟨x31, hx32, HF⟩ := q_bind HF
                          refine q_cll (m' := 29) (av := [.inr (.inr (24, 6, 0))]) (st' := []) (pc' := 249) (loc' := [some (.inr (.inr (24, 6, 0))), some (.inl x1), some (.inl x3), some (.inl x5), some (.inl x7)]) (h' := (q_si h 24 6 6 0 (0 : Int32))) 2 (fun _ _ => rfl) (eRp_vacuum (by omega) hx32) ?_
                          refine q_blk (pc' := 271) (loc' := [some (.inr (.inr (24, 6, 0))), some (.inl x1), some (.inl x3), some (.inl x5), some (.inl x7)]) (stk' := []) (h' := x31.2) 2 (fun _ _ => rfl) ?_
                          have hz := Option.some.inj HF
                          subst hz
                          exact hP12 (x31.2) HK11
                        · rw [if_neg c48] at HF
                          by_cases c49 : ((q_si h 24 6 6 0 (0 : Int32)).1 25 7 6 0) = 12
                          · rw [if_pos c49] at HF
                            refine q_sw (o1 := 204) (pcx := 49) (pc' := 253) (loc' := [some (.inr (.inr (24, 6, 0))), some (.inl x1), some (.inl x3), some (.inl x5), some (.inl x7)]) (stk' := []) (h' := (q_si h 24 6 6 0 (0 : Int32))) 8 (fun _ _ => rfl) (q_tsI c49 rfl) rfl ?_
                            obtain ⟨x33, hx34, HF⟩ := q_bind HF
                            refine q_cll (m' := 30) (av := [.inr (.inr (24, 6, 0)), .inl x1, .inl x3]) (st' := []) (pc' := 259) (loc' := [some (.inr (.inr (24, 6, 0))), some (.inl x1), some (.inl x3), some (.inl x5), some (.inl x7)]) (h' := (q_si h 24 6 6 0 (0 : Int32))) 4 (fun _ _ => rfl) (eRp_look (by omega) hx34) ?_
                            refine q_blk (pc' := 271) (loc' := [some (.inr (.inr (24, 6, 0))), some (.inl x1), some (.inl x3), some (.inl x5), some (.inl x7)]) (stk' := []) (h' := x33.2) 2 (fun _ _ => rfl) ?_
                            have hz := Option.some.inj HF
                            subst hz
                            exact hP12 (x33.2) HK11
                          · rw [if_neg c49] at HF
                            by_cases c50 : ((q_si h 24 6 6 0 (0 : Int32)).1 25 7 6 0) = 13
                            · rw [if_pos c50] at HF
                              refine q_sw (o1 := 214) (pcx := 49) (pc' := 263) (loc' := [some (.inr (.inr (24, 6, 0))), some (.inl x1), some (.inl x3), some (.inl x5), some (.inl x7)]) (stk' := []) (h' := (q_si h 24 6 6 0 (0 : Int32))) 8 (fun _ _ => rfl) (q_tsI c50 rfl) rfl ?_
                              obtain ⟨x35, hx36, HF⟩ := q_bind HF
                              refine q_cll (m' := 32) (av := [.inr (.inr (24, 6, 0))]) (st' := []) (pc' := 267) (loc' := [some (.inr (.inr (24, 6, 0))), some (.inl x1), some (.inl x3), some (.inl x5), some (.inl x7)]) (h' := (q_si h 24 6 6 0 (0 : Int32))) 2 (fun _ _ => rfl) (eRp_repack (by omega) hx36) ?_
                              refine q_blk (pc' := 271) (loc' := [some (.inr (.inr (24, 6, 0))), some (.inl x1), some (.inl x3), some (.inl x5), some (.inl x7)]) (stk' := []) (h' := x35.2) 2 (fun _ _ => rfl) ?_
                              have hz := Option.some.inj HF
                              subst hz
                              exact hP12 (x35.2) HK11
                            · rw [if_neg c50] at HF
                              refine q_sw (o1 := 222) (pcx := 49) (pc' := 271) (loc' := [some (.inr (.inr (24, 6, 0))), some (.inl x1), some (.inl x3), some (.inl x5), some (.inl x7)]) (stk' := []) (h' := (q_si h 24 6 6 0 (0 : Int32))) 8 (fun _ _ => rfl) (q_tsD (a := ((q_si h 24 6 6 0 (0 : Int32)).1 25 7 6 0)) (lo := 0) (hi := 13) (by have z0 := q_neI c37 (a := 0) rfl; have z1 := q_neI c38 (a := 1) rfl; have z2 := q_neI c39 (a := 2) rfl; have z3 := q_neI c40 (a := 3) rfl; have z4 := q_neI c41 (a := 4) rfl; have z5 := q_neI c42 (a := 5) rfl; have z6 := q_neI c43 (a := 6) rfl; have z7 := q_neI c44 (a := 7) rfl; have z8 := q_neI c45 (a := 8) rfl; have z9 := q_neI c46 (a := 9) rfl; have z10 := q_neI c47 (a := 10) rfl; have z11 := q_neI c48 (a := 11) rfl; have z12 := q_neI c49 (a := 12) rfl; have z13 := q_neI c50 (a := 13) rfl; omega)) rfl ?_
                              have hz := Option.some.inj HF
                              subst hz
                              exact hP12 (q_si h 24 6 6 0 (0 : Int32)) HK11
def Tx_wordRead  (h : q_H) : Option Int32 :=
  (q_lp (fun s1 : Int32 => (if (14 : Int32) ≤ s1 then (some (.inr ((-1 : Int32)))) else ((Tx_spelling s1 h).bind fun x9 => (Tx_isSpelled x9 h).bind fun x11 => if x11 = 0 then (some (.inl (s1 + (1 : Int32)))) else (some (.inr (s1)))) : Option ((Int32) ⊕ Int32))) q_fu ((0 : Int32) : Int32)).bind fun z8 => some z8
set_option maxRecDepth 100000 in
set_option maxHeartbeats 4000000 in
theorem eTx_wordRead {d : Nat} (hd : 7 ≤ d)  {h : q_H} {r : Int32} (HF : Tx_wordRead  h = some r) : q_T d 138 [.inr (.inr (25, 6, 0))] h (some (.inl r), h) := by
  obtain ⟨d, rfl⟩ : ∃ d', d = d' + 1 := ⟨d - 1, by omega⟩
  refine q_ent q_K138 rfl rfl rfl ?_
  unfold Tx_wordRead at HF
  refine q_blk (pc' := 2) (loc' := [some (.inr (.inr (25, 6, 0))), some (.inl (0 : Int32))]) (stk' := []) (h' := h) 2 (fun _ _ => rfl) ?_
  obtain ⟨r6, hl7, HK4⟩ := q_bind HF
  refine q_lpE (E := fun s1 => q_E d q_K138 2 [some (.inr (.inr (25, 6, 0))), some (.inl s1)] [] h (some (.inl r), h)) r6 (fun s1 z8 HF H12 H23 => ?_) _ _ hl7
  refine q_br (P := (14 : Int32) ≤ s1) (pcT := 27) (pcF := 8) (loc' := [some (.inr (.inr (25, 6, 0))), some (.inl s1)]) (stk' := []) (h' := h) 3 (fun _ _ => rfl) (fun c14 => ?_) (fun c14 => ?_)
  · rw [if_pos c14] at HF
    have hz := Option.some.inj HF
    subst hz
    replace HF := HK4
    rw [← H23 _ rfl] at HF
    have hz := Option.some.inj HF
    subst hz
    exact q_rtn 2 (fun _ _ => rfl)
  · rw [if_neg c14] at HF
    obtain ⟨x9, hx10, HF⟩ := q_bind HF
    refine q_cll (m' := 141) (av := [.inl s1]) (st' := [.inr (.inr (25, 6, 0))]) (pc' := 13) (loc' := [some (.inr (.inr (25, 6, 0))), some (.inl s1)]) (h' := h) 3 (fun _ _ => rfl) (eTx_spelling (by omega) hx10) ?_
    obtain ⟨x11, hx12, HF⟩ := q_bind HF
    refine q_cll (m' := 139) (av := [.inr (.inr (25, 6, 0)), .inr (.inr (60, 0, x9))]) (st' := []) (pc' := 16) (loc' := [some (.inr (.inr (25, 6, 0))), some (.inl s1)]) (h' := h) 1 (fun _ _ => rfl) (eTx_isSpelled (by omega) hx12) ?_
    refine q_br (P := x11 = 0) (pcT := 21) (pcF := 19) (loc' := [some (.inr (.inr (25, 6, 0))), some (.inl s1)]) (stk' := []) (h' := h) 1 (fun _ _ => rfl) (fun c13 => ?_) (fun c13 => ?_)
    · rw [if_pos c13] at HF
      refine q_blk (pc' := 2) (loc' := [some (.inr (.inr (25, 6, 0))), some (.inl (s1 + (1 : Int32)))]) (stk' := []) (h' := h) 2 (fun _ _ => rfl) ?_
      have hz := Option.some.inj HF
      subst hz
      exact H12 (s1 + (1 : Int32)) rfl
    · rw [if_neg c13] at HF
      have hz := Option.some.inj HF
      subst hz
      replace HF := HK4
      rw [← H23 _ rfl] at HF
      have hz := Option.some.inj HF
      subst hz
      exact q_rtn 2 (fun _ _ => rfl)
def Mo_vacuums  (h : q_H) : Option (Int32 × q_H) :=
  (q_lp (fun s1 : Int32 × q_H => (if (6 : Int32) ≤ s1.1 then (some (.inr (s1.2))) else ((Mo_prunes s1.1 s1.2).bind fun x9 => some (.inl ((s1.1 + (1 : Int32)), x9.2))) : Option ((Int32 × q_H) ⊕ (q_H)))) q_fu (((0 : Int32), h) : Int32 × q_H)).bind fun p12 => (Mo_passes p12).bind fun x13 => (q_lp (fun s15 : Int32 × q_H => (if (6 : Int32) ≤ s15.1 then (some (.inr (s15.2))) else ((q_lp (fun s23 : q_H => (bif q_in ((17 : Int32) + s15.1) 1644 then (if (s23.1 31 0 7 ((17 : Int32) + s15.1).toNatClampNeg) ≤ 0 then (some (.inr (s23))) else (bif q_in ((17 : Int32) + s15.1) 1644 then ((Mo_of ((((10 : Int32) * s15.1) + (s23.1 31 0 7 ((17 : Int32) + s15.1).toNatClampNeg)) - (1 : Int32)) (0 : Int32) s23).bind fun x31 => if ¬ x31 = 0 then (some (.inr (s23))) else (bif q_in ((17 : Int32) + s15.1) 1644 then (bif q_in ((17 : Int32) + s15.1) 1644 then (some (.inl (q_si s23 31 0 7 ((17 : Int32) + s15.1).toNatClampNeg ((s23.1 31 0 7 ((17 : Int32) + s15.1).toNatClampNeg) - (1 : Int32))))) else none) else none)) else none)) else none : Option ((q_H) ⊕ (q_H)))) q_fu (s15.2 : q_H)).bind fun p39 => some (.inl ((s15.1 + (1 : Int32)), p39))) : Option ((Int32 × q_H) ⊕ (q_H)))) q_fu (((0 : Int32), x13) : Int32 × q_H)).bind fun p41 => (Mo_horizon p41).bind fun x42 => (Mo_freezes x42 p41).bind fun x44 => (q_lp (fun s46 : Int32 × q_H => (if (6 : Int32) ≤ s46.1 then (some (.inr (((s46.2.1 30 9 7 0), s46.2)))) else ((Mo_isClear s46.1 x42 s46.2).bind fun x54 => Option.bind (α := Int32) (if x54 = 0 then (some ((0 : Int32))) else (some ((1 : Int32)))) (fun p61 => bif q_in ((23 : Int32) + s46.1) 1644 then (some (.inl ((s46.1 + (1 : Int32)), (q_si s46.2 31 0 7 ((23 : Int32) + s46.1).toNatClampNeg p61)))) else none)) : Option ((Int32 × q_H) ⊕ (Int32 × q_H)))) q_fu (((0 : Int32), x44) : Int32 × q_H)).bind fun z53 => some z53
set_option maxRecDepth 100000 in
set_option maxHeartbeats 4000000 in
theorem eMo_vacuums {d : Nat} (hd : 7 ≤ d)  {h : q_H} {r : (Int32 × q_H)} (HF : Mo_vacuums  h = some r) : q_T d 224 [.inr (.inr (30, 7, 0))] h (some (.inl r.1), r.2) := by
  obtain ⟨d, rfl⟩ : ∃ d', d = d' + 1 := ⟨d - 1, by omega⟩
  refine q_ent q_K224 rfl rfl rfl ?_
  unfold Mo_vacuums at HF
  refine q_blk (pc' := 2) (loc' := [some (.inr (.inr (30, 7, 0))), some (.inl (0 : Int32)), none]) (stk' := []) (h' := h) 2 (fun _ _ => rfl) ?_
  obtain ⟨r6, hl7, HK4⟩ := q_bind HF
  have hP5 : ∀ p12 : q_H, ((Mo_passes p12).bind fun x13 => (q_lp (fun s15 : Int32 × q_H => (if (6 : Int32) ≤ s15.1 then (some (.inr (s15.2))) else ((q_lp (fun s23 : q_H => (bif q_in ((17 : Int32) + s15.1) 1644 then (if (s23.1 31 0 7 ((17 : Int32) + s15.1).toNatClampNeg) ≤ 0 then (some (.inr (s23))) else (bif q_in ((17 : Int32) + s15.1) 1644 then ((Mo_of ((((10 : Int32) * s15.1) + (s23.1 31 0 7 ((17 : Int32) + s15.1).toNatClampNeg)) - (1 : Int32)) (0 : Int32) s23).bind fun x31 => if ¬ x31 = 0 then (some (.inr (s23))) else (bif q_in ((17 : Int32) + s15.1) 1644 then (bif q_in ((17 : Int32) + s15.1) 1644 then (some (.inl (q_si s23 31 0 7 ((17 : Int32) + s15.1).toNatClampNeg ((s23.1 31 0 7 ((17 : Int32) + s15.1).toNatClampNeg) - (1 : Int32))))) else none) else none)) else none)) else none : Option ((q_H) ⊕ (q_H)))) q_fu (s15.2 : q_H)).bind fun p39 => some (.inl ((s15.1 + (1 : Int32)), p39))) : Option ((Int32 × q_H) ⊕ (q_H)))) q_fu (((0 : Int32), x13) : Int32 × q_H)).bind fun p41 => (Mo_horizon p41).bind fun x42 => (Mo_freezes x42 p41).bind fun x44 => (q_lp (fun s46 : Int32 × q_H => (if (6 : Int32) ≤ s46.1 then (some (.inr (((s46.2.1 30 9 7 0), s46.2)))) else ((Mo_isClear s46.1 x42 s46.2).bind fun x54 => Option.bind (α := Int32) (if x54 = 0 then (some ((0 : Int32))) else (some ((1 : Int32)))) (fun p61 => bif q_in ((23 : Int32) + s46.1) 1644 then (some (.inl ((s46.1 + (1 : Int32)), (q_si s46.2 31 0 7 ((23 : Int32) + s46.1).toNatClampNeg p61)))) else none)) : Option ((Int32 × q_H) ⊕ (Int32 × q_H)))) q_fu (((0 : Int32), x44) : Int32 × q_H)).bind fun z53 => some z53 : Option (Int32 × q_H)) = some r → q_E d q_K224 20 [some (.inr (.inr (30, 7, 0))), none, none] [] p12 (some (.inl r.1), r.2) := by
    intro p12 HF
    obtain ⟨x13, hx14, HF⟩ := q_bind HF
    refine q_cll (m' := 221) (av := [.inr (.inr (30, 7, 0))]) (st' := []) (pc' := 24) (loc' := [some (.inr (.inr (30, 7, 0))), none, none]) (h' := p12) 2 (fun _ _ => rfl) (eMo_passes (by omega) hx14) ?_
    refine q_blk (pc' := 26) (loc' := [some (.inr (.inr (30, 7, 0))), some (.inl (0 : Int32)), none]) (stk' := []) (h' := x13) 2 (fun _ _ => rfl) ?_
    obtain ⟨r20, hl21, HK18⟩ := q_bind HF
    have hP19 : ∀ p41 : q_H, ((Mo_horizon p41).bind fun x42 => (Mo_freezes x42 p41).bind fun x44 => (q_lp (fun s46 : Int32 × q_H => (if (6 : Int32) ≤ s46.1 then (some (.inr (((s46.2.1 30 9 7 0), s46.2)))) else ((Mo_isClear s46.1 x42 s46.2).bind fun x54 => Option.bind (α := Int32) (if x54 = 0 then (some ((0 : Int32))) else (some ((1 : Int32)))) (fun p61 => bif q_in ((23 : Int32) + s46.1) 1644 then (some (.inl ((s46.1 + (1 : Int32)), (q_si s46.2 31 0 7 ((23 : Int32) + s46.1).toNatClampNeg p61)))) else none)) : Option ((Int32 × q_H) ⊕ (Int32 × q_H)))) q_fu (((0 : Int32), x44) : Int32 × q_H)).bind fun z53 => some z53 : Option (Int32 × q_H)) = some r → q_E d q_K224 90 [some (.inr (.inr (30, 7, 0))), none, none] [] p41 (some (.inl r.1), r.2) := by
      intro p41 HF
      obtain ⟨x42, hx43, HF⟩ := q_bind HF
      refine q_cll (m' := 205) (av := [.inr (.inr (30, 7, 0))]) (st' := []) (pc' := 94) (loc' := [some (.inr (.inr (30, 7, 0))), none, none]) (h' := p41) 2 (fun _ _ => rfl) (eMo_horizon (by omega) hx43) ?_
      obtain ⟨x44, hx45, HF⟩ := q_bind HF
      refine q_cll (m' := 222) (av := [.inr (.inr (30, 7, 0)), .inl x42]) (st' := []) (pc' := 100) (loc' := [some (.inr (.inr (30, 7, 0))), some (.inl x42), none]) (h' := p41) 4 (fun _ _ => rfl) (eMo_freezes (by omega) hx45) ?_
      refine q_blk (pc' := 102) (loc' := [some (.inr (.inr (30, 7, 0))), some (.inl x42), some (.inl (0 : Int32))]) (stk' := []) (h' := x44) 2 (fun _ _ => rfl) ?_
      obtain ⟨r51, hl52, HK49⟩ := q_bind HF
      refine q_lpE (E := fun s46 => q_E d q_K224 102 [some (.inr (.inr (30, 7, 0))), some (.inl x42), some (.inl s46.1)] [] s46.2 (some (.inl r.1), r.2)) r51 (fun s46 z53 HF H147 H248 => ?_) _ _ hl52
      refine q_br (P := (6 : Int32) ≤ s46.1) (pcT := 137) (pcF := 108) (loc' := [some (.inr (.inr (30, 7, 0))), some (.inl x42), some (.inl s46.1)]) (stk' := []) (h' := s46.2) 3 (fun _ _ => rfl) (fun c64 => ?_) (fun c64 => ?_)
      · rw [if_pos c64] at HF
        have hz := Option.some.inj HF
        subst hz
        replace HF := HK49
        rw [← H248 _ rfl] at HF
        have hz := Option.some.inj HF
        subst hz
        exact q_rtn 3 (fun _ _ => rfl)
      · rw [if_neg c64] at HF
        obtain ⟨x54, hx55, HF⟩ := q_bind HF
        refine q_cll (m' := 223) (av := [.inr (.inr (30, 7, 0)), .inl s46.1, .inl x42]) (st' := [.inl ((23 : Int32) + s46.1), .inr (.inr (31, 7, 0))]) (pc' := 122) (loc' := [some (.inr (.inr (30, 7, 0))), some (.inl x42), some (.inl s46.1)]) (h' := s46.2) 9 (fun _ _ => rfl) (eMo_isClear (by omega) hx55) ?_
        obtain ⟨z56, HA57, HK58⟩ := q_bind HF
        have hP59 : ∀ p61 : Int32, (bif q_in ((23 : Int32) + s46.1) 1644 then (some (.inl ((s46.1 + (1 : Int32)), (q_si s46.2 31 0 7 ((23 : Int32) + s46.1).toNatClampNeg p61)))) else none : Option ((Int32 × q_H) ⊕ (Int32 × q_H))) = some z53 → q_E d q_K224 130 [some (.inr (.inr (30, 7, 0))), some (.inl x42), some (.inl s46.1)] [.inl p61, .inl ((23 : Int32) + s46.1), .inr (.inr (31, 7, 0))] s46.2 (some (.inl r.1), r.2) := by
          intro p61 HF
          obtain ⟨g62, HF⟩ := q_gF HF
          refine q_gd (pc' := 131) (loc' := [some (.inr (.inr (30, 7, 0))), some (.inl x42), some (.inl s46.1)]) (stk' := []) (h' := (q_si s46.2 31 0 7 ((23 : Int32) + s46.1).toNatClampNeg p61)) 1 (fun _ _ => rfl) g62 ?_
          refine q_blk (pc' := 102) (loc' := [some (.inr (.inr (30, 7, 0))), some (.inl x42), some (.inl (s46.1 + (1 : Int32)))]) (stk' := []) (h' := (q_si s46.2 31 0 7 ((23 : Int32) + s46.1).toNatClampNeg p61)) 2 (fun _ _ => rfl) ?_
          have hz := Option.some.inj HF
          subst hz
          exact H147 ((s46.1 + (1 : Int32)), (q_si s46.2 31 0 7 ((23 : Int32) + s46.1).toNatClampNeg p61)) rfl
        replace HF := HA57
        refine q_br (P := x54 = 0) (pcT := 129) (pcF := 125) (loc' := [some (.inr (.inr (30, 7, 0))), some (.inl x42), some (.inl s46.1)]) (stk' := [.inl ((23 : Int32) + s46.1), .inr (.inr (31, 7, 0))]) (h' := s46.2) 1 (fun _ _ => rfl) (fun c60 => ?_) (fun c60 => ?_)
        · rw [if_pos c60] at HF
          refine q_blk (pc' := 130) (loc' := [some (.inr (.inr (30, 7, 0))), some (.inl x42), some (.inl s46.1)]) (stk' := [.inl (0 : Int32), .inl ((23 : Int32) + s46.1), .inr (.inr (31, 7, 0))]) (h' := s46.2) 1 (fun _ _ => rfl) ?_
          have hz := Option.some.inj HF
          subst hz
          exact hP59 (0 : Int32) HK58
        · rw [if_neg c60] at HF
          refine q_blk (pc' := 130) (loc' := [some (.inr (.inr (30, 7, 0))), some (.inl x42), some (.inl s46.1)]) (stk' := [.inl (1 : Int32), .inl ((23 : Int32) + s46.1), .inr (.inr (31, 7, 0))]) (h' := s46.2) 2 (fun _ _ => rfl) ?_
          have hz := Option.some.inj HF
          subst hz
          exact hP59 (1 : Int32) HK58
    refine q_lpE (E := fun s15 => q_E d q_K224 26 [some (.inr (.inr (30, 7, 0))), some (.inl s15.1), none] [] s15.2 (some (.inl r.1), r.2)) r20 (fun s15 z22 HF H116 H217 => ?_) _ _ hl21
    refine q_br (P := (6 : Int32) ≤ s15.1) (pcT := 90) (pcF := 32) (loc' := [some (.inr (.inr (30, 7, 0))), some (.inl s15.1), none]) (stk' := []) (h' := s15.2) 3 (fun _ _ => rfl) (fun c40 => ?_) (fun c40 => ?_)
    · rw [if_pos c40] at HF
      have hz := Option.some.inj HF
      subst hz
      rw [← H217 _ rfl] at HK18
      exact q_wk (loc := [some (.inr (.inr (30, 7, 0))), none, none]) ⟨Or.inl rfl, ⟨Or.inr ⟨rfl, fun _ h => by cases h⟩, ⟨Or.inl rfl, trivial⟩⟩⟩ (hP19 (s15.2) HK18)
    · rw [if_neg c40] at HF
      obtain ⟨r28, hl29, HK26⟩ := q_bind HF
      have hP27 : ∀ p39 : q_H, (some (.inl ((s15.1 + (1 : Int32)), p39)) : Option ((Int32 × q_H) ⊕ (q_H))) = some z22 → q_E d q_K224 84 [some (.inr (.inr (30, 7, 0))), some (.inl s15.1), none] [] p39 (some (.inl r.1), r.2) := by
        intro p39 HF
        refine q_blk (pc' := 26) (loc' := [some (.inr (.inr (30, 7, 0))), some (.inl (s15.1 + (1 : Int32))), none]) (stk' := []) (h' := p39) 2 (fun _ _ => rfl) ?_
        have hz := Option.some.inj HF
        subst hz
        exact H116 ((s15.1 + (1 : Int32)), p39) rfl
      refine q_lpE (E := fun s23 => q_E d q_K224 32 [some (.inr (.inr (30, 7, 0))), some (.inl s15.1), none] [] s23 (some (.inl r.1), r.2)) r28 (fun s23 z30 HF H124 H225 => ?_) _ _ hl29
      obtain ⟨g38, HF⟩ := q_gF HF
      refine q_gd (pc' := 41) (loc' := [some (.inr (.inr (30, 7, 0))), some (.inl s15.1), none]) (stk' := [.inl (s23.1 31 0 7 ((17 : Int32) + s15.1).toNatClampNeg)]) (h' := s23) 6 (fun _ _ => rfl) g38 ?_
      refine q_br (P := (s23.1 31 0 7 ((17 : Int32) + s15.1).toNatClampNeg) ≤ 0) (pcT := 84) (pcF := 44) (loc' := [some (.inr (.inr (30, 7, 0))), some (.inl s15.1), none]) (stk' := []) (h' := s23) 1 (fun _ _ => rfl) (fun c37 => ?_) (fun c37 => ?_)
      · rw [if_pos c37] at HF
        have hz := Option.some.inj HF
        subst hz
        rw [← H225 _ rfl] at HK26
        exact hP27 (s23) HK26
      · rw [if_neg c37] at HF
        obtain ⟨g36, HF⟩ := q_gF HF
        refine q_gd (pc' := 58) (loc' := [some (.inr (.inr (30, 7, 0))), some (.inl s15.1), none]) (stk' := [.inl (s23.1 31 0 7 ((17 : Int32) + s15.1).toNatClampNeg), .inl ((10 : Int32) * s15.1), .inr (.inr (30, 7, 0))]) (h' := s23) 10 (fun _ _ => rfl) g36 ?_
        obtain ⟨x31, hx32, HF⟩ := q_bind HF
        refine q_cll (m' := 187) (av := [.inr (.inr (30, 7, 0)), .inl ((((10 : Int32) * s15.1) + (s23.1 31 0 7 ((17 : Int32) + s15.1).toNatClampNeg)) - (1 : Int32)), .inl (0 : Int32)]) (st' := []) (pc' := 65) (loc' := [some (.inr (.inr (30, 7, 0))), some (.inl s15.1), none]) (h' := s23) 5 (fun _ _ => rfl) (eMo_of (by omega) hx32) ?_
        refine q_br (P := ¬ x31 = 0) (pcT := 84) (pcF := 68) (loc' := [some (.inr (.inr (30, 7, 0))), some (.inl s15.1), none]) (stk' := []) (h' := s23) 1 (fun _ _ => rfl) (fun c35 => ?_) (fun c35 => ?_)
        · rw [if_pos c35] at HF
          have hz := Option.some.inj HF
          subst hz
          rw [← H225 _ rfl] at HK26
          exact hP27 (s23) HK26
        · rw [if_neg c35] at HF
          obtain ⟨g34, HF⟩ := q_gF HF
          refine q_gd (pc' := 78) (loc' := [some (.inr (.inr (30, 7, 0))), some (.inl s15.1), none]) (stk' := [.inl (s23.1 31 0 7 ((17 : Int32) + s15.1).toNatClampNeg), .inl ((17 : Int32) + s15.1), .inr (.inr (31, 7, 0))]) (h' := s23) 7 (fun _ _ => rfl) g34 ?_
          obtain ⟨g33, HF⟩ := q_gF HF
          refine q_gd (pc' := 81) (loc' := [some (.inr (.inr (30, 7, 0))), some (.inl s15.1), none]) (stk' := []) (h' := (q_si s23 31 0 7 ((17 : Int32) + s15.1).toNatClampNeg ((s23.1 31 0 7 ((17 : Int32) + s15.1).toNatClampNeg) - (1 : Int32)))) 3 (fun _ _ => rfl) g33 ?_
          refine q_blk (pc' := 32) (loc' := [some (.inr (.inr (30, 7, 0))), some (.inl s15.1), none]) (stk' := []) (h' := (q_si s23 31 0 7 ((17 : Int32) + s15.1).toNatClampNeg ((s23.1 31 0 7 ((17 : Int32) + s15.1).toNatClampNeg) - (1 : Int32)))) 1 (fun _ _ => rfl) ?_
          have hz := Option.some.inj HF
          subst hz
          exact H124 (q_si s23 31 0 7 ((17 : Int32) + s15.1).toNatClampNeg ((s23.1 31 0 7 ((17 : Int32) + s15.1).toNatClampNeg) - (1 : Int32))) rfl
  refine q_lpE (E := fun s1 => q_E d q_K224 2 [some (.inr (.inr (30, 7, 0))), some (.inl s1.1), none] [] s1.2 (some (.inl r.1), r.2)) r6 (fun s1 z8 HF H12 H23 => ?_) _ _ hl7
  refine q_br (P := (6 : Int32) ≤ s1.1) (pcT := 20) (pcF := 8) (loc' := [some (.inr (.inr (30, 7, 0))), some (.inl s1.1), none]) (stk' := []) (h' := s1.2) 3 (fun _ _ => rfl) (fun c11 => ?_) (fun c11 => ?_)
  · rw [if_pos c11] at HF
    have hz := Option.some.inj HF
    subst hz
    rw [← H23 _ rfl] at HK4
    exact q_wk (loc := [some (.inr (.inr (30, 7, 0))), none, none]) ⟨Or.inl rfl, ⟨Or.inr ⟨rfl, fun _ h => by cases h⟩, ⟨Or.inl rfl, trivial⟩⟩⟩ (hP5 (s1.2) HK4)
  · rw [if_neg c11] at HF
    obtain ⟨x9, hx10, HF⟩ := q_bind HF
    refine q_cll (m' := 215) (av := [.inr (.inr (30, 7, 0)), .inl s1.1]) (st' := []) (pc' := 13) (loc' := [some (.inr (.inr (30, 7, 0))), some (.inl s1.1), none]) (h' := s1.2) 3 (fun _ _ => rfl) (eMo_prunes (by omega) hx10) ?_
    refine q_blk (pc' := 2) (loc' := [some (.inr (.inr (30, 7, 0))), some (.inl (s1.1 + (1 : Int32))), none]) (stk' := []) (h' := x9.2) 3 (fun _ _ => rfl) ?_
    have hz := Option.some.inj HF
    subst hz
    exact H12 ((s1.1 + (1 : Int32)), x9.2) rfl
