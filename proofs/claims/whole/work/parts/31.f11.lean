def Rp_best  (h : q_H) : Option (Int32 × q_H) :=
  (St_copyFrom 1 0 h).bind fun x1 => (q_lp (fun s3 : Int32 × Int32 × Int32 × q_H => (Option.bind (α := (Unit) ⊕ ((Int32 × Int32 × Int32 × q_H) ⊕ (Int32 × q_H))) (if (6 : Int32) ≤ s3.2.2.1 then (some (.inr (.inr ((s3.1, s3.2.2.2))))) else (some (.inl ()))) (fun z11 => match z11 with | .inl p16 => (St_prunePage 1 s3.2.2.1 s3.2.2.2).bind fun x17 => (Pg_freeOf 1 s3.2.2.1 x17.2).bind fun x19 => (Pg_freeOf 0 s3.2.2.1 x17.2).bind fun x21 => Option.bind (α := Int32 × Int32) (if (x19 - x21) ≤ s3.2.1 then (some ((s3.1, s3.2.1))) else (some ((s3.2.2.1, (x19 - x21))))) (fun p28 => some (.inl (p28.1, p28.2, (s3.2.2.1 + (1 : Int32)), x17.2))) | .inr z11 => some z11) : Option ((Int32 × Int32 × Int32 × q_H) ⊕ (Int32 × q_H)))) q_fu (((-1 : Int32), (0 : Int32), (0 : Int32), x1) : Int32 × Int32 × Int32 × q_H)).bind fun p31 => if ¬ p31.1 = (-1 : Int32) then ((Rp_answer p31.1 p31.2).bind fun x32 => some ((x32.1, x32.2))) else ((Rp_refuse (5 : Int32) p31.2).bind fun x34 => some ((x34.1, x34.2)))
set_option maxRecDepth 100000 in
set_option maxHeartbeats 4000000 in
theorem eRp_best {d : Nat} (hd : 5 ≤ d)  {h : q_H} {r : (Int32 × q_H)} (HF : Rp_best  h = some r) : q_T d 42 [.inr (.inr (24, 6, 0))] h (some (.inl r.1), r.2) := by
  obtain ⟨d, rfl⟩ : ∃ d', d = d' + 1 := ⟨d - 1, by omega⟩
  refine q_ent q_K42 rfl rfl rfl ?_
  unfold Rp_best at HF
  obtain ⟨x1, hx2, HF⟩ := q_bind HF
  refine q_cll (m' := 142) (av := [.inr (.inr (0, 1, 0)), .inr (.inr (0, 0, 0))]) (st' := []) (pc' := 11) (loc' := [some (.inr (.inr (24, 6, 0))), none, none, none, none]) (h' := h) 5 (fun _ _ => rfl) (eSt_copyFrom (by omega) hx2) ?_
  refine q_blk (pc' := 17) (loc' := [some (.inr (.inr (24, 6, 0))), some (.inl (-1 : Int32)), some (.inl (0 : Int32)), some (.inl (0 : Int32)), none]) (stk' := []) (h' := x1) 6 (fun _ _ => rfl) ?_
  obtain ⟨r8, hl9, HK6⟩ := q_bind HF
  have hP7 : ∀ p31 : Int32 × q_H, (if ¬ p31.1 = (-1 : Int32) then ((Rp_answer p31.1 p31.2).bind fun x32 => some ((x32.1, x32.2))) else ((Rp_refuse (5 : Int32) p31.2).bind fun x34 => some ((x34.1, x34.2))) : Option (Int32 × q_H)) = some r → q_E d q_K42 74 [some (.inr (.inr (24, 6, 0))), some (.inl p31.1), none, none, none] [] p31.2 (some (.inl r.1), r.2) := by
    intro p31 HF
    refine q_br (P := ¬ p31.1 = (-1 : Int32)) (pcT := 87) (pcF := 79) (loc' := [some (.inr (.inr (24, 6, 0))), some (.inl p31.1), none, none, none]) (stk' := []) (h' := p31.2) 3 (fun _ _ => rfl) (fun c36 => ?_) (fun c36 => ?_)
    · rw [if_pos c36] at HF
      obtain ⟨x32, hx33, HF⟩ := q_bind HF
      refine q_cll (m' := 45) (av := [.inr (.inr (24, 6, 0)), .inl p31.1]) (st' := []) (pc' := 92) (loc' := [some (.inr (.inr (24, 6, 0))), some (.inl p31.1), none, none, none]) (h' := p31.2) 3 (fun _ _ => rfl) (eRp_answer (by omega) hx33) ?_
      have hz := Option.some.inj HF
      subst hz
      exact q_rtn 1 (fun _ _ => rfl)
    · rw [if_neg c36] at HF
      obtain ⟨x34, hx35, HF⟩ := q_bind HF
      refine q_cll (m' := 46) (av := [.inr (.inr (24, 6, 0)), .inl (5 : Int32)]) (st' := []) (pc' := 84) (loc' := [some (.inr (.inr (24, 6, 0))), some (.inl p31.1), none, none, none]) (h' := p31.2) 3 (fun _ _ => rfl) (eRp_refuse (by omega) hx35) ?_
      have hz := Option.some.inj HF
      subst hz
      exact q_rtn 2 (fun _ _ => rfl)
  refine q_lpE (E := fun s3 => q_E d q_K42 17 [some (.inr (.inr (24, 6, 0))), some (.inl s3.1), some (.inl s3.2.1), some (.inl s3.2.2.1), none] [] s3.2.2.2 (some (.inl r.1), r.2)) r8 (fun s3 z10 HF H14 H25 => ?_) _ _ hl9
  obtain ⟨z11, HA12, HK13⟩ := q_bind HF
  have hP14 : ∀ p16 : Unit, ((St_prunePage 1 s3.2.2.1 s3.2.2.2).bind fun x17 => (Pg_freeOf 1 s3.2.2.1 x17.2).bind fun x19 => (Pg_freeOf 0 s3.2.2.1 x17.2).bind fun x21 => Option.bind (α := Int32 × Int32) (if (x19 - x21) ≤ s3.2.1 then (some ((s3.1, s3.2.1))) else (some ((s3.2.2.1, (x19 - x21))))) (fun p28 => some (.inl (p28.1, p28.2, (s3.2.2.1 + (1 : Int32)), x17.2))) : Option ((Int32 × Int32 × Int32 × q_H) ⊕ (Int32 × q_H))) = some z10 → q_E d q_K42 23 [some (.inr (.inr (24, 6, 0))), some (.inl s3.1), some (.inl s3.2.1), some (.inl s3.2.2.1), none] [] s3.2.2.2 (some (.inl r.1), r.2) := by
    intro p16 HF
    obtain ⟨x17, hx18, HF⟩ := q_bind HF
    refine q_cll (m' := 164) (av := [.inr (.inr (0, 1, 0)), .inl s3.2.2.1]) (st' := []) (pc' := 31) (loc' := [some (.inr (.inr (24, 6, 0))), some (.inl s3.1), some (.inl s3.2.1), some (.inl s3.2.2.1), none]) (h' := s3.2.2.2) 4 (fun _ _ => rfl) (eSt_prunePage (by omega) hx18) ?_
    obtain ⟨x19, hx20, HF⟩ := q_bind HF
    refine q_cll (m' := 94) (av := [.inr (.inr (1, 1, 0)), .inl s3.2.2.1]) (st' := []) (pc' := 43) (loc' := [some (.inr (.inr (24, 6, 0))), some (.inl s3.1), some (.inl s3.2.1), some (.inl s3.2.2.1), none]) (h' := x17.2) 6 (fun _ _ => rfl) (ePg_freeOf (by omega) hx20) ?_
    obtain ⟨x21, hx22, HF⟩ := q_bind HF
    refine q_cll (m' := 94) (av := [.inr (.inr (1, 0, 0)), .inl s3.2.2.1]) (st' := [.inl x19]) (pc' := 54) (loc' := [some (.inr (.inr (24, 6, 0))), some (.inl s3.1), some (.inl s3.2.1), some (.inl s3.2.2.1), none]) (h' := x17.2) 5 (fun _ _ => rfl) (ePg_freeOf (by omega) hx22) ?_
    obtain ⟨z23, HA24, HK25⟩ := q_bind HF
    have hP26 : ∀ p28 : Int32 × Int32, (some (.inl (p28.1, p28.2, (s3.2.2.1 + (1 : Int32)), x17.2)) : Option ((Int32 × Int32 × Int32 × q_H) ⊕ (Int32 × q_H))) = some z10 → q_E d q_K42 68 [some (.inr (.inr (24, 6, 0))), some (.inl p28.1), some (.inl p28.2), some (.inl s3.2.2.1), some (.inl (x19 - x21))] [] x17.2 (some (.inl r.1), r.2) := by
      intro p28 HF
      refine q_blk (pc' := 17) (loc' := [some (.inr (.inr (24, 6, 0))), some (.inl p28.1), some (.inl p28.2), some (.inl (s3.2.2.1 + (1 : Int32))), some (.inl (x19 - x21))]) (stk' := []) (h' := x17.2) 2 (fun _ _ => rfl) ?_
      have hz := Option.some.inj HF
      subst hz
      exact q_wk (loc := [some (.inr (.inr (24, 6, 0))), some (.inl p28.1), some (.inl p28.2), some (.inl (s3.2.2.1 + (1 : Int32))), none]) ⟨Or.inl rfl, ⟨Or.inl rfl, ⟨Or.inl rfl, ⟨Or.inl rfl, ⟨Or.inr ⟨rfl, fun _ h => by cases h⟩, trivial⟩⟩⟩⟩⟩ (H14 (p28.1, p28.2, (s3.2.2.1 + (1 : Int32)), x17.2) rfl)
    replace HF := HA24
    refine q_br (P := (x19 - x21) ≤ s3.2.1) (pcT := 68) (pcF := 63) (loc' := [some (.inr (.inr (24, 6, 0))), some (.inl s3.1), some (.inl s3.2.1), some (.inl s3.2.2.1), some (.inl (x19 - x21))]) (stk' := []) (h' := x17.2) 5 (fun _ _ => rfl) (fun c27 => ?_) (fun c27 => ?_)
    · rw [if_pos c27] at HF
      have hz := Option.some.inj HF
      subst hz
      exact hP26 (s3.1, s3.2.1) HK25
    · rw [if_neg c27] at HF
      refine q_blk (pc' := 68) (loc' := [some (.inr (.inr (24, 6, 0))), some (.inl s3.2.2.1), some (.inl (x19 - x21)), some (.inl s3.2.2.1), some (.inl (x19 - x21))]) (stk' := []) (h' := x17.2) 4 (fun _ _ => rfl) ?_
      have hz := Option.some.inj HF
      subst hz
      exact hP26 (s3.2.2.1, (x19 - x21)) HK25
  replace HF := HA12
  refine q_br (P := (6 : Int32) ≤ s3.2.2.1) (pcT := 74) (pcF := 23) (loc' := [some (.inr (.inr (24, 6, 0))), some (.inl s3.1), some (.inl s3.2.1), some (.inl s3.2.2.1), none]) (stk' := []) (h' := s3.2.2.2) 3 (fun _ _ => rfl) (fun c15 => ?_) (fun c15 => ?_)
  · rw [if_pos c15] at HF
    have hz := Option.some.inj HF
    subst hz
    replace HF := HK13
    have hz := Option.some.inj HF
    subst hz
    rw [← H25 _ rfl] at HK6
    exact q_wk (loc := [some (.inr (.inr (24, 6, 0))), some (.inl s3.1), none, none, none]) ⟨Or.inl rfl, ⟨Or.inl rfl, ⟨Or.inr ⟨rfl, fun _ h => by cases h⟩, ⟨Or.inr ⟨rfl, fun _ h => by cases h⟩, ⟨Or.inl rfl, trivial⟩⟩⟩⟩⟩ (hP7 (s3.1, s3.2.2.2) HK6)
  · rw [if_neg c15] at HF
    have hz := Option.some.inj HF
    subst hz
    exact hP14 () HK13
def Rp_asChanger (a1 : Int32) (a2 : Int32) (h : q_H) : Option Int32 :=
  (Rp_asReader a1 a2 h).bind fun x1 => if x1 = 0 then ((St_seenPlace 0 a1 a2 h).bind fun x3 => (Pg_at 0 x3 h).bind fun x5 => (Tn_stateOf 0 (h.1 3 7 0 x5) h).bind fun x7 => if x7 = 0 then (some ((7 : Int32))) else (if x7 = 1 then (some ((8 : Int32))) else (some ((0 : Int32))))) else (some (x1))
set_option maxRecDepth 100000 in
set_option maxHeartbeats 4000000 in
theorem eRp_asChanger {d : Nat} (hd : 5 ≤ d) {a1 : Int32} {a2 : Int32} {h : q_H} {r : Int32} (HF : Rp_asChanger a1 a2 h = some r) : q_T d 50 [.inr (.inr (24, 6, 0)), .inl a1, .inl a2] h (some (.inl r), h) := by
  obtain ⟨d, rfl⟩ : ∃ d', d = d' + 1 := ⟨d - 1, by omega⟩
  refine q_ent q_K50 rfl rfl rfl ?_
  unfold Rp_asChanger at HF
  obtain ⟨x1, hx2, HF⟩ := q_bind HF
  refine q_cll (m' := 49) (av := [.inr (.inr (24, 6, 0)), .inl a1, .inl a2]) (st' := []) (pc' := 6) (loc' := [some (.inr (.inr (24, 6, 0))), some (.inl a1), some (.inl a2), none, none]) (h' := h) 4 (fun _ _ => rfl) (eRp_asReader (by omega) hx2) ?_
  refine q_br (P := x1 = 0) (pcT := 13) (pcF := 11) (loc' := [some (.inr (.inr (24, 6, 0))), some (.inl a1), some (.inl a2), some (.inl x1), none]) (stk' := []) (h' := h) 3 (fun _ _ => rfl) (fun c11 => ?_) (fun c11 => ?_)
  · rw [if_pos c11] at HF
    obtain ⟨x3, hx4, HF⟩ := q_bind HF
    refine q_cll (m' := 156) (av := [.inr (.inr (0, 0, 0)), .inl a1, .inl a2]) (st' := [.inr (.inr (1, 0, 0))]) (pc' := 29) (loc' := [some (.inr (.inr (24, 6, 0))), some (.inl a1), some (.inl a2), some (.inl x1), none]) (h' := h) 8 (fun _ _ => rfl) (eSt_seenPlace (by omega) hx4) ?_
    obtain ⟨x5, hx6, HF⟩ := q_bind HF
    refine q_cll (m' := 89) (av := [.inr (.inr (1, 0, 0)), .inl x3]) (st' := []) (pc' := 32) (loc' := [some (.inr (.inr (24, 6, 0))), some (.inl a1), some (.inl a2), some (.inl x1), none]) (h' := h) 1 (fun _ _ => rfl) (ePg_at (by omega) hx6) ?_
    obtain ⟨x7, hx8, HF⟩ := q_bind HF
    refine q_cll (m' := 106) (av := [.inr (.inr (6, 0, 0)), .inl (h.1 3 7 0 x5)]) (st' := []) (pc' := 49) (loc' := [some (.inr (.inr (24, 6, 0))), some (.inl a1), some (.inl a2), some (.inl x1), some (.inl (h.1 3 7 0 x5))]) (h' := h) 7 (fun _ _ => rfl) (eTn_stateOf (by omega) hx8) ?_
    by_cases c9 : x7 = 0
    · rw [if_pos c9] at HF
      refine q_lsw (a := x7) (o1 := 27) (pcx := 49) (pc' := 76) (loc' := [some (.inr (.inr (24, 6, 0))), some (.inl a1), some (.inl a2), some (.inl x1), some (.inl (h.1 3 7 0 x5))]) (stk' := []) (h' := h) 1 (fun _ _ => rfl) (by rw [c9]; rfl) rfl ?_
      have hz := Option.some.inj HF
      subst hz
      exact q_rtn 2 (fun _ _ => rfl)
    · rw [if_neg c9] at HF
      by_cases c10 : x7 = 1
      · rw [if_pos c10] at HF
        refine q_lsw (a := x7) (o1 := 30) (pcx := 49) (pc' := 79) (loc' := [some (.inr (.inr (24, 6, 0))), some (.inl a1), some (.inl a2), some (.inl x1), some (.inl (h.1 3 7 0 x5))]) (stk' := []) (h' := h) 1 (fun _ _ => rfl) (by rw [c10]; rfl) rfl ?_
        have hz := Option.some.inj HF
        subst hz
        exact q_rtn 2 (fun _ _ => rfl)
      · rw [if_neg c10] at HF
        refine q_lsw (a := x7) (o1 := 33) (pcx := 49) (pc' := 82) (loc' := [some (.inr (.inr (24, 6, 0))), some (.inl a1), some (.inl a2), some (.inl x1), some (.inl (h.1 3 7 0 x5))]) (stk' := []) (h' := h) 1 (fun _ _ => rfl) ((lv_osw c9 (a := 0) rfl).trans ((lv_osw c10 (a := 1) rfl).trans rfl)) rfl ?_
        have hz := Option.some.inj HF
        subst hz
        exact q_rtn 2 (fun _ _ => rfl)
  · rw [if_neg c11] at HF
    have hz := Option.some.inj HF
    subst hz
    exact q_rtn 2 (fun _ _ => rfl)
def Tn_endAll (k : Nat) (h : q_H) : Option q_H :=
  (q_lp (fun s1 : Int32 × q_H => (if (s1.2.1 6 4 k 0) ≤ s1.1 then (some (.inr (s1.2))) else ((Tn_stateOf k s1.1 s1.2).bind fun x9 => Option.bind (α := q_H) (if ¬ x9 = 0 then (some (s1.2)) else ((Tn_end k s1.1 (1 : Int32) s1.2).bind fun x15 => some (x15))) (fun p18 => some (.inl ((s1.1 + (1 : Int32)), p18)))) : Option ((Int32 × q_H) ⊕ q_H))) q_fu (((1 : Int32), h) : Int32 × q_H)).bind fun z8 => some z8
set_option maxRecDepth 100000 in
set_option maxHeartbeats 4000000 in
theorem eTn_endAll {d : Nat} (hd : 5 ≤ d) {k : Nat} {h : q_H} {r : q_H} (HF : Tn_endAll k h = some r) : q_T d 114 [.inr (.inr (6, k, 0))] h (none, r) := by
  obtain ⟨d, rfl⟩ : ∃ d', d = d' + 1 := ⟨d - 1, by omega⟩
  refine q_ent q_K114 rfl rfl rfl ?_
  unfold Tn_endAll at HF
  refine q_blk (pc' := 2) (loc' := [some (.inr (.inr (6, k, 0))), some (.inl (1 : Int32))]) (stk' := []) (h' := h) 2 (fun _ _ => rfl) ?_
  obtain ⟨r6, hl7, HK4⟩ := q_bind HF
  refine q_lpE (E := fun s1 => q_E d q_K114 2 [some (.inr (.inr (6, k, 0))), some (.inl s1.1)] [] s1.2 (none, r)) r6 (fun s1 z8 HF H12 H23 => ?_) _ _ hl7
  refine q_br (P := (s1.2.1 6 4 k 0) ≤ s1.1) (pcT := 30) (pcF := 10) (loc' := [some (.inr (.inr (6, k, 0))), some (.inl s1.1)]) (stk' := []) (h' := s1.2) 4 (fun _ _ => rfl) (fun c20 => ?_) (fun c20 => ?_)
  · rw [if_pos c20] at HF
    have hz := Option.some.inj HF
    subst hz
    replace HF := HK4
    rw [← H23 _ rfl] at HF
    have hz := Option.some.inj HF
    subst hz
    exact q_rtn 1 (fun _ _ => rfl)
  · rw [if_neg c20] at HF
    obtain ⟨x9, hx10, HF⟩ := q_bind HF
    refine q_cll (m' := 106) (av := [.inr (.inr (6, k, 0)), .inl s1.1]) (st' := []) (pc' := 15) (loc' := [some (.inr (.inr (6, k, 0))), some (.inl s1.1)]) (h' := s1.2) 3 (fun _ _ => rfl) (eTn_stateOf (by omega) hx10) ?_
    obtain ⟨z11, HA12, HK13⟩ := q_bind HF
    have hP14 : ∀ p18 : q_H, (some (.inl ((s1.1 + (1 : Int32)), p18)) : Option ((Int32 × q_H) ⊕ q_H)) = some z8 → q_E d q_K114 24 [some (.inr (.inr (6, k, 0))), some (.inl s1.1)] [] p18 (none, r) := by
      intro p18 HF
      refine q_blk (pc' := 2) (loc' := [some (.inr (.inr (6, k, 0))), some (.inl (s1.1 + (1 : Int32)))]) (stk' := []) (h' := p18) 2 (fun _ _ => rfl) ?_
      have hz := Option.some.inj HF
      subst hz
      exact H12 ((s1.1 + (1 : Int32)), p18) rfl
    replace HF := HA12
    refine q_br (P := ¬ x9 = 0) (pcT := 24) (pcF := 18) (loc' := [some (.inr (.inr (6, k, 0))), some (.inl s1.1)]) (stk' := []) (h' := s1.2) 1 (fun _ _ => rfl) (fun c17 => ?_) (fun c17 => ?_)
    · rw [if_pos c17] at HF
      have hz := Option.some.inj HF
      subst hz
      exact hP14 (s1.2) HK13
    · rw [if_neg c17] at HF
      obtain ⟨x15, hx16, HF⟩ := q_bind HF
      refine q_cll (m' := 113) (av := [.inr (.inr (6, k, 0)), .inl s1.1, .inl (1 : Int32)]) (st' := []) (pc' := 24) (loc' := [some (.inr (.inr (6, k, 0))), some (.inl s1.1)]) (h' := s1.2) 4 (fun _ _ => rfl) (eTn_end (by omega) hx16) ?_
      have hz := Option.some.inj HF
      subst hz
      exact hP14 (x15) HK13
def Tx_readKind (a1 : Int32) (h : q_H) : Option (Int32 × q_H) :=
  (Tx_readToken h).bind fun x1 => (Tx_isGood a1 x1).bind fun x3 => bif q_01 x3.1 then some ((x3.1, x3.2)) else none
set_option maxRecDepth 100000 in
set_option maxHeartbeats 4000000 in
theorem eTx_readKind {d : Nat} (hd : 5 ≤ d) {a1 : Int32} {h : q_H} {r : (Int32 × q_H)} (HF : Tx_readKind a1 h = some r) : q_T d 132 [.inr (.inr (25, 6, 0)), .inl a1] h (some (.inl r.1), r.2) := by
  obtain ⟨d, rfl⟩ : ∃ d', d = d' + 1 := ⟨d - 1, by omega⟩
  refine q_ent q_K132 rfl rfl rfl ?_
  unfold Tx_readKind at HF
  obtain ⟨x1, hx2, HF⟩ := q_bind HF
  refine q_cll (m' := 135) (av := [.inr (.inr (25, 6, 0))]) (st' := []) (pc' := 4) (loc' := [some (.inr (.inr (25, 6, 0))), some (.inl a1)]) (h' := h) 2 (fun _ _ => rfl) (eTx_readToken (by omega) hx2) ?_
  obtain ⟨x3, hx4, HF⟩ := q_bind HF
  refine q_cll (m' := 133) (av := [.inr (.inr (25, 6, 0)), .inl a1]) (st' := []) (pc' := 9) (loc' := [some (.inr (.inr (25, 6, 0))), some (.inl a1)]) (h' := x1) 3 (fun _ _ => rfl) (eTx_isGood (by omega) hx4) ?_
  obtain ⟨g5, HF⟩ := q_gF HF
  have hz := Option.some.inj HF
  subst hz
  exact q_rtz 1 (fun _ _ => rfl) g5
def St_versionsThatAre (k : Nat) (a1 : Int32) (h : q_H) : Option Int32 :=
  (q_lp (fun s1 : Int32 × Int32 => (if (60 : Int32) ≤ s1.2 then (some (.inr (s1.1))) else ((Pg_at k s1.2 h).bind fun x9 => Option.bind (α := Int32) (if ¬ (h.1 3 0 k x9) = (1 : Int32) then (some (s1.1)) else ((St_isCounted k k x9 a1 h).bind fun x15 => if x15 = 0 then (some (s1.1)) else (some ((s1.1 + (1 : Int32)))))) (fun p19 => some (.inl (p19, (s1.2 + (1 : Int32)))))) : Option ((Int32 × Int32) ⊕ Int32))) q_fu (((0 : Int32), (0 : Int32)) : Int32 × Int32)).bind fun z8 => some z8
set_option maxRecDepth 100000 in
set_option maxHeartbeats 4000000 in
theorem eSt_versionsThatAre {d : Nat} (hd : 5 ≤ d) {k : Nat} {a1 : Int32} {h : q_H} {r : Int32} (HF : St_versionsThatAre k a1 h = some r) : q_T d 148 [.inr (.inr (0, k, 0)), .inl a1] h (some (.inl r), h) := by
  obtain ⟨d, rfl⟩ : ∃ d', d = d' + 1 := ⟨d - 1, by omega⟩
  refine q_ent q_K148 rfl rfl rfl ?_
  unfold St_versionsThatAre at HF
  refine q_blk (pc' := 4) (loc' := [some (.inr (.inr (0, k, 0))), some (.inl a1), some (.inl (0 : Int32)), some (.inl (0 : Int32)), none]) (stk' := []) (h' := h) 4 (fun _ _ => rfl) ?_
  obtain ⟨r6, hl7, HK4⟩ := q_bind HF
  refine q_lpE (E := fun s1 => q_E d q_K148 4 [some (.inr (.inr (0, k, 0))), some (.inl a1), some (.inl s1.1), some (.inl s1.2), none] [] h (some (.inl r), h)) r6 (fun s1 z8 HF H12 H23 => ?_) _ _ hl7
  refine q_br (P := (60 : Int32) ≤ s1.2) (pcT := 48) (pcF := 10) (loc' := [some (.inr (.inr (0, k, 0))), some (.inl a1), some (.inl s1.1), some (.inl s1.2), none]) (stk' := []) (h' := h) 3 (fun _ _ => rfl) (fun c21 => ?_) (fun c21 => ?_)
  · rw [if_pos c21] at HF
    have hz := Option.some.inj HF
    subst hz
    replace HF := HK4
    rw [← H23 _ rfl] at HF
    have hz := Option.some.inj HF
    subst hz
    exact q_rtn 2 (fun _ _ => rfl)
  · rw [if_neg c21] at HF
    obtain ⟨x9, hx10, HF⟩ := q_bind HF
    refine q_cll (m' := 89) (av := [.inr (.inr (1, k, 0)), .inl s1.2]) (st' := []) (pc' := 18) (loc' := [some (.inr (.inr (0, k, 0))), some (.inl a1), some (.inl s1.1), some (.inl s1.2), none]) (h' := h) 4 (fun _ _ => rfl) (ePg_at (by omega) hx10) ?_
    obtain ⟨z11, HA12, HK13⟩ := q_bind HF
    have hP14 : ∀ p19 : Int32, (some (.inl (p19, (s1.2 + (1 : Int32)))) : Option ((Int32 × Int32) ⊕ Int32)) = some z8 → q_E d q_K148 42 [some (.inr (.inr (0, k, 0))), some (.inl a1), some (.inl p19), some (.inl s1.2), some (.inr (.inr (3, k, x9)))] [] h (some (.inl r), h) := by
      intro p19 HF
      refine q_blk (pc' := 4) (loc' := [some (.inr (.inr (0, k, 0))), some (.inl a1), some (.inl p19), some (.inl (s1.2 + (1 : Int32))), some (.inr (.inr (3, k, x9)))]) (stk' := []) (h' := h) 2 (fun _ _ => rfl) ?_
      have hz := Option.some.inj HF
      subst hz
      exact q_wk (loc := [some (.inr (.inr (0, k, 0))), some (.inl a1), some (.inl p19), some (.inl (s1.2 + (1 : Int32))), none]) ⟨Or.inl rfl, ⟨Or.inl rfl, ⟨Or.inl rfl, ⟨Or.inl rfl, ⟨Or.inr ⟨rfl, fun _ h => by cases h⟩, trivial⟩⟩⟩⟩⟩ (H12 (p19, (s1.2 + (1 : Int32))) rfl)
    replace HF := HA12
    refine q_br (P := ¬ (h.1 3 0 k x9) = (1 : Int32)) (pcT := 42) (pcF := 29) (loc' := [some (.inr (.inr (0, k, 0))), some (.inl a1), some (.inl s1.1), some (.inl s1.2), some (.inr (.inr (3, k, x9)))]) (stk' := []) (h' := h) 5 (fun _ _ => rfl) (fun c18 => ?_) (fun c18 => ?_)
    · rw [if_pos c18] at HF
      have hz := Option.some.inj HF
      subst hz
      exact hP14 (s1.1) HK13
    · rw [if_neg c18] at HF
      obtain ⟨x15, hx16, HF⟩ := q_bind HF
      refine q_cll (m' := 149) (av := [.inr (.inr (0, k, 0)), .inr (.inr (3, k, x9)), .inl a1]) (st' := []) (pc' := 36) (loc' := [some (.inr (.inr (0, k, 0))), some (.inl a1), some (.inl s1.1), some (.inl s1.2), some (.inr (.inr (3, k, x9)))]) (h' := h) 4 (fun _ _ => rfl) (eSt_isCounted (by omega) hx16) ?_
      refine q_br (P := x15 = 0) (pcT := 42) (pcF := 39) (loc' := [some (.inr (.inr (0, k, 0))), some (.inl a1), some (.inl s1.1), some (.inl s1.2), some (.inr (.inr (3, k, x9)))]) (stk' := []) (h' := h) 1 (fun _ _ => rfl) (fun c17 => ?_) (fun c17 => ?_)
      · rw [if_pos c17] at HF
        have hz := Option.some.inj HF
        subst hz
        exact hP14 (s1.1) HK13
      · rw [if_neg c17] at HF
        refine q_blk (pc' := 42) (loc' := [some (.inr (.inr (0, k, 0))), some (.inl a1), some (.inl (s1.1 + (1 : Int32))), some (.inl s1.2), some (.inr (.inr (3, k, x9)))]) (stk' := []) (h' := h) 1 (fun _ _ => rfl) ?_
        have hz := Option.some.inj HF
        subst hz
        exact hP14 (s1.1 + (1 : Int32)) HK13
def St_addRow (k : Nat) (a1 : Int32) (a2 : Int32) (a3 : Int32) (a4 : Int32) (a5 : Int32) (h : q_H) : Option (Int32 × q_H) :=
  (St_addVersion k a1 (h.1 0 7 k 0) a2 a3 a4 a5 (0 : Int32) (q_si h 0 7 k 0 ((h.1 0 7 k 0) + (1 : Int32)))).bind fun x1 => some (((h.1 0 7 k 0), x1))
set_option maxRecDepth 100000 in
set_option maxHeartbeats 4000000 in
theorem eSt_addRow {d : Nat} (hd : 5 ≤ d) {k : Nat} {a1 : Int32} {a2 : Int32} {a3 : Int32} {a4 : Int32} {a5 : Int32} {h : q_H} {r : (Int32 × q_H)} (HF : St_addRow k a1 a2 a3 a4 a5 h = some r) : q_T d 160 [.inr (.inr (0, k, 0)), .inl a1, .inl a2, .inl a3, .inl a4, .inl a5] h (some (.inl r.1), r.2) := by
  obtain ⟨d, rfl⟩ : ∃ d', d = d' + 1 := ⟨d - 1, by omega⟩
  refine q_ent q_K160 rfl rfl rfl ?_
  unfold St_addRow at HF
  obtain ⟨x1, hx2, HF⟩ := q_bind HF
  refine q_cll (m' := 161) (av := [.inr (.inr (0, k, 0)), .inl a1, .inl (h.1 0 7 k 0), .inl a2, .inl a3, .inl a4, .inl a5, .inl (0 : Int32)]) (st' := []) (pc' := 30) (loc' := [some (.inr (.inr (0, k, 0))), some (.inl a1), some (.inl a2), some (.inl a3), some (.inl a4), some (.inl a5), some (.inl (h.1 0 7 k 0))]) (h' := (q_si h 0 7 k 0 ((h.1 0 7 k 0) + (1 : Int32)))) 18 (fun _ _ => rfl) (eSt_addVersion (by omega) hx2) ?_
  have hz := Option.some.inj HF
  subst hz
  exact q_rtn 2 (fun _ _ => rfl)
def St_placeBehind (k : Nat) (a1 : Int32) (a2 : Int32) (h : q_H) : Option (Int32 × q_H) :=
  (Rp_pageOf a1 h).bind fun x1 => (Pg_placeIn k x1 a2 h).bind fun x3 => if x3 = (-1 : Int32) then ((St_prunePage k x1 h).bind fun x5 => (Pg_placeIn k x1 a2 x5.2).bind fun x7 => if x7 = (-1 : Int32) then ((Pg_firstPlace k a2 x5.2).bind fun x9 => some ((x9, x5.2))) else (some ((x7, x5.2)))) else (some ((x3, h)))
set_option maxRecDepth 100000 in
set_option maxHeartbeats 4000000 in
theorem eSt_placeBehind {d : Nat} (hd : 5 ≤ d) {k : Nat} {a1 : Int32} {a2 : Int32} {h : q_H} {r : (Int32 × q_H)} (HF : St_placeBehind k a1 a2 h = some r) : q_T d 163 [.inr (.inr (0, k, 0)), .inl a1, .inl a2] h (some (.inl r.1), r.2) := by
  obtain ⟨d, rfl⟩ : ∃ d', d = d' + 1 := ⟨d - 1, by omega⟩
  refine q_ent q_K163 rfl rfl rfl ?_
  unfold St_placeBehind at HF
  obtain ⟨x1, hx2, HF⟩ := q_bind HF
  refine q_cll (m' := 58) (av := [.inl a1]) (st' := []) (pc' := 4) (loc' := [some (.inr (.inr (0, k, 0))), some (.inl a1), some (.inl a2), none, none]) (h' := h) 2 (fun _ _ => rfl) (eRp_pageOf (by omega) hx2) ?_
  obtain ⟨x3, hx4, HF⟩ := q_bind HF
  refine q_cll (m' := 99) (av := [.inr (.inr (1, k, 0)), .inl x1, .inl a2]) (st' := []) (pc' := 14) (loc' := [some (.inr (.inr (0, k, 0))), some (.inl a1), some (.inl a2), some (.inl x1), none]) (h' := h) 6 (fun _ _ => rfl) (ePg_placeIn (by omega) hx4) ?_
  refine q_br (P := x3 = (-1 : Int32)) (pcT := 25) (pcF := 22) (loc' := [some (.inr (.inr (0, k, 0))), some (.inl a1), some (.inl a2), some (.inl x1), some (.inl x3)]) (stk' := []) (h' := h) 4 (fun _ _ => rfl) (fun c12 => ?_) (fun c12 => ?_)
  · rw [if_pos c12] at HF
    obtain ⟨x5, hx6, HF⟩ := q_bind HF
    refine q_cll (m' := 164) (av := [.inr (.inr (0, k, 0)), .inl x1]) (st' := []) (pc' := 30) (loc' := [some (.inr (.inr (0, k, 0))), some (.inl a1), some (.inl a2), some (.inl x1), some (.inl x3)]) (h' := h) 3 (fun _ _ => rfl) (eSt_prunePage (by omega) hx6) ?_
    obtain ⟨x7, hx8, HF⟩ := q_bind HF
    refine q_cll (m' := 99) (av := [.inr (.inr (1, k, 0)), .inl x1, .inl a2]) (st' := []) (pc' := 40) (loc' := [some (.inr (.inr (0, k, 0))), some (.inl a1), some (.inl a2), some (.inl x1), some (.inl x3)]) (h' := x5.2) 6 (fun _ _ => rfl) (ePg_placeIn (by omega) hx8) ?_
    refine q_br (P := x7 = (-1 : Int32)) (pcT := 53) (pcF := 48) (loc' := [some (.inr (.inr (0, k, 0))), some (.inl a1), some (.inl a2), some (.inl x1), some (.inl x7)]) (stk' := []) (h' := x5.2) 4 (fun _ _ => rfl) (fun c11 => ?_) (fun c11 => ?_)
    · rw [if_pos c11] at HF
      obtain ⟨x9, hx10, HF⟩ := q_bind HF
      refine q_cll (m' := 100) (av := [.inr (.inr (1, k, 0)), .inl a2]) (st' := []) (pc' := 61) (loc' := [some (.inr (.inr (0, k, 0))), some (.inl a1), some (.inl a2), some (.inl x1), some (.inl x7)]) (h' := x5.2) 4 (fun _ _ => rfl) (ePg_firstPlace (by omega) hx10) ?_
      have hz := Option.some.inj HF
      subst hz
      exact q_rtn 1 (fun _ _ => rfl)
    · rw [if_neg c11] at HF
      have hz := Option.some.inj HF
      subst hz
      exact q_rtn 3 (fun _ _ => rfl)
  · rw [if_neg c12] at HF
    have hz := Option.some.inj HF
    subst hz
    exact q_rtn 2 (fun _ _ => rfl)
def St_vacuumAll (k : Nat) (h : q_H) : Option (Int32 × q_H) :=
  (q_lp (fun s1 : Int32 × q_H => (Option.bind (α := (Unit) ⊕ ((Int32 × q_H) ⊕ (q_H))) (if (6 : Int32) ≤ s1.1 then (some (.inr (.inr (s1.2)))) else (some (.inl ()))) (fun z9 => match z9 with | .inl p14 => (St_prunePage k s1.1 s1.2).bind fun x15 => some (.inl ((s1.1 + (1 : Int32)), x15.2)) | .inr z9 => some z9) : Option ((Int32 × q_H) ⊕ (q_H)))) q_fu (((0 : Int32), h) : Int32 × q_H)).bind fun p18 => (St_clearStubs k p18).bind fun x19 => (q_lp (fun s21 : Int32 × q_H => (Option.bind (α := (Unit) ⊕ ((Int32 × q_H) ⊕ (q_H))) (if (6 : Int32) ≤ s21.1 then (some (.inr (.inr (s21.2)))) else (some (.inl ()))) (fun z29 => match z29 with | .inl p34 => (Pg_dropUnusedBehind k s21.1 s21.2).bind fun x35 => some (.inl ((s21.1 + (1 : Int32)), x35)) | .inr z29 => some z29) : Option ((Int32 × q_H) ⊕ (q_H)))) q_fu (((0 : Int32), x19.2) : Int32 × q_H)).bind fun p38 => (St_freezeOld k p38).bind fun x39 => (q_lp (fun s41 : Int32 × q_H => (if (6 : Int32) ≤ s41.1 then (some (.inr ((x19.1, s41.2)))) else ((St_isClearNow k s41.1 s41.2).bind fun x49 => (Pg_setClear k s41.1 x49 s41.2).bind fun x51 => some (.inl ((s41.1 + (1 : Int32)), x51))) : Option ((Int32 × q_H) ⊕ (Int32 × q_H)))) q_fu (((0 : Int32), x39) : Int32 × q_H)).bind fun z48 => some z48
set_option maxRecDepth 100000 in
set_option maxHeartbeats 4000000 in
theorem eSt_vacuumAll {d : Nat} (hd : 5 ≤ d) {k : Nat} {h : q_H} {r : (Int32 × q_H)} (HF : St_vacuumAll k h = some r) : q_T d 166 [.inr (.inr (0, k, 0))] h (some (.inl r.1), r.2) := by
  obtain ⟨d, rfl⟩ : ∃ d', d = d' + 1 := ⟨d - 1, by omega⟩
  refine q_ent q_K166 rfl rfl rfl ?_
  unfold St_vacuumAll at HF
  refine q_blk (pc' := 2) (loc' := [some (.inr (.inr (0, k, 0))), some (.inl (0 : Int32)), none]) (stk' := []) (h' := h) 2 (fun _ _ => rfl) ?_
  obtain ⟨r6, hl7, HK4⟩ := q_bind HF
  have hP5 : ∀ p18 : q_H, ((St_clearStubs k p18).bind fun x19 => (q_lp (fun s21 : Int32 × q_H => (Option.bind (α := (Unit) ⊕ ((Int32 × q_H) ⊕ (q_H))) (if (6 : Int32) ≤ s21.1 then (some (.inr (.inr (s21.2)))) else (some (.inl ()))) (fun z29 => match z29 with | .inl p34 => (Pg_dropUnusedBehind k s21.1 s21.2).bind fun x35 => some (.inl ((s21.1 + (1 : Int32)), x35)) | .inr z29 => some z29) : Option ((Int32 × q_H) ⊕ (q_H)))) q_fu (((0 : Int32), x19.2) : Int32 × q_H)).bind fun p38 => (St_freezeOld k p38).bind fun x39 => (q_lp (fun s41 : Int32 × q_H => (if (6 : Int32) ≤ s41.1 then (some (.inr ((x19.1, s41.2)))) else ((St_isClearNow k s41.1 s41.2).bind fun x49 => (Pg_setClear k s41.1 x49 s41.2).bind fun x51 => some (.inl ((s41.1 + (1 : Int32)), x51))) : Option ((Int32 × q_H) ⊕ (Int32 × q_H)))) q_fu (((0 : Int32), x39) : Int32 × q_H)).bind fun z48 => some z48 : Option (Int32 × q_H)) = some r → q_E d q_K166 20 [some (.inr (.inr (0, k, 0))), none, none] [] p18 (some (.inl r.1), r.2) := by
    intro p18 HF
    obtain ⟨x19, hx20, HF⟩ := q_bind HF
    refine q_cll (m' := 167) (av := [.inr (.inr (0, k, 0))]) (st' := []) (pc' := 24) (loc' := [some (.inr (.inr (0, k, 0))), none, none]) (h' := p18) 2 (fun _ _ => rfl) (eSt_clearStubs (by omega) hx20) ?_
    refine q_blk (pc' := 27) (loc' := [some (.inr (.inr (0, k, 0))), some (.inl x19.1), some (.inl (0 : Int32))]) (stk' := []) (h' := x19.2) 3 (fun _ _ => rfl) ?_
    obtain ⟨r26, hl27, HK24⟩ := q_bind HF
    have hP25 : ∀ p38 : q_H, ((St_freezeOld k p38).bind fun x39 => (q_lp (fun s41 : Int32 × q_H => (if (6 : Int32) ≤ s41.1 then (some (.inr ((x19.1, s41.2)))) else ((St_isClearNow k s41.1 s41.2).bind fun x49 => (Pg_setClear k s41.1 x49 s41.2).bind fun x51 => some (.inl ((s41.1 + (1 : Int32)), x51))) : Option ((Int32 × q_H) ⊕ (Int32 × q_H)))) q_fu (((0 : Int32), x39) : Int32 × q_H)).bind fun z48 => some z48 : Option (Int32 × q_H)) = some r → q_E d q_K166 47 [some (.inr (.inr (0, k, 0))), some (.inl x19.1), none] [] p38 (some (.inl r.1), r.2) := by
      intro p38 HF
      obtain ⟨x39, hx40, HF⟩ := q_bind HF
      refine q_cll (m' := 169) (av := [.inr (.inr (0, k, 0))]) (st' := []) (pc' := 51) (loc' := [some (.inr (.inr (0, k, 0))), some (.inl x19.1), none]) (h' := p38) 2 (fun _ _ => rfl) (eSt_freezeOld (by omega) hx40) ?_
      refine q_blk (pc' := 53) (loc' := [some (.inr (.inr (0, k, 0))), some (.inl x19.1), some (.inl (0 : Int32))]) (stk' := []) (h' := x39) 2 (fun _ _ => rfl) ?_
      obtain ⟨r46, hl47, HK44⟩ := q_bind HF
      refine q_lpE (E := fun s41 => q_E d q_K166 53 [some (.inr (.inr (0, k, 0))), some (.inl x19.1), some (.inl s41.1)] [] s41.2 (some (.inl r.1), r.2)) r46 (fun s41 z48 HF H142 H243 => ?_) _ _ hl47
      refine q_br (P := (6 : Int32) ≤ s41.1) (pcT := 78) (pcF := 59) (loc' := [some (.inr (.inr (0, k, 0))), some (.inl x19.1), some (.inl s41.1)]) (stk' := []) (h' := s41.2) 3 (fun _ _ => rfl) (fun c53 => ?_) (fun c53 => ?_)
      · rw [if_pos c53] at HF
        have hz := Option.some.inj HF
        subst hz
        replace HF := HK44
        rw [← H243 _ rfl] at HF
        have hz := Option.some.inj HF
        subst hz
        exact q_rtn 2 (fun _ _ => rfl)
      · rw [if_neg c53] at HF
        obtain ⟨x49, hx50, HF⟩ := q_bind HF
        refine q_cll (m' := 170) (av := [.inr (.inr (0, k, 0)), .inl s41.1]) (st' := [.inl s41.1, .inr (.inr (1, k, 0))]) (pc' := 69) (loc' := [some (.inr (.inr (0, k, 0))), some (.inl x19.1), some (.inl s41.1)]) (h' := s41.2) 6 (fun _ _ => rfl) (eSt_isClearNow (by omega) hx50) ?_
        obtain ⟨x51, hx52, HF⟩ := q_bind HF
        refine q_cll (m' := 93) (av := [.inr (.inr (1, k, 0)), .inl s41.1, .inl x49]) (st' := []) (pc' := 72) (loc' := [some (.inr (.inr (0, k, 0))), some (.inl x19.1), some (.inl s41.1)]) (h' := s41.2) 1 (fun _ _ => rfl) (ePg_setClear (by omega) hx52) ?_
        refine q_blk (pc' := 53) (loc' := [some (.inr (.inr (0, k, 0))), some (.inl x19.1), some (.inl (s41.1 + (1 : Int32)))]) (stk' := []) (h' := x51) 2 (fun _ _ => rfl) ?_
        have hz := Option.some.inj HF
        subst hz
        exact H142 ((s41.1 + (1 : Int32)), x51) rfl
    refine q_lpE (E := fun s21 => q_E d q_K166 27 [some (.inr (.inr (0, k, 0))), some (.inl x19.1), some (.inl s21.1)] [] s21.2 (some (.inl r.1), r.2)) r26 (fun s21 z28 HF H122 H223 => ?_) _ _ hl27
    obtain ⟨z29, HA30, HK31⟩ := q_bind HF
    have hP32 : ∀ p34 : Unit, ((Pg_dropUnusedBehind k s21.1 s21.2).bind fun x35 => some (.inl ((s21.1 + (1 : Int32)), x35)) : Option ((Int32 × q_H) ⊕ (q_H))) = some z28 → q_E d q_K166 33 [some (.inr (.inr (0, k, 0))), some (.inl x19.1), some (.inl s21.1)] [] s21.2 (some (.inl r.1), r.2) := by
      intro p34 HF
      obtain ⟨x35, hx36, HF⟩ := q_bind HF
      refine q_cll (m' := 102) (av := [.inr (.inr (1, k, 0)), .inl s21.1]) (st' := []) (pc' := 41) (loc' := [some (.inr (.inr (0, k, 0))), some (.inl x19.1), some (.inl s21.1)]) (h' := s21.2) 4 (fun _ _ => rfl) (ePg_dropUnusedBehind (by omega) hx36) ?_
      refine q_blk (pc' := 27) (loc' := [some (.inr (.inr (0, k, 0))), some (.inl x19.1), some (.inl (s21.1 + (1 : Int32)))]) (stk' := []) (h' := x35) 2 (fun _ _ => rfl) ?_
      have hz := Option.some.inj HF
      subst hz
      exact H122 ((s21.1 + (1 : Int32)), x35) rfl
    replace HF := HA30
    refine q_br (P := (6 : Int32) ≤ s21.1) (pcT := 47) (pcF := 33) (loc' := [some (.inr (.inr (0, k, 0))), some (.inl x19.1), some (.inl s21.1)]) (stk' := []) (h' := s21.2) 3 (fun _ _ => rfl) (fun c33 => ?_) (fun c33 => ?_)
    · rw [if_pos c33] at HF
      have hz := Option.some.inj HF
      subst hz
      replace HF := HK31
      have hz := Option.some.inj HF
      subst hz
      rw [← H223 _ rfl] at HK24
      exact q_wk (loc := [some (.inr (.inr (0, k, 0))), some (.inl x19.1), none]) ⟨Or.inl rfl, ⟨Or.inl rfl, ⟨Or.inr ⟨rfl, fun _ h => by cases h⟩, trivial⟩⟩⟩ (hP25 (s21.2) HK24)
    · rw [if_neg c33] at HF
      have hz := Option.some.inj HF
      subst hz
      exact hP32 () HK31
  refine q_lpE (E := fun s1 => q_E d q_K166 2 [some (.inr (.inr (0, k, 0))), some (.inl s1.1), none] [] s1.2 (some (.inl r.1), r.2)) r6 (fun s1 z8 HF H12 H23 => ?_) _ _ hl7
  obtain ⟨z9, HA10, HK11⟩ := q_bind HF
  have hP12 : ∀ p14 : Unit, ((St_prunePage k s1.1 s1.2).bind fun x15 => some (.inl ((s1.1 + (1 : Int32)), x15.2)) : Option ((Int32 × q_H) ⊕ (q_H))) = some z8 → q_E d q_K166 8 [some (.inr (.inr (0, k, 0))), some (.inl s1.1), none] [] s1.2 (some (.inl r.1), r.2) := by
    intro p14 HF
    obtain ⟨x15, hx16, HF⟩ := q_bind HF
    refine q_cll (m' := 164) (av := [.inr (.inr (0, k, 0)), .inl s1.1]) (st' := []) (pc' := 13) (loc' := [some (.inr (.inr (0, k, 0))), some (.inl s1.1), none]) (h' := s1.2) 3 (fun _ _ => rfl) (eSt_prunePage (by omega) hx16) ?_
    refine q_blk (pc' := 2) (loc' := [some (.inr (.inr (0, k, 0))), some (.inl (s1.1 + (1 : Int32))), none]) (stk' := []) (h' := x15.2) 3 (fun _ _ => rfl) ?_
    have hz := Option.some.inj HF
    subst hz
    exact H12 ((s1.1 + (1 : Int32)), x15.2) rfl
  replace HF := HA10
  refine q_br (P := (6 : Int32) ≤ s1.1) (pcT := 20) (pcF := 8) (loc' := [some (.inr (.inr (0, k, 0))), some (.inl s1.1), none]) (stk' := []) (h' := s1.2) 3 (fun _ _ => rfl) (fun c13 => ?_) (fun c13 => ?_)
  · rw [if_pos c13] at HF
    have hz := Option.some.inj HF
    subst hz
    replace HF := HK11
    have hz := Option.some.inj HF
    subst hz
    rw [← H23 _ rfl] at HK4
    exact q_wk (loc := [some (.inr (.inr (0, k, 0))), none, none]) ⟨Or.inl rfl, ⟨Or.inr ⟨rfl, fun _ h => by cases h⟩, ⟨Or.inl rfl, trivial⟩⟩⟩ (hP5 (s1.2) HK4)
  · rw [if_neg c13] at HF
    have hz := Option.some.inj HF
    subst hz
    exact hP12 () HK11
def St_layAnew (k : Nat) (k1 : Nat) (h : q_H) : Option (Int32 × q_H) :=
  (Pg_strip k h).bind fun x1 => (St_lastingBehind k1 (-1 : Int32) (-1 : Int32) (q_si x1 11 3 k 0 (0 : Int32))).bind fun x3 => (q_lp (fun s5 : Int32 × Int32 × q_H => (if (60 : Int32) ≤ s5.2.1 then (some (.inr (((1 : Int32), s5.2.2)))) else (if s5.1 = (-1 : Int32) then (some (.inr (((1 : Int32), s5.2.2)))) else ((Pg_at k1 s5.1 s5.2.2).bind fun x13 => (Pg_firstPlace k (s5.2.2.1 3 5 k1 x13) s5.2.2).bind fun x15 => if ¬ x15 = (-1 : Int32) then ((Pg_take k x15 s5.2.2).bind fun x17 => (St_layDown k k1 x13 x15 x17.2).bind fun x19 => (St_lastingBehind k1 (x19.1 3 3 k1 x13) (x19.1 3 2 k1 x13) x19).bind fun x21 => some (.inl (x21, (s5.2.1 + (1 : Int32)), x19))) else (some (.inr (((0 : Int32), s5.2.2)))))) : Option ((Int32 × Int32 × q_H) ⊕ (Int32 × q_H)))) q_fu ((x3, (0 : Int32), (q_si x1 11 3 k 0 (0 : Int32))) : Int32 × Int32 × q_H)).bind fun z12 => some z12
set_option maxRecDepth 100000 in
set_option maxHeartbeats 4000000 in
theorem eSt_layAnew {d : Nat} (hd : 5 ≤ d) {k : Nat} {k1 : Nat} {h : q_H} {r : (Int32 × q_H)} (HF : St_layAnew k k1 h = some r) : q_T d 176 [.inr (.inr (0, k, 0)), .inr (.inr (0, k1, 0))] h (some (.inl r.1), r.2) := by
  obtain ⟨d, rfl⟩ : ∃ d', d = d' + 1 := ⟨d - 1, by omega⟩
  refine q_ent q_K176 rfl rfl rfl ?_
  unfold St_layAnew at HF
  obtain ⟨x1, hx2, HF⟩ := q_bind HF
  refine q_cll (m' := 88) (av := [.inr (.inr (1, k, 0))]) (st' := []) (pc' := 7) (loc' := [some (.inr (.inr (0, k, 0))), some (.inr (.inr (0, k1, 0))), none, none, none, none]) (h' := h) 3 (fun _ _ => rfl) (ePg_strip (by omega) hx2) ?_
  obtain ⟨x3, hx4, HF⟩ := q_bind HF
  refine q_cll (m' := 178) (av := [.inr (.inr (0, k1, 0)), .inl (-1 : Int32), .inl (-1 : Int32)]) (st' := []) (pc' := 21) (loc' := [some (.inr (.inr (0, k, 0))), some (.inr (.inr (0, k1, 0))), none, none, none, none]) (h' := (q_si x1 11 3 k 0 (0 : Int32))) 8 (fun _ _ => rfl) (eSt_lastingBehind (by omega) hx4) ?_
  refine q_blk (pc' := 24) (loc' := [some (.inr (.inr (0, k, 0))), some (.inr (.inr (0, k1, 0))), some (.inl x3), some (.inl (0 : Int32)), none, none]) (stk' := []) (h' := (q_si x1 11 3 k 0 (0 : Int32))) 3 (fun _ _ => rfl) ?_
  obtain ⟨r10, hl11, HK8⟩ := q_bind HF
  refine q_lpE (E := fun s5 => q_E d q_K176 24 [some (.inr (.inr (0, k, 0))), some (.inr (.inr (0, k1, 0))), some (.inl s5.1), some (.inl s5.2.1), none, none] [] s5.2.2 (some (.inl r.1), r.2)) r10 (fun s5 z12 HF H16 H27 => ?_) _ _ hl11
  refine q_br (P := (60 : Int32) ≤ s5.2.1) (pcT := 106) (pcF := 30) (loc' := [some (.inr (.inr (0, k, 0))), some (.inr (.inr (0, k1, 0))), some (.inl s5.1), some (.inl s5.2.1), none, none]) (stk' := []) (h' := s5.2.2) 3 (fun _ _ => rfl) (fun c25 => ?_) (fun c25 => ?_)
  · rw [if_pos c25] at HF
    have hz := Option.some.inj HF
    subst hz
    replace HF := HK8
    rw [← H27 _ rfl] at HF
    have hz := Option.some.inj HF
    subst hz
    exact q_rtn 2 (fun _ _ => rfl)
  · rw [if_neg c25] at HF
    refine q_br (P := s5.1 = (-1 : Int32)) (pcT := 106) (pcF := 35) (loc' := [some (.inr (.inr (0, k, 0))), some (.inr (.inr (0, k1, 0))), some (.inl s5.1), some (.inl s5.2.1), none, none]) (stk' := []) (h' := s5.2.2) 3 (fun _ _ => rfl) (fun c24 => ?_) (fun c24 => ?_)
    · rw [if_pos c24] at HF
      have hz := Option.some.inj HF
      subst hz
      replace HF := HK8
      rw [← H27 _ rfl] at HF
      have hz := Option.some.inj HF
      subst hz
      exact q_rtn 2 (fun _ _ => rfl)
    · rw [if_neg c24] at HF
      obtain ⟨x13, hx14, HF⟩ := q_bind HF
      refine q_cll (m' := 89) (av := [.inr (.inr (1, k1, 0)), .inl s5.1]) (st' := []) (pc' := 43) (loc' := [some (.inr (.inr (0, k, 0))), some (.inr (.inr (0, k1, 0))), some (.inl s5.1), some (.inl s5.2.1), none, none]) (h' := s5.2.2) 4 (fun _ _ => rfl) (ePg_at (by omega) hx14) ?_
      obtain ⟨x15, hx16, HF⟩ := q_bind HF
      refine q_cll (m' := 100) (av := [.inr (.inr (1, k, 0)), .inl (s5.2.2.1 3 5 k1 x13)]) (st' := []) (pc' := 57) (loc' := [some (.inr (.inr (0, k, 0))), some (.inr (.inr (0, k1, 0))), some (.inl s5.1), some (.inl s5.2.1), some (.inr (.inr (3, k1, x13))), none]) (h' := s5.2.2) 6 (fun _ _ => rfl) (ePg_firstPlace (by omega) hx16) ?_
      refine q_br (P := ¬ x15 = (-1 : Int32)) (pcT := 67) (pcF := 65) (loc' := [some (.inr (.inr (0, k, 0))), some (.inr (.inr (0, k1, 0))), some (.inl s5.1), some (.inl s5.2.1), some (.inr (.inr (3, k1, x13))), some (.inl x15)]) (stk' := []) (h' := s5.2.2) 4 (fun _ _ => rfl) (fun c23 => ?_) (fun c23 => ?_)
      · rw [if_pos c23] at HF
        obtain ⟨x17, hx18, HF⟩ := q_bind HF
        refine q_cll (m' := 101) (av := [.inr (.inr (1, k, 0)), .inl x15]) (st' := []) (pc' := 76) (loc' := [some (.inr (.inr (0, k, 0))), some (.inr (.inr (0, k1, 0))), some (.inl s5.1), some (.inl s5.2.1), some (.inr (.inr (3, k1, x13))), some (.inl x15)]) (h' := s5.2.2) 4 (fun _ _ => rfl) (ePg_take (by omega) hx18) ?_
        obtain ⟨x19, hx20, HF⟩ := q_bind HF
        refine q_cll (m' := 177) (av := [.inr (.inr (0, k, 0)), .inr (.inr (3, k1, x13)), .inl x15]) (st' := []) (pc' := 85) (loc' := [some (.inr (.inr (0, k, 0))), some (.inr (.inr (0, k1, 0))), some (.inl s5.1), some (.inl s5.2.1), some (.inr (.inr (3, k1, x13))), some (.inl x15)]) (h' := x17.2) 5 (fun _ _ => rfl) (eSt_layDown (by omega) hx20) ?_
        obtain ⟨x21, hx22, HF⟩ := q_bind HF
        refine q_cll (m' := 178) (av := [.inr (.inr (0, k1, 0)), .inl (x19.1 3 3 k1 x13), .inl (x19.1 3 2 k1 x13)]) (st' := []) (pc' := 99) (loc' := [some (.inr (.inr (0, k, 0))), some (.inr (.inr (0, k1, 0))), some (.inl s5.1), some (.inl s5.2.1), some (.inr (.inr (3, k1, x13))), some (.inl x15)]) (h' := x19) 6 (fun _ _ => rfl) (eSt_lastingBehind (by omega) hx22) ?_
        refine q_blk (pc' := 24) (loc' := [some (.inr (.inr (0, k, 0))), some (.inr (.inr (0, k1, 0))), some (.inl x21), some (.inl (s5.2.1 + (1 : Int32))), some (.inr (.inr (3, k1, x13))), some (.inl x15)]) (stk' := []) (h' := x19) 3 (fun _ _ => rfl) ?_
        have hz := Option.some.inj HF
        subst hz
        exact q_wk (loc := [some (.inr (.inr (0, k, 0))), some (.inr (.inr (0, k1, 0))), some (.inl x21), some (.inl (s5.2.1 + (1 : Int32))), none, none]) ⟨Or.inl rfl, ⟨Or.inl rfl, ⟨Or.inl rfl, ⟨Or.inl rfl, ⟨Or.inr ⟨rfl, fun _ h => by cases h⟩, ⟨Or.inr ⟨rfl, fun _ h => by cases h⟩, trivial⟩⟩⟩⟩⟩⟩ (H16 (x21, (s5.2.1 + (1 : Int32)), x19) rfl)
      · rw [if_neg c23] at HF
        have hz := Option.some.inj HF
        subst hz
        replace HF := HK8
        rw [← H27 _ rfl] at HF
        have hz := Option.some.inj HF
        subst hz
        exact q_rtn 2 (fun _ _ => rfl)
def Mo_firstPlace (a1 : Int32) (h : q_H) : Option Int32 :=
  (q_lp (fun s1 : Int32 => (if (6 : Int32) ≤ s1 then (some (.inr ((-1 : Int32)))) else ((Mo_placeIn s1 a1 h).bind fun x9 => if x9 < 0 then (some (.inl (s1 + (1 : Int32)))) else (some (.inr (x9)))) : Option ((Int32) ⊕ Int32))) q_fu ((0 : Int32) : Int32)).bind fun z8 => some z8
set_option maxRecDepth 100000 in
set_option maxHeartbeats 4000000 in
theorem eMo_firstPlace {d : Nat} (hd : 5 ≤ d) {a1 : Int32} {h : q_H} {r : Int32} (HF : Mo_firstPlace a1 h = some r) : q_T d 194 [.inr (.inr (30, 7, 0)), .inl a1] h (some (.inl r), h) := by
  obtain ⟨d, rfl⟩ : ∃ d', d = d' + 1 := ⟨d - 1, by omega⟩
  refine q_ent q_K194 rfl rfl rfl ?_
  unfold Mo_firstPlace at HF
  refine q_blk (pc' := 2) (loc' := [some (.inr (.inr (30, 7, 0))), some (.inl a1), some (.inl (0 : Int32)), none]) (stk' := []) (h' := h) 2 (fun _ _ => rfl) ?_
  obtain ⟨r6, hl7, HK4⟩ := q_bind HF
  refine q_lpE (E := fun s1 => q_E d q_K194 2 [some (.inr (.inr (30, 7, 0))), some (.inl a1), some (.inl s1), none] [] h (some (.inl r), h)) r6 (fun s1 z8 HF H12 H23 => ?_) _ _ hl7
  refine q_br (P := (6 : Int32) ≤ s1) (pcT := 27) (pcF := 8) (loc' := [some (.inr (.inr (30, 7, 0))), some (.inl a1), some (.inl s1), none]) (stk' := []) (h' := h) 3 (fun _ _ => rfl) (fun c12 => ?_) (fun c12 => ?_)
  · rw [if_pos c12] at HF
    have hz := Option.some.inj HF
    subst hz
    replace HF := HK4
    rw [← H23 _ rfl] at HF
    have hz := Option.some.inj HF
    subst hz
    exact q_rtn 2 (fun _ _ => rfl)
  · rw [if_neg c12] at HF
    obtain ⟨x9, hx10, HF⟩ := q_bind HF
    refine q_cll (m' := 193) (av := [.inr (.inr (30, 7, 0)), .inl s1, .inl a1]) (st' := []) (pc' := 14) (loc' := [some (.inr (.inr (30, 7, 0))), some (.inl a1), some (.inl s1), none]) (h' := h) 4 (fun _ _ => rfl) (eMo_placeIn (by omega) hx10) ?_
    refine q_br (P := x9 < 0) (pcT := 21) (pcF := 19) (loc' := [some (.inr (.inr (30, 7, 0))), some (.inl a1), some (.inl s1), some (.inl x9)]) (stk' := []) (h' := h) 3 (fun _ _ => rfl) (fun c11 => ?_) (fun c11 => ?_)
    · rw [if_pos c11] at HF
      refine q_blk (pc' := 2) (loc' := [some (.inr (.inr (30, 7, 0))), some (.inl a1), some (.inl (s1 + (1 : Int32))), some (.inl x9)]) (stk' := []) (h' := h) 2 (fun _ _ => rfl) ?_
      have hz := Option.some.inj HF
      subst hz
      exact q_wk (loc := [some (.inr (.inr (30, 7, 0))), some (.inl a1), some (.inl (s1 + (1 : Int32))), none]) ⟨Or.inl rfl, ⟨Or.inl rfl, ⟨Or.inl rfl, ⟨Or.inr ⟨rfl, fun _ h => by cases h⟩, trivial⟩⟩⟩⟩ (H12 (s1 + (1 : Int32)) rfl)
    · rw [if_neg c11] at HF
      have hz := Option.some.inj HF
      subst hz
      replace HF := HK4
      rw [← H23 _ rfl] at HF
      have hz := Option.some.inj HF
      subst hz
      exact q_rtn 2 (fun _ _ => rfl)
def Mo_isDying (a1 : Int32) (h : q_H) : Option Int32 :=
  (Mo_enderOf a1 h).bind fun x1 => if x1 ≤ 0 then (some ((0 : Int32))) else ((Mo_enderOf a1 h).bind fun x3 => (Mo_stateOf x3 h).bind fun x5 => if ¬ x5 = (1 : Int32) then (some ((0 : Int32))) else ((Mo_horizon h).bind fun x7 => (Mo_isDead a1 x7 h).bind fun x9 => if ¬ x9 = 0 then (some ((0 : Int32))) else (some ((1 : Int32)))))
set_option maxRecDepth 100000 in
set_option maxHeartbeats 4000000 in
theorem eMo_isDying {d : Nat} (hd : 5 ≤ d) {a1 : Int32} {h : q_H} {r : Int32} (HF : Mo_isDying a1 h = some r) : q_T d 208 [.inr (.inr (30, 7, 0)), .inl a1] h (some (.inl r), h) := by
  obtain ⟨d, rfl⟩ : ∃ d', d = d' + 1 := ⟨d - 1, by omega⟩
  refine q_ent q_K208 rfl rfl rfl ?_
  unfold Mo_isDying at HF
  obtain ⟨x1, hx2, HF⟩ := q_bind HF
  refine q_cll (m' := 206) (av := [.inr (.inr (30, 7, 0)), .inl a1]) (st' := []) (pc' := 5) (loc' := [some (.inr (.inr (30, 7, 0))), some (.inl a1)]) (h' := h) 3 (fun _ _ => rfl) (eMo_enderOf (by omega) hx2) ?_
  refine q_br (P := x1 ≤ 0) (pcT := 37) (pcF := 8) (loc' := [some (.inr (.inr (30, 7, 0))), some (.inl a1)]) (stk' := []) (h' := h) 1 (fun _ _ => rfl) (fun c13 => ?_) (fun c13 => ?_)
  · rw [if_pos c13] at HF
    have hz := Option.some.inj HF
    subst hz
    exact q_rtn 2 (fun _ _ => rfl)
  · rw [if_neg c13] at HF
    obtain ⟨x3, hx4, HF⟩ := q_bind HF
    refine q_cll (m' := 206) (av := [.inr (.inr (30, 7, 0)), .inl a1]) (st' := [.inr (.inr (30, 7, 0))]) (pc' := 14) (loc' := [some (.inr (.inr (30, 7, 0))), some (.inl a1)]) (h' := h) 4 (fun _ _ => rfl) (eMo_enderOf (by omega) hx4) ?_
    obtain ⟨x5, hx6, HF⟩ := q_bind HF
    refine q_cll (m' := 196) (av := [.inr (.inr (30, 7, 0)), .inl x3]) (st' := []) (pc' := 17) (loc' := [some (.inr (.inr (30, 7, 0))), some (.inl a1)]) (h' := h) 1 (fun _ _ => rfl) (eMo_stateOf (by omega) hx6) ?_
    refine q_br (P := ¬ x5 = (1 : Int32)) (pcT := 37) (pcF := 21) (loc' := [some (.inr (.inr (30, 7, 0))), some (.inl a1)]) (stk' := []) (h' := h) 2 (fun _ _ => rfl) (fun c12 => ?_) (fun c12 => ?_)
    · rw [if_pos c12] at HF
      have hz := Option.some.inj HF
      subst hz
      exact q_rtn 2 (fun _ _ => rfl)
    · rw [if_neg c12] at HF
      obtain ⟨x7, hx8, HF⟩ := q_bind HF
      refine q_cll (m' := 205) (av := [.inr (.inr (30, 7, 0))]) (st' := [.inl a1, .inr (.inr (30, 7, 0))]) (pc' := 27) (loc' := [some (.inr (.inr (30, 7, 0))), some (.inl a1)]) (h' := h) 4 (fun _ _ => rfl) (eMo_horizon (by omega) hx8) ?_
      obtain ⟨x9, hx10, HF⟩ := q_bind HF
      refine q_cll (m' := 207) (av := [.inr (.inr (30, 7, 0)), .inl a1, .inl x7]) (st' := []) (pc' := 30) (loc' := [some (.inr (.inr (30, 7, 0))), some (.inl a1)]) (h' := h) 1 (fun _ _ => rfl) (eMo_isDead (by omega) hx10) ?_
      refine q_br (P := ¬ x9 = 0) (pcT := 37) (pcF := 33) (loc' := [some (.inr (.inr (30, 7, 0))), some (.inl a1)]) (stk' := []) (h' := h) 1 (fun _ _ => rfl) (fun c11 => ?_) (fun c11 => ?_)
      · rw [if_pos c11] at HF
        have hz := Option.some.inj HF
        subst hz
        exact q_rtn 2 (fun _ _ => rfl)
      · rw [if_neg c11] at HF
        have hz := Option.some.inj HF
        subst hz
        exact q_rtn 3 (fun _ _ => rfl)
def Mo_chainMany (a1 : Int32) (h : q_H) : Option Int32 :=
  (Mo_chainOf a1 h).bind fun x1 => (q_lp (fun s3 : Int32 × Int32 => (if s3.2 < 0 then (some (.inr (s3.1))) else ((Mo_chainNext s3.2 h).bind fun x11 => some (.inl ((s3.1 + (1 : Int32)), x11))) : Option ((Int32 × Int32) ⊕ Int32))) q_fu (((0 : Int32), x1) : Int32 × Int32)).bind fun z10 => some z10
set_option maxRecDepth 100000 in
set_option maxHeartbeats 4000000 in
theorem eMo_chainMany {d : Nat} (hd : 5 ≤ d) {a1 : Int32} {h : q_H} {r : Int32} (HF : Mo_chainMany a1 h = some r) : q_T d 211 [.inr (.inr (30, 7, 0)), .inl a1] h (some (.inl r), h) := by
  obtain ⟨d, rfl⟩ : ∃ d', d = d' + 1 := ⟨d - 1, by omega⟩
  refine q_ent q_K211 rfl rfl rfl ?_
  unfold Mo_chainMany at HF
  obtain ⟨x1, hx2, HF⟩ := q_bind HF
  refine q_cll (m' := 209) (av := [.inr (.inr (30, 7, 0)), .inl a1]) (st' := []) (pc' := 7) (loc' := [some (.inr (.inr (30, 7, 0))), some (.inl a1), some (.inl (0 : Int32)), none]) (h' := h) 5 (fun _ _ => rfl) (eMo_chainOf (by omega) hx2) ?_
  refine q_blk (pc' := 8) (loc' := [some (.inr (.inr (30, 7, 0))), some (.inl a1), some (.inl (0 : Int32)), some (.inl x1)]) (stk' := []) (h' := h) 1 (fun _ _ => rfl) ?_
  obtain ⟨r8, hl9, HK6⟩ := q_bind HF
  refine q_lpE (E := fun s3 => q_E d q_K211 8 [some (.inr (.inr (30, 7, 0))), some (.inl a1), some (.inl s3.1), some (.inl s3.2)] [] h (some (.inl r), h)) r8 (fun s3 z10 HF H14 H25 => ?_) _ _ hl9
  refine q_br (P := s3.2 < 0) (pcT := 24) (pcF := 12) (loc' := [some (.inr (.inr (30, 7, 0))), some (.inl a1), some (.inl s3.1), some (.inl s3.2)]) (stk' := []) (h' := h) 2 (fun _ _ => rfl) (fun c13 => ?_) (fun c13 => ?_)
  · rw [if_pos c13] at HF
    have hz := Option.some.inj HF
    subst hz
    replace HF := HK6
    rw [← H25 _ rfl] at HF
    have hz := Option.some.inj HF
    subst hz
    exact q_rtn 2 (fun _ _ => rfl)
  · rw [if_neg c13] at HF
    obtain ⟨x11, hx12, HF⟩ := q_bind HF
    refine q_cll (m' := 210) (av := [.inr (.inr (30, 7, 0)), .inl s3.2]) (st' := []) (pc' := 20) (loc' := [some (.inr (.inr (30, 7, 0))), some (.inl a1), some (.inl (s3.1 + (1 : Int32))), some (.inl s3.2)]) (h' := h) 4 (fun _ _ => rfl) (eMo_chainNext (by omega) hx12) ?_
    refine q_blk (pc' := 8) (loc' := [some (.inr (.inr (30, 7, 0))), some (.inl a1), some (.inl (s3.1 + (1 : Int32))), some (.inl x11)]) (stk' := []) (h' := h) 2 (fun _ _ => rfl) ?_
    have hz := Option.some.inj HF
    subst hz
    exact H14 ((s3.1 + (1 : Int32)), x11) rfl
def Mo_cuts (a1 : Int32) (a2 : Int32) (h : q_H) : Option (Int32 × q_H) :=
  (Mo_chainOf a1 h).bind fun x1 => (q_lp (fun s3 : Int32 × Int32 × q_H => (Option.bind (α := (Unit) ⊕ ((Int32 × Int32 × q_H) ⊕ (Int32 × Int32 × q_H))) (if s3.2.1 < 0 then (some (.inr (.inr ((s3.1, s3.2.1, s3.2.2))))) else (some (.inl ()))) (fun z11 => match z11 with | .inl p16 => (Mo_isDead s3.2.1 a2 s3.2.2).bind fun x17 => Option.bind (α := (Unit) ⊕ ((Int32 × Int32 × q_H) ⊕ (Int32 × Int32 × q_H))) (if x17 = 0 then (some (.inr (.inr ((s3.1, s3.2.1, s3.2.2))))) else (some (.inl ()))) (fun z19 => match z19 with | .inl p24 => (Mo_chainNext s3.2.1 s3.2.2).bind fun x25 => (Mo_goes s3.2.1 s3.2.2).bind fun x27 => some (.inl ((s3.1 + (1 : Int32)), x25, x27)) | .inr z19 => some z19) | .inr z11 => some z11) : Option ((Int32 × Int32 × q_H) ⊕ (Int32 × Int32 × q_H)))) q_fu (((0 : Int32), x1, h) : Int32 × Int32 × q_H)).bind fun p31 => if ¬ p31.1 = 0 then (Option.bind (α := Int32) (if 0 ≤ p31.2.1 then (some ((2 : Int32))) else (some ((3 : Int32)))) (fun p37 => (Mo_sets a1 (0 : Int32) p37 p31.2.2).bind fun x38 => Option.bind (α := Int32) (if 0 ≤ p31.2.1 then (some ((p31.2.1 - p31.2.1 / (10 : Int32) * (10 : Int32)))) else (some ((-1 : Int32)))) (fun p45 => (Mo_sets a1 (1 : Int32) p45 x38).bind fun x46 => if 0 ≤ p31.2.1 then ((Mo_tellsOf (2 : Int32) a1 x46).bind fun x48 => some ((p31.1, x48))) else ((Mo_tellsOf (1 : Int32) a1 x46).bind fun x50 => some ((p31.1, x50)))))) else (some (((0 : Int32), p31.2.2)))
set_option maxRecDepth 100000 in
set_option maxHeartbeats 4000000 in
theorem eMo_cuts {d : Nat} (hd : 5 ≤ d) {a1 : Int32} {a2 : Int32} {h : q_H} {r : (Int32 × q_H)} (HF : Mo_cuts a1 a2 h = some r) : q_T d 214 [.inr (.inr (30, 7, 0)), .inl a1, .inl a2] h (some (.inl r.1), r.2) := by
  obtain ⟨d, rfl⟩ : ∃ d', d = d' + 1 := ⟨d - 1, by omega⟩
  refine q_ent q_K214 rfl rfl rfl ?_
  unfold Mo_cuts at HF
  obtain ⟨x1, hx2, HF⟩ := q_bind HF
  refine q_cll (m' := 209) (av := [.inr (.inr (30, 7, 0)), .inl a1]) (st' := []) (pc' := 7) (loc' := [some (.inr (.inr (30, 7, 0))), some (.inl a1), some (.inl a2), some (.inl (0 : Int32)), none, none]) (h' := h) 5 (fun _ _ => rfl) (eMo_chainOf (by omega) hx2) ?_
  refine q_blk (pc' := 9) (loc' := [some (.inr (.inr (30, 7, 0))), some (.inl a1), some (.inl a2), some (.inl (0 : Int32)), some (.inl x1), none]) (stk' := []) (h' := h) 1 (fun _ _ => rfl) ?_
  obtain ⟨r8, hl9, HK6⟩ := q_bind HF
  have hP7 : ∀ p31 : Int32 × Int32 × q_H, (if ¬ p31.1 = 0 then (Option.bind (α := Int32) (if 0 ≤ p31.2.1 then (some ((2 : Int32))) else (some ((3 : Int32)))) (fun p37 => (Mo_sets a1 (0 : Int32) p37 p31.2.2).bind fun x38 => Option.bind (α := Int32) (if 0 ≤ p31.2.1 then (some ((p31.2.1 - p31.2.1 / (10 : Int32) * (10 : Int32)))) else (some ((-1 : Int32)))) (fun p45 => (Mo_sets a1 (1 : Int32) p45 x38).bind fun x46 => if 0 ≤ p31.2.1 then ((Mo_tellsOf (2 : Int32) a1 x46).bind fun x48 => some ((p31.1, x48))) else ((Mo_tellsOf (1 : Int32) a1 x46).bind fun x50 => some ((p31.1, x50)))))) else (some (((0 : Int32), p31.2.2))) : Option (Int32 × q_H)) = some r → q_E d q_K214 48 [some (.inr (.inr (30, 7, 0))), some (.inl a1), some (.inl a2), some (.inl p31.1), some (.inl p31.2.1), none] [] p31.2.2 (some (.inl r.1), r.2) := by
    intro p31 HF
    refine q_br (P := ¬ p31.1 = 0) (pcT := 54) (pcF := 52) (loc' := [some (.inr (.inr (30, 7, 0))), some (.inl a1), some (.inl a2), some (.inl p31.1), some (.inl p31.2.1), none]) (stk' := []) (h' := p31.2.2) 2 (fun _ _ => rfl) (fun c55 => ?_) (fun c55 => ?_)
    · rw [if_pos c55] at HF
      obtain ⟨z32, HA33, HK34⟩ := q_bind HF
      have hP35 : ∀ p37 : Int32, ((Mo_sets a1 (0 : Int32) p37 p31.2.2).bind fun x38 => Option.bind (α := Int32) (if 0 ≤ p31.2.1 then (some ((p31.2.1 - p31.2.1 / (10 : Int32) * (10 : Int32)))) else (some ((-1 : Int32)))) (fun p45 => (Mo_sets a1 (1 : Int32) p45 x38).bind fun x46 => if 0 ≤ p31.2.1 then ((Mo_tellsOf (2 : Int32) a1 x46).bind fun x48 => some ((p31.1, x48))) else ((Mo_tellsOf (1 : Int32) a1 x46).bind fun x50 => some ((p31.1, x50)))) : Option (Int32 × q_H)) = some r → q_E d q_K214 67 [some (.inr (.inr (30, 7, 0))), some (.inl a1), some (.inl a2), some (.inl p31.1), some (.inl p31.2.1), none] [.inl p37, .inl (0 : Int32), .inl a1, .inr (.inr (30, 7, 0))] p31.2.2 (some (.inl r.1), r.2) := by
        intro p37 HF
        obtain ⟨x38, hx39, HF⟩ := q_bind HF
        refine q_cll (m' := 188) (av := [.inr (.inr (30, 7, 0)), .inl a1, .inl (0 : Int32), .inl p37]) (st' := []) (pc' := 70) (loc' := [some (.inr (.inr (30, 7, 0))), some (.inl a1), some (.inl a2), some (.inl p31.1), some (.inl p31.2.1), none]) (h' := p31.2.2) 1 (fun _ _ => rfl) (eMo_sets (by omega) hx39) ?_
        obtain ⟨z40, HA41, HK42⟩ := q_bind HF
        have hP43 : ∀ p45 : Int32, ((Mo_sets a1 (1 : Int32) p45 x38).bind fun x46 => if 0 ≤ p31.2.1 then ((Mo_tellsOf (2 : Int32) a1 x46).bind fun x48 => some ((p31.1, x48))) else ((Mo_tellsOf (1 : Int32) a1 x46).bind fun x50 => some ((p31.1, x50))) : Option (Int32 × q_H)) = some r → q_E d q_K214 87 [some (.inr (.inr (30, 7, 0))), some (.inl a1), some (.inl a2), some (.inl p31.1), some (.inl p31.2.1), none] [.inl p45, .inl (1 : Int32), .inl a1, .inr (.inr (30, 7, 0))] x38 (some (.inl r.1), r.2) := by
          intro p45 HF
          obtain ⟨x46, hx47, HF⟩ := q_bind HF
          refine q_cll (m' := 188) (av := [.inr (.inr (30, 7, 0)), .inl a1, .inl (1 : Int32), .inl p45]) (st' := []) (pc' := 90) (loc' := [some (.inr (.inr (30, 7, 0))), some (.inl a1), some (.inl a2), some (.inl p31.1), some (.inl p31.2.1), none]) (h' := x38) 1 (fun _ _ => rfl) (eMo_sets (by omega) hx47) ?_
          refine q_br (P := 0 ≤ p31.2.1) (pcT := 100) (pcF := 96) (loc' := [some (.inr (.inr (30, 7, 0))), some (.inl a1), some (.inl a2), some (.inl p31.1), some (.inl p31.2.1), none]) (stk' := [.inr (.inr (30, 7, 0))]) (h' := x46) 3 (fun _ _ => rfl) (fun c52 => ?_) (fun c52 => ?_)
          · rw [if_pos c52] at HF
            obtain ⟨x48, hx49, HF⟩ := q_bind HF
            refine q_cll (m' := 212) (av := [.inr (.inr (30, 7, 0)), .inl (2 : Int32), .inl a1]) (st' := []) (pc' := 105) (loc' := [some (.inr (.inr (30, 7, 0))), some (.inl a1), some (.inl a2), some (.inl p31.1), some (.inl p31.2.1), none]) (h' := x46) 3 (fun _ _ => rfl) (eMo_tellsOf (by omega) hx49) ?_
            have hz := Option.some.inj HF
            subst hz
            exact q_rtn 2 (fun _ _ => rfl)
          · rw [if_neg c52] at HF
            obtain ⟨x50, hx51, HF⟩ := q_bind HF
            refine q_cll (m' := 212) (av := [.inr (.inr (30, 7, 0)), .inl (1 : Int32), .inl a1]) (st' := []) (pc' := 105) (loc' := [some (.inr (.inr (30, 7, 0))), some (.inl a1), some (.inl a2), some (.inl p31.1), some (.inl p31.2.1), none]) (h' := x46) 4 (fun _ _ => rfl) (eMo_tellsOf (by omega) hx51) ?_
            have hz := Option.some.inj HF
            subst hz
            exact q_rtn 2 (fun _ _ => rfl)
        replace HF := HA41
        refine q_br (P := 0 ≤ p31.2.1) (pcT := 82) (pcF := 78) (loc' := [some (.inr (.inr (30, 7, 0))), some (.inl a1), some (.inl a2), some (.inl p31.1), some (.inl p31.2.1), none]) (stk' := [.inl (1 : Int32), .inl a1, .inr (.inr (30, 7, 0))]) (h' := x38) 5 (fun _ _ => rfl) (fun c44 => ?_) (fun c44 => ?_)
        · rw [if_pos c44] at HF
          refine q_blk (pc' := 87) (loc' := [some (.inr (.inr (30, 7, 0))), some (.inl a1), some (.inl a2), some (.inl p31.1), some (.inl p31.2.1), none]) (stk' := [.inl (p31.2.1 - p31.2.1 / (10 : Int32) * (10 : Int32)), .inl (1 : Int32), .inl a1, .inr (.inr (30, 7, 0))]) (h' := x38) 3 (fun _ _ => rfl) ?_
          have hz := Option.some.inj HF
          subst hz
          exact hP43 (p31.2.1 - p31.2.1 / (10 : Int32) * (10 : Int32)) HK42
        · rw [if_neg c44] at HF
          refine q_blk (pc' := 87) (loc' := [some (.inr (.inr (30, 7, 0))), some (.inl a1), some (.inl a2), some (.inl p31.1), some (.inl p31.2.1), none]) (stk' := [.inl (-1 : Int32), .inl (1 : Int32), .inl a1, .inr (.inr (30, 7, 0))]) (h' := x38) 2 (fun _ _ => rfl) ?_
          have hz := Option.some.inj HF
          subst hz
          exact hP43 (-1 : Int32) HK42
      replace HF := HA33
      refine q_br (P := 0 ≤ p31.2.1) (pcT := 66) (pcF := 62) (loc' := [some (.inr (.inr (30, 7, 0))), some (.inl a1), some (.inl a2), some (.inl p31.1), some (.inl p31.2.1), none]) (stk' := [.inl (0 : Int32), .inl a1, .inr (.inr (30, 7, 0))]) (h' := p31.2.2) 5 (fun _ _ => rfl) (fun c36 => ?_) (fun c36 => ?_)
      · rw [if_pos c36] at HF
        refine q_blk (pc' := 67) (loc' := [some (.inr (.inr (30, 7, 0))), some (.inl a1), some (.inl a2), some (.inl p31.1), some (.inl p31.2.1), none]) (stk' := [.inl (2 : Int32), .inl (0 : Int32), .inl a1, .inr (.inr (30, 7, 0))]) (h' := p31.2.2) 1 (fun _ _ => rfl) ?_
        have hz := Option.some.inj HF
        subst hz
        exact hP35 (2 : Int32) HK34
      · rw [if_neg c36] at HF
        refine q_blk (pc' := 67) (loc' := [some (.inr (.inr (30, 7, 0))), some (.inl a1), some (.inl a2), some (.inl p31.1), some (.inl p31.2.1), none]) (stk' := [.inl (3 : Int32), .inl (0 : Int32), .inl a1, .inr (.inr (30, 7, 0))]) (h' := p31.2.2) 2 (fun _ _ => rfl) ?_
        have hz := Option.some.inj HF
        subst hz
        exact hP35 (3 : Int32) HK34
    · rw [if_neg c55] at HF
      have hz := Option.some.inj HF
      subst hz
      exact q_rtn 2 (fun _ _ => rfl)
  refine q_lpE (E := fun s3 => q_E d q_K214 9 [some (.inr (.inr (30, 7, 0))), some (.inl a1), some (.inl a2), some (.inl s3.1), some (.inl s3.2.1), none] [] s3.2.2 (some (.inl r.1), r.2)) r8 (fun s3 z10 HF H14 H25 => ?_) _ _ hl9
  obtain ⟨z11, HA12, HK13⟩ := q_bind HF
  have hP14 : ∀ p16 : Unit, ((Mo_isDead s3.2.1 a2 s3.2.2).bind fun x17 => Option.bind (α := (Unit) ⊕ ((Int32 × Int32 × q_H) ⊕ (Int32 × Int32 × q_H))) (if x17 = 0 then (some (.inr (.inr ((s3.1, s3.2.1, s3.2.2))))) else (some (.inl ()))) (fun z19 => match z19 with | .inl p24 => (Mo_chainNext s3.2.1 s3.2.2).bind fun x25 => (Mo_goes s3.2.1 s3.2.2).bind fun x27 => some (.inl ((s3.1 + (1 : Int32)), x25, x27)) | .inr z19 => some z19) : Option ((Int32 × Int32 × q_H) ⊕ (Int32 × Int32 × q_H))) = some z10 → q_E d q_K214 14 [some (.inr (.inr (30, 7, 0))), some (.inl a1), some (.inl a2), some (.inl s3.1), some (.inl s3.2.1), none] [] s3.2.2 (some (.inl r.1), r.2) := by
    intro p16 HF
    obtain ⟨x17, hx18, HF⟩ := q_bind HF
    refine q_cll (m' := 207) (av := [.inr (.inr (30, 7, 0)), .inl s3.2.1, .inl a2]) (st' := []) (pc' := 21) (loc' := [some (.inr (.inr (30, 7, 0))), some (.inl a1), some (.inl a2), some (.inl s3.1), some (.inl s3.2.1), none]) (h' := s3.2.2) 4 (fun _ _ => rfl) (eMo_isDead (by omega) hx18) ?_
    obtain ⟨z19, HA20, HK21⟩ := q_bind HF
    have hP22 : ∀ p24 : Unit, ((Mo_chainNext s3.2.1 s3.2.2).bind fun x25 => (Mo_goes s3.2.1 s3.2.2).bind fun x27 => some (.inl ((s3.1 + (1 : Int32)), x25, x27)) : Option ((Int32 × Int32 × q_H) ⊕ (Int32 × Int32 × q_H))) = some z10 → q_E d q_K214 24 [some (.inr (.inr (30, 7, 0))), some (.inl a1), some (.inl a2), some (.inl s3.1), some (.inl s3.2.1), none] [] s3.2.2 (some (.inl r.1), r.2) := by
      intro p24 HF
      obtain ⟨x25, hx26, HF⟩ := q_bind HF
      refine q_cll (m' := 210) (av := [.inr (.inr (30, 7, 0)), .inl s3.2.1]) (st' := []) (pc' := 30) (loc' := [some (.inr (.inr (30, 7, 0))), some (.inl a1), some (.inl a2), some (.inl s3.1), some (.inl s3.2.1), none]) (h' := s3.2.2) 3 (fun _ _ => rfl) (eMo_chainNext (by omega) hx26) ?_
      obtain ⟨x27, hx28, HF⟩ := q_bind HF
      refine q_cll (m' := 213) (av := [.inr (.inr (30, 7, 0)), .inl s3.2.1]) (st' := []) (pc' := 38) (loc' := [some (.inr (.inr (30, 7, 0))), some (.inl a1), some (.inl a2), some (.inl s3.1), some (.inl s3.2.1), some (.inl x25)]) (h' := s3.2.2) 4 (fun _ _ => rfl) (eMo_goes (by omega) hx28) ?_
      refine q_blk (pc' := 9) (loc' := [some (.inr (.inr (30, 7, 0))), some (.inl a1), some (.inl a2), some (.inl (s3.1 + (1 : Int32))), some (.inl x25), some (.inl x25)]) (stk' := []) (h' := x27) 4 (fun _ _ => rfl) ?_
      have hz := Option.some.inj HF
      subst hz
      exact q_wk (loc := [some (.inr (.inr (30, 7, 0))), some (.inl a1), some (.inl a2), some (.inl (s3.1 + (1 : Int32))), some (.inl x25), none]) ⟨Or.inl rfl, ⟨Or.inl rfl, ⟨Or.inl rfl, ⟨Or.inl rfl, ⟨Or.inl rfl, ⟨Or.inr ⟨rfl, fun _ h => by cases h⟩, trivial⟩⟩⟩⟩⟩⟩ (H14 ((s3.1 + (1 : Int32)), x25, x27) rfl)
    replace HF := HA20
    refine q_br (P := x17 = 0) (pcT := 48) (pcF := 24) (loc' := [some (.inr (.inr (30, 7, 0))), some (.inl a1), some (.inl a2), some (.inl s3.1), some (.inl s3.2.1), none]) (stk' := []) (h' := s3.2.2) 1 (fun _ _ => rfl) (fun c23 => ?_) (fun c23 => ?_)
    · rw [if_pos c23] at HF
      have hz := Option.some.inj HF
      subst hz
      replace HF := HK21
      have hz := Option.some.inj HF
      subst hz
      rw [← H25 _ rfl] at HK6
      exact hP7 (s3.1, s3.2.1, s3.2.2) HK6
    · rw [if_neg c23] at HF
      have hz := Option.some.inj HF
      subst hz
      exact hP22 () HK21
  replace HF := HA12
  refine q_br (P := s3.2.1 < 0) (pcT := 48) (pcF := 14) (loc' := [some (.inr (.inr (30, 7, 0))), some (.inl a1), some (.inl a2), some (.inl s3.1), some (.inl s3.2.1), none]) (stk' := []) (h' := s3.2.2) 2 (fun _ _ => rfl) (fun c15 => ?_) (fun c15 => ?_)
  · rw [if_pos c15] at HF
    have hz := Option.some.inj HF
    subst hz
    replace HF := HK13
    have hz := Option.some.inj HF
    subst hz
    rw [← H25 _ rfl] at HK6
    exact hP7 (s3.1, s3.2.1, s3.2.2) HK6
  · rw [if_neg c15] at HF
    have hz := Option.some.inj HF
    subst hz
    exact hP14 () HK13
def Mo_touched (a1 : Int32) (a2 : Int32) (h : q_H) : Option (Int32 × q_H) :=
  (Mo_isTxn a1 h).bind fun x1 => if x1 = 0 then ((Mo_refuse (2 : Int32) h).bind fun x3 => some ((x3.1, x3.2))) else ((Mo_isRow a2 h).bind fun x5 => if ¬ x5 = 0 then ((Mo_isOpen a1 h).bind fun x7 => if ¬ x7 = 0 then ((Mo_isWaiting a1 h).bind fun x9 => if x9 = 0 then ((Mo_seenOf a1 a2 h).bind fun x11 => if 0 ≤ x11 then ((Mo_noTouch a1 x11 h).bind fun x13 => if x13 ≤ 0 then (some ((x11, h))) else ((Mo_refuse x13 h).bind fun x15 => some ((x15.1, x15.2)))) else ((Mo_refuse (6 : Int32) h).bind fun x18 => some ((x18.1, x18.2)))) else ((Mo_refuse (11 : Int32) h).bind fun x21 => some ((x21.1, x21.2)))) else ((Mo_refuse (4 : Int32) h).bind fun x24 => some ((x24.1, x24.2)))) else ((Mo_refuse (2 : Int32) h).bind fun x27 => some ((x27.1, x27.2))))
set_option maxRecDepth 100000 in
set_option maxHeartbeats 4000000 in
theorem eMo_touched {d : Nat} (hd : 5 ≤ d) {a1 : Int32} {a2 : Int32} {h : q_H} {r : (Int32 × q_H)} (HF : Mo_touched a1 a2 h = some r) : q_T d 232 [.inr (.inr (30, 7, 0)), .inl a1, .inl a2] h (some (.inl r.1), r.2) := by
  obtain ⟨d, rfl⟩ : ∃ d', d = d' + 1 := ⟨d - 1, by omega⟩
  refine q_ent q_K232 rfl rfl rfl ?_
  unfold Mo_touched at HF
  obtain ⟨x1, hx2, HF⟩ := q_bind HF
  refine q_cll (m' := 198) (av := [.inr (.inr (30, 7, 0)), .inl a1]) (st' := []) (pc' := 5) (loc' := [some (.inr (.inr (30, 7, 0))), some (.inl a1), some (.inl a2), none, none]) (h' := h) 3 (fun _ _ => rfl) (eMo_isTxn (by omega) hx2) ?_
  refine q_br (P := x1 = 0) (pcT := 16) (pcF := 8) (loc' := [some (.inr (.inr (30, 7, 0))), some (.inl a1), some (.inl a2), none, none]) (stk' := []) (h' := h) 1 (fun _ _ => rfl) (fun c30 => ?_) (fun c30 => ?_)
  · rw [if_pos c30] at HF
    obtain ⟨x3, hx4, HF⟩ := q_bind HF
    refine q_cll (m' := 182) (av := [.inr (.inr (30, 7, 0)), .inl (2 : Int32)]) (st' := []) (pc' := 21) (loc' := [some (.inr (.inr (30, 7, 0))), some (.inl a1), some (.inl a2), none, none]) (h' := h) 3 (fun _ _ => rfl) (eMo_refuse (by omega) hx4) ?_
    have hz := Option.some.inj HF
    subst hz
    exact q_rtn 1 (fun _ _ => rfl)
  · rw [if_neg c30] at HF
    obtain ⟨x5, hx6, HF⟩ := q_bind HF
    refine q_cll (m' := 231) (av := [.inr (.inr (30, 7, 0)), .inl a2]) (st' := []) (pc' := 13) (loc' := [some (.inr (.inr (30, 7, 0))), some (.inl a1), some (.inl a2), none, none]) (h' := h) 3 (fun _ _ => rfl) (eMo_isRow (by omega) hx6) ?_
    refine q_br (P := ¬ x5 = 0) (pcT := 22) (pcF := 16) (loc' := [some (.inr (.inr (30, 7, 0))), some (.inl a1), some (.inl a2), none, none]) (stk' := []) (h' := h) 1 (fun _ _ => rfl) (fun c29 => ?_) (fun c29 => ?_)
    · rw [if_pos c29] at HF
      obtain ⟨x7, hx8, HF⟩ := q_bind HF
      refine q_cll (m' := 197) (av := [.inr (.inr (30, 7, 0)), .inl a1]) (st' := []) (pc' := 27) (loc' := [some (.inr (.inr (30, 7, 0))), some (.inl a1), some (.inl a2), none, none]) (h' := h) 3 (fun _ _ => rfl) (eMo_isOpen (by omega) hx8) ?_
      refine q_br (P := ¬ x7 = 0) (pcT := 36) (pcF := 30) (loc' := [some (.inr (.inr (30, 7, 0))), some (.inl a1), some (.inl a2), none, none]) (stk' := []) (h' := h) 1 (fun _ _ => rfl) (fun c26 => ?_) (fun c26 => ?_)
      · rw [if_pos c26] at HF
        obtain ⟨x9, hx10, HF⟩ := q_bind HF
        refine q_cll (m' := 201) (av := [.inr (.inr (30, 7, 0)), .inl a1]) (st' := []) (pc' := 41) (loc' := [some (.inr (.inr (30, 7, 0))), some (.inl a1), some (.inl a2), none, none]) (h' := h) 3 (fun _ _ => rfl) (eMo_isWaiting (by omega) hx10) ?_
        refine q_br (P := x9 = 0) (pcT := 51) (pcF := 44) (loc' := [some (.inr (.inr (30, 7, 0))), some (.inl a1), some (.inl a2), none, none]) (stk' := []) (h' := h) 1 (fun _ _ => rfl) (fun c23 => ?_) (fun c23 => ?_)
        · rw [if_pos c23] at HF
          obtain ⟨x11, hx12, HF⟩ := q_bind HF
          refine q_cll (m' := 225) (av := [.inr (.inr (30, 7, 0)), .inl a1, .inl a2]) (st' := []) (pc' := 57) (loc' := [some (.inr (.inr (30, 7, 0))), some (.inl a1), some (.inl a2), none, none]) (h' := h) 4 (fun _ _ => rfl) (eMo_seenOf (by omega) hx12) ?_
          refine q_br (P := 0 ≤ x11) (pcT := 69) (pcF := 62) (loc' := [some (.inr (.inr (30, 7, 0))), some (.inl a1), some (.inl a2), some (.inl x11), none]) (stk' := []) (h' := h) 3 (fun _ _ => rfl) (fun c20 => ?_) (fun c20 => ?_)
          · rw [if_pos c20] at HF
            obtain ⟨x13, hx14, HF⟩ := q_bind HF
            refine q_cll (m' := 228) (av := [.inr (.inr (30, 7, 0)), .inl a1, .inl x11]) (st' := []) (pc' := 75) (loc' := [some (.inr (.inr (30, 7, 0))), some (.inl a1), some (.inl a2), some (.inl x11), none]) (h' := h) 4 (fun _ _ => rfl) (eMo_noTouch (by omega) hx14) ?_
            refine q_br (P := x13 ≤ 0) (pcT := 91) (pcF := 82) (loc' := [some (.inr (.inr (30, 7, 0))), some (.inl a1), some (.inl a2), some (.inl x11), some (.inl x13)]) (stk' := []) (h' := h) 3 (fun _ _ => rfl) (fun c17 => ?_) (fun c17 => ?_)
            · rw [if_pos c17] at HF
              have hz := Option.some.inj HF
              subst hz
              exact q_rtn 2 (fun _ _ => rfl)
            · rw [if_neg c17] at HF
              obtain ⟨x15, hx16, HF⟩ := q_bind HF
              refine q_cll (m' := 182) (av := [.inr (.inr (30, 7, 0)), .inl x13]) (st' := []) (pc' := 88) (loc' := [some (.inr (.inr (30, 7, 0))), some (.inl a1), some (.inl a2), some (.inl x11), some (.inl x13)]) (h' := h) 3 (fun _ _ => rfl) (eMo_refuse (by omega) hx16) ?_
              have hz := Option.some.inj HF
              subst hz
              exact q_rtn 2 (fun _ _ => rfl)
          · rw [if_neg c20] at HF
            obtain ⟨x18, hx19, HF⟩ := q_bind HF
            refine q_cll (m' := 182) (av := [.inr (.inr (30, 7, 0)), .inl (6 : Int32)]) (st' := []) (pc' := 68) (loc' := [some (.inr (.inr (30, 7, 0))), some (.inl a1), some (.inl a2), some (.inl x11), none]) (h' := h) 3 (fun _ _ => rfl) (eMo_refuse (by omega) hx19) ?_
            have hz := Option.some.inj HF
            subst hz
            exact q_rtn 1 (fun _ _ => rfl)
        · rw [if_neg c23] at HF
          obtain ⟨x21, hx22, HF⟩ := q_bind HF
          refine q_cll (m' := 182) (av := [.inr (.inr (30, 7, 0)), .inl (11 : Int32)]) (st' := []) (pc' := 50) (loc' := [some (.inr (.inr (30, 7, 0))), some (.inl a1), some (.inl a2), none, none]) (h' := h) 3 (fun _ _ => rfl) (eMo_refuse (by omega) hx22) ?_
          have hz := Option.some.inj HF
          subst hz
          exact q_rtn 1 (fun _ _ => rfl)
      · rw [if_neg c26] at HF
        obtain ⟨x24, hx25, HF⟩ := q_bind HF
        refine q_cll (m' := 182) (av := [.inr (.inr (30, 7, 0)), .inl (4 : Int32)]) (st' := []) (pc' := 35) (loc' := [some (.inr (.inr (30, 7, 0))), some (.inl a1), some (.inl a2), none, none]) (h' := h) 3 (fun _ _ => rfl) (eMo_refuse (by omega) hx25) ?_
        have hz := Option.some.inj HF
        subst hz
        exact q_rtn 1 (fun _ _ => rfl)
    · rw [if_neg c29] at HF
      obtain ⟨x27, hx28, HF⟩ := q_bind HF
      refine q_cll (m' := 182) (av := [.inr (.inr (30, 7, 0)), .inl (2 : Int32)]) (st' := []) (pc' := 21) (loc' := [some (.inr (.inr (30, 7, 0))), some (.inl a1), some (.inl a2), none, none]) (h' := h) 3 (fun _ _ => rfl) (eMo_refuse (by omega) hx28) ?_
      have hz := Option.some.inj HF
      subst hz
      exact q_rtn 1 (fun _ _ => rfl)
def Mo_closeNow (a1 : Int32) (a2 : Int32) (h : q_H) : Option (Int32 × q_H) :=
  (Mo_isTxn a1 h).bind fun x1 => if ¬ x1 = 0 then ((Mo_isOpen a1 h).bind fun x3 => if ¬ x3 = 0 then (Option.bind (α := (q_H) ⊕ (Int32 × q_H)) (if ¬ a2 = (1 : Int32) then (some (.inl h)) else ((Mo_isWaiting a1 h).bind fun x9 => if x9 = 0 then (some (.inl h)) else ((Mo_refuse (11 : Int32) h).bind fun x11 => some (.inr ((x11.1, x11.2)))))) (fun z5 => match z5 with | .inl p15 => bif q_in ((1583 : Int32) + a1) 1644 then ((q_lp (fun s16 : Int32 × q_H => (Option.bind (α := (Unit) ⊕ ((Int32 × q_H) ⊕ (q_H))) (if (s16.2.1 31 0 7 4) ≤ s16.1 then (some (.inr (.inr (s16.2)))) else (some (.inl ()))) (fun z24 => match z24 with | .inl p29 => bif q_in ((1583 : Int32) + s16.1) 1644 then (Option.bind (α := q_H) (if ¬ (s16.2.1 31 0 7 ((1583 : Int32) + s16.1).toNatClampNeg) = a1 then (some (s16.2)) else (bif q_in ((1583 : Int32) + s16.1) 1644 then (some ((q_si s16.2 31 0 7 ((1583 : Int32) + s16.1).toNatClampNeg (0 : Int32)))) else none)) (fun p36 => some (.inl ((s16.1 + (1 : Int32)), p36)))) else none | .inr z24 => some z24) : Option ((Int32 × q_H) ⊕ (q_H)))) q_fu (((1 : Int32), (q_si p15 31 0 7 ((1583 : Int32) + a1).toNatClampNeg (0 : Int32))) : Int32 × q_H)).bind fun p40 => bif q_in ((1052 : Int32) + ((3 : Int32) * a1)) 1644 then (if ¬ a2 = (1 : Int32) then ((Mo_tellsOf (7 : Int32) a1 (q_si p40 31 0 7 ((1052 : Int32) + ((3 : Int32) * a1)).toNatClampNeg a2)).bind fun x41 => (Mo_horizon x41).bind fun x43 => some ((x43, x41))) else ((Mo_tellsOf (6 : Int32) a1 (q_si p40 31 0 7 ((1052 : Int32) + ((3 : Int32) * a1)).toNatClampNeg a2)).bind fun x45 => (Mo_horizon x45).bind fun x47 => some ((x47, x45)))) else none) else none | .inr z5 => some z5)) else ((Mo_refuse (4 : Int32) h).bind fun x53 => some ((x53.1, x53.2)))) else ((Mo_refuse (2 : Int32) h).bind fun x56 => some ((x56.1, x56.2)))
set_option maxRecDepth 100000 in
set_option maxHeartbeats 4000000 in
theorem eMo_closeNow {d : Nat} (hd : 5 ≤ d) {a1 : Int32} {a2 : Int32} {h : q_H} {r : (Int32 × q_H)} (HF : Mo_closeNow a1 a2 h = some r) : q_T d 237 [.inr (.inr (30, 7, 0)), .inl a1, .inl a2] h (some (.inl r.1), r.2) := by
  obtain ⟨d, rfl⟩ : ∃ d', d = d' + 1 := ⟨d - 1, by omega⟩
  refine q_ent q_K237 rfl rfl rfl ?_
  unfold Mo_closeNow at HF
  obtain ⟨x1, hx2, HF⟩ := q_bind HF
  refine q_cll (m' := 198) (av := [.inr (.inr (30, 7, 0)), .inl a1]) (st' := []) (pc' := 5) (loc' := [some (.inr (.inr (30, 7, 0))), some (.inl a1), some (.inl a2), none]) (h' := h) 3 (fun _ _ => rfl) (eMo_isTxn (by omega) hx2) ?_
  refine q_br (P := ¬ x1 = 0) (pcT := 14) (pcF := 8) (loc' := [some (.inr (.inr (30, 7, 0))), some (.inl a1), some (.inl a2), none]) (stk' := []) (h' := h) 1 (fun _ _ => rfl) (fun c58 => ?_) (fun c58 => ?_)
  · rw [if_pos c58] at HF
    obtain ⟨x3, hx4, HF⟩ := q_bind HF
    refine q_cll (m' := 197) (av := [.inr (.inr (30, 7, 0)), .inl a1]) (st' := []) (pc' := 19) (loc' := [some (.inr (.inr (30, 7, 0))), some (.inl a1), some (.inl a2), none]) (h' := h) 3 (fun _ _ => rfl) (eMo_isOpen (by omega) hx4) ?_
    refine q_br (P := ¬ x3 = 0) (pcT := 28) (pcF := 22) (loc' := [some (.inr (.inr (30, 7, 0))), some (.inl a1), some (.inl a2), none]) (stk' := []) (h' := h) 1 (fun _ _ => rfl) (fun c55 => ?_) (fun c55 => ?_)
    · rw [if_pos c55] at HF
      obtain ⟨z5, HA6, HK7⟩ := q_bind HF
      have hP8 : ∀ p15 : q_H, (bif q_in ((1583 : Int32) + a1) 1644 then ((q_lp (fun s16 : Int32 × q_H => (Option.bind (α := (Unit) ⊕ ((Int32 × q_H) ⊕ (q_H))) (if (s16.2.1 31 0 7 4) ≤ s16.1 then (some (.inr (.inr (s16.2)))) else (some (.inl ()))) (fun z24 => match z24 with | .inl p29 => bif q_in ((1583 : Int32) + s16.1) 1644 then (Option.bind (α := q_H) (if ¬ (s16.2.1 31 0 7 ((1583 : Int32) + s16.1).toNatClampNeg) = a1 then (some (s16.2)) else (bif q_in ((1583 : Int32) + s16.1) 1644 then (some ((q_si s16.2 31 0 7 ((1583 : Int32) + s16.1).toNatClampNeg (0 : Int32)))) else none)) (fun p36 => some (.inl ((s16.1 + (1 : Int32)), p36)))) else none | .inr z24 => some z24) : Option ((Int32 × q_H) ⊕ (q_H)))) q_fu (((1 : Int32), (q_si p15 31 0 7 ((1583 : Int32) + a1).toNatClampNeg (0 : Int32))) : Int32 × q_H)).bind fun p40 => bif q_in ((1052 : Int32) + ((3 : Int32) * a1)) 1644 then (if ¬ a2 = (1 : Int32) then ((Mo_tellsOf (7 : Int32) a1 (q_si p40 31 0 7 ((1052 : Int32) + ((3 : Int32) * a1)).toNatClampNeg a2)).bind fun x41 => (Mo_horizon x41).bind fun x43 => some ((x43, x41))) else ((Mo_tellsOf (6 : Int32) a1 (q_si p40 31 0 7 ((1052 : Int32) + ((3 : Int32) * a1)).toNatClampNeg a2)).bind fun x45 => (Mo_horizon x45).bind fun x47 => some ((x47, x45)))) else none) else none : Option (Int32 × q_H)) = some r → q_E d q_K237 48 [some (.inr (.inr (30, 7, 0))), some (.inl a1), some (.inl a2), none] [] p15 (some (.inl r.1), r.2) := by
        intro p15 HF
        obtain ⟨g51, HF⟩ := q_gF HF
        refine q_gd (pc' := 59) (loc' := [some (.inr (.inr (30, 7, 0))), some (.inl a1), some (.inl a2), none]) (stk' := []) (h' := (q_si p15 31 0 7 ((1583 : Int32) + a1).toNatClampNeg (0 : Int32))) 7 (fun _ _ => rfl) g51 ?_
        refine q_blk (pc' := 61) (loc' := [some (.inr (.inr (30, 7, 0))), some (.inl a1), some (.inl a2), some (.inl (1 : Int32))]) (stk' := []) (h' := (q_si p15 31 0 7 ((1583 : Int32) + a1).toNatClampNeg (0 : Int32))) 2 (fun _ _ => rfl) ?_
        obtain ⟨r21, hl22, HK19⟩ := q_bind HF
        have hP20 : ∀ p40 : q_H, (bif q_in ((1052 : Int32) + ((3 : Int32) * a1)) 1644 then (if ¬ a2 = (1 : Int32) then ((Mo_tellsOf (7 : Int32) a1 (q_si p40 31 0 7 ((1052 : Int32) + ((3 : Int32) * a1)).toNatClampNeg a2)).bind fun x41 => (Mo_horizon x41).bind fun x43 => some ((x43, x41))) else ((Mo_tellsOf (6 : Int32) a1 (q_si p40 31 0 7 ((1052 : Int32) + ((3 : Int32) * a1)).toNatClampNeg a2)).bind fun x45 => (Mo_horizon x45).bind fun x47 => some ((x47, x45)))) else none : Option (Int32 × q_H)) = some r → q_E d q_K237 102 [some (.inr (.inr (30, 7, 0))), some (.inl a1), some (.inl a2), none] [] p40 (some (.inl r.1), r.2) := by
          intro p40 HF
          obtain ⟨g50, HF⟩ := q_gF HF
          refine q_gd (pc' := 115) (loc' := [some (.inr (.inr (30, 7, 0))), some (.inl a1), some (.inl a2), none]) (stk' := []) (h' := (q_si p40 31 0 7 ((1052 : Int32) + ((3 : Int32) * a1)).toNatClampNeg a2)) 9 (fun _ _ => rfl) g50 ?_
          refine q_br (P := ¬ a2 = (1 : Int32)) (pcT := 126) (pcF := 121) (loc' := [some (.inr (.inr (30, 7, 0))), some (.inl a1), some (.inl a2), none]) (stk' := [.inr (.inr (30, 7, 0))]) (h' := (q_si p40 31 0 7 ((1052 : Int32) + ((3 : Int32) * a1)).toNatClampNeg a2)) 4 (fun _ _ => rfl) (fun c49 => ?_) (fun c49 => ?_)
          · rw [if_pos c49] at HF
            obtain ⟨x41, hx42, HF⟩ := q_bind HF
            refine q_cll (m' := 212) (av := [.inr (.inr (30, 7, 0)), .inl (7 : Int32), .inl a1]) (st' := []) (pc' := 132) (loc' := [some (.inr (.inr (30, 7, 0))), some (.inl a1), some (.inl a2), none]) (h' := (q_si p40 31 0 7 ((1052 : Int32) + ((3 : Int32) * a1)).toNatClampNeg a2)) 3 (fun _ _ => rfl) (eMo_tellsOf (by omega) hx42) ?_
            obtain ⟨x43, hx44, HF⟩ := q_bind HF
            refine q_cll (m' := 205) (av := [.inr (.inr (30, 7, 0))]) (st' := []) (pc' := 136) (loc' := [some (.inr (.inr (30, 7, 0))), some (.inl a1), some (.inl a2), none]) (h' := x41) 2 (fun _ _ => rfl) (eMo_horizon (by omega) hx44) ?_
            have hz := Option.some.inj HF
            subst hz
            exact q_rtn 1 (fun _ _ => rfl)
          · rw [if_neg c49] at HF
            obtain ⟨x45, hx46, HF⟩ := q_bind HF
            refine q_cll (m' := 212) (av := [.inr (.inr (30, 7, 0)), .inl (6 : Int32), .inl a1]) (st' := []) (pc' := 132) (loc' := [some (.inr (.inr (30, 7, 0))), some (.inl a1), some (.inl a2), none]) (h' := (q_si p40 31 0 7 ((1052 : Int32) + ((3 : Int32) * a1)).toNatClampNeg a2)) 4 (fun _ _ => rfl) (eMo_tellsOf (by omega) hx46) ?_
            obtain ⟨x47, hx48, HF⟩ := q_bind HF
            refine q_cll (m' := 205) (av := [.inr (.inr (30, 7, 0))]) (st' := []) (pc' := 136) (loc' := [some (.inr (.inr (30, 7, 0))), some (.inl a1), some (.inl a2), none]) (h' := x45) 2 (fun _ _ => rfl) (eMo_horizon (by omega) hx48) ?_
            have hz := Option.some.inj HF
            subst hz
            exact q_rtn 1 (fun _ _ => rfl)
        refine q_lpE (E := fun s16 => q_E d q_K237 61 [some (.inr (.inr (30, 7, 0))), some (.inl a1), some (.inl a2), some (.inl s16.1)] [] s16.2 (some (.inl r.1), r.2)) r21 (fun s16 z23 HF H117 H218 => ?_) _ _ hl22
        obtain ⟨z24, HA25, HK26⟩ := q_bind HF
        have hP27 : ∀ p29 : Unit, (bif q_in ((1583 : Int32) + s16.1) 1644 then (Option.bind (α := q_H) (if ¬ (s16.2.1 31 0 7 ((1583 : Int32) + s16.1).toNatClampNeg) = a1 then (some (s16.2)) else (bif q_in ((1583 : Int32) + s16.1) 1644 then (some ((q_si s16.2 31 0 7 ((1583 : Int32) + s16.1).toNatClampNeg (0 : Int32)))) else none)) (fun p36 => some (.inl ((s16.1 + (1 : Int32)), p36)))) else none : Option ((Int32 × q_H) ⊕ (q_H))) = some z23 → q_E d q_K237 71 [some (.inr (.inr (30, 7, 0))), some (.inl a1), some (.inl a2), some (.inl s16.1)] [] s16.2 (some (.inl r.1), r.2) := by
          intro p29 HF
          obtain ⟨g38, HF⟩ := q_gF HF
          refine q_gd (pc' := 81) (loc' := [some (.inr (.inr (30, 7, 0))), some (.inl a1), some (.inl a2), some (.inl s16.1)]) (stk' := [.inl (s16.2.1 31 0 7 ((1583 : Int32) + s16.1).toNatClampNeg)]) (h' := s16.2) 6 (fun _ _ => rfl) g38 ?_
          obtain ⟨z30, HA31, HK32⟩ := q_bind HF
          have hP33 : ∀ p36 : q_H, (some (.inl ((s16.1 + (1 : Int32)), p36)) : Option ((Int32 × q_H) ⊕ (q_H))) = some z23 → q_E d q_K237 96 [some (.inr (.inr (30, 7, 0))), some (.inl a1), some (.inl a2), some (.inl s16.1)] [] p36 (some (.inl r.1), r.2) := by
            intro p36 HF
            refine q_blk (pc' := 61) (loc' := [some (.inr (.inr (30, 7, 0))), some (.inl a1), some (.inl a2), some (.inl (s16.1 + (1 : Int32)))]) (stk' := []) (h' := p36) 2 (fun _ _ => rfl) ?_
            have hz := Option.some.inj HF
            subst hz
            exact H117 ((s16.1 + (1 : Int32)), p36) rfl
          replace HF := HA31
          refine q_br (P := ¬ (s16.2.1 31 0 7 ((1583 : Int32) + s16.1).toNatClampNeg) = a1) (pcT := 96) (pcF := 85) (loc' := [some (.inr (.inr (30, 7, 0))), some (.inl a1), some (.inl a2), some (.inl s16.1)]) (stk' := []) (h' := s16.2) 2 (fun _ _ => rfl) (fun c35 => ?_) (fun c35 => ?_)
          · rw [if_pos c35] at HF
            have hz := Option.some.inj HF
            subst hz
            exact hP33 (s16.2) HK32
          · rw [if_neg c35] at HF
            obtain ⟨g34, HF⟩ := q_gF HF
            refine q_gd (pc' := 96) (loc' := [some (.inr (.inr (30, 7, 0))), some (.inl a1), some (.inl a2), some (.inl s16.1)]) (stk' := []) (h' := (q_si s16.2 31 0 7 ((1583 : Int32) + s16.1).toNatClampNeg (0 : Int32))) 7 (fun _ _ => rfl) g34 ?_
            have hz := Option.some.inj HF
            subst hz
            exact hP33 (q_si s16.2 31 0 7 ((1583 : Int32) + s16.1).toNatClampNeg (0 : Int32)) HK32
        replace HF := HA25
        refine q_br (P := (s16.2.1 31 0 7 4) ≤ s16.1) (pcT := 102) (pcF := 71) (loc' := [some (.inr (.inr (30, 7, 0))), some (.inl a1), some (.inl a2), some (.inl s16.1)]) (stk' := []) (h' := s16.2) 6 (fun _ _ => rfl) (fun c28 => ?_) (fun c28 => ?_)
        · rw [if_pos c28] at HF
          have hz := Option.some.inj HF
          subst hz
          replace HF := HK26
          have hz := Option.some.inj HF
          subst hz
          rw [← H218 _ rfl] at HK19
          exact q_wk (loc := [some (.inr (.inr (30, 7, 0))), some (.inl a1), some (.inl a2), none]) ⟨Or.inl rfl, ⟨Or.inl rfl, ⟨Or.inl rfl, ⟨Or.inr ⟨rfl, fun _ h => by cases h⟩, trivial⟩⟩⟩⟩ (hP20 (s16.2) HK19)
        · rw [if_neg c28] at HF
          have hz := Option.some.inj HF
          subst hz
          exact hP27 () HK26
      replace HF := HA6
      refine q_br (P := ¬ a2 = (1 : Int32)) (pcT := 48) (pcF := 33) (loc' := [some (.inr (.inr (30, 7, 0))), some (.inl a1), some (.inl a2), none]) (stk' := []) (h' := h) 3 (fun _ _ => rfl) (fun c14 => ?_) (fun c14 => ?_)
      · rw [if_pos c14] at HF
        have hz := Option.some.inj HF
        subst hz
        exact hP8 (h) HK7
      · rw [if_neg c14] at HF
        obtain ⟨x9, hx10, HF⟩ := q_bind HF
        refine q_cll (m' := 201) (av := [.inr (.inr (30, 7, 0)), .inl a1]) (st' := []) (pc' := 38) (loc' := [some (.inr (.inr (30, 7, 0))), some (.inl a1), some (.inl a2), none]) (h' := h) 3 (fun _ _ => rfl) (eMo_isWaiting (by omega) hx10) ?_
        refine q_br (P := x9 = 0) (pcT := 48) (pcF := 41) (loc' := [some (.inr (.inr (30, 7, 0))), some (.inl a1), some (.inl a2), none]) (stk' := []) (h' := h) 1 (fun _ _ => rfl) (fun c13 => ?_) (fun c13 => ?_)
        · rw [if_pos c13] at HF
          have hz := Option.some.inj HF
          subst hz
          exact hP8 (h) HK7
        · rw [if_neg c13] at HF
          obtain ⟨x11, hx12, HF⟩ := q_bind HF
          refine q_cll (m' := 182) (av := [.inr (.inr (30, 7, 0)), .inl (11 : Int32)]) (st' := []) (pc' := 47) (loc' := [some (.inr (.inr (30, 7, 0))), some (.inl a1), some (.inl a2), none]) (h' := h) 3 (fun _ _ => rfl) (eMo_refuse (by omega) hx12) ?_
          have hz := Option.some.inj HF
          subst hz
          replace HF := HK7
          have hz := Option.some.inj HF
          subst hz
          exact q_rtn 1 (fun _ _ => rfl)
    · rw [if_neg c55] at HF
      obtain ⟨x53, hx54, HF⟩ := q_bind HF
      refine q_cll (m' := 182) (av := [.inr (.inr (30, 7, 0)), .inl (4 : Int32)]) (st' := []) (pc' := 27) (loc' := [some (.inr (.inr (30, 7, 0))), some (.inl a1), some (.inl a2), none]) (h' := h) 3 (fun _ _ => rfl) (eMo_refuse (by omega) hx54) ?_
      have hz := Option.some.inj HF
      subst hz
      exact q_rtn 1 (fun _ _ => rfl)
  · rw [if_neg c58] at HF
    obtain ⟨x56, hx57, HF⟩ := q_bind HF
    refine q_cll (m' := 182) (av := [.inr (.inr (30, 7, 0)), .inl (2 : Int32)]) (st' := []) (pc' := 13) (loc' := [some (.inr (.inr (30, 7, 0))), some (.inl a1), some (.inl a2), none]) (h' := h) 3 (fun _ _ => rfl) (eMo_refuse (by omega) hx57) ?_
    have hz := Option.some.inj HF
    subst hz
    exact q_rtn 1 (fun _ _ => rfl)
