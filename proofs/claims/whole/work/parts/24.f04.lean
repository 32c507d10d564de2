def Ix_dropAllTo (k : Nat) (a1 : Int32) (h : q_H) : Option (Int32 × q_H) :=
  (q_lp (fun s1 : Int32 × Int32 × q_H => (if (s1.2.2.1 11 3 k 0) ≤ s1.2.1 then (some (.inr ((((s1.2.2.1 11 3 k 0) - s1.1), (q_si s1.2.2 11 3 k 0 s1.1))))) else ((Ix_placeAt k s1.2.1 s1.2.2).bind fun x9 => Option.bind (α := Int32 × q_H) (if x9 = a1 then (some ((s1.1, s1.2.2))) else ((Ix_move k s1.2.1 s1.1 s1.2.2).bind fun x15 => some (((s1.1 + (1 : Int32)), x15)))) (fun p18 => some (.inl (p18.1, (s1.2.1 + (1 : Int32)), p18.2)))) : Option ((Int32 × Int32 × q_H) ⊕ (Int32 × q_H)))) q_fu (((0 : Int32), (0 : Int32), h) : Int32 × Int32 × q_H)).bind fun z8 => some z8
set_option maxRecDepth 100000 in
set_option maxHeartbeats 4000000 in
theorem eIx_dropAllTo {d : Nat} (hd : 3 ≤ d) {k : Nat} {a1 : Int32} {h : q_H} {r : (Int32 × q_H)} (HF : Ix_dropAllTo k a1 h = some r) : q_T d 78 [.inr (.inr (11, k, 0)), .inl a1] h (some (.inl r.1), r.2) := by
  obtain ⟨d, rfl⟩ : ∃ d', d = d' + 1 := ⟨d - 1, by omega⟩
  refine q_ent q_K78 rfl rfl rfl ?_
  unfold Ix_dropAllTo at HF
  refine q_blk (pc' := 4) (loc' := [some (.inr (.inr (11, k, 0))), some (.inl a1), some (.inl (0 : Int32)), some (.inl (0 : Int32))]) (stk' := []) (h' := h) 4 (fun _ _ => rfl) ?_
  obtain ⟨r6, hl7, HK4⟩ := q_bind HF
  refine q_lpE (E := fun s1 => q_E d q_K78 4 [some (.inr (.inr (11, k, 0))), some (.inl a1), some (.inl s1.1), some (.inl s1.2.1)] [] s1.2.2 (some (.inl r.1), r.2)) r6 (fun s1 z8 HF H12 H23 => ?_) _ _ hl7
  refine q_br (P := (s1.2.2.1 11 3 k 0) ≤ s1.2.1) (pcT := 36) (pcF := 12) (loc' := [some (.inr (.inr (11, k, 0))), some (.inl a1), some (.inl s1.1), some (.inl s1.2.1)]) (stk' := []) (h' := s1.2.2) 4 (fun _ _ => rfl) (fun c20 => ?_) (fun c20 => ?_)
  · rw [if_pos c20] at HF
    have hz := Option.some.inj HF
    subst hz
    replace HF := HK4
    rw [← H23 _ rfl] at HF
    have hz := Option.some.inj HF
    subst hz
    exact q_rtn 10 (fun _ _ => rfl)
  · rw [if_neg c20] at HF
    obtain ⟨x9, hx10, HF⟩ := q_bind HF
    refine q_cll (m' := 72) (av := [.inr (.inr (11, k, 0)), .inl s1.2.1]) (st' := []) (pc' := 17) (loc' := [some (.inr (.inr (11, k, 0))), some (.inl a1), some (.inl s1.1), some (.inl s1.2.1)]) (h' := s1.2.2) 3 (fun _ _ => rfl) (eIx_placeAt (by omega) hx10) ?_
    obtain ⟨z11, HA12, HK13⟩ := q_bind HF
    have hP14 : ∀ p18 : Int32 × q_H, (some (.inl (p18.1, (s1.2.1 + (1 : Int32)), p18.2)) : Option ((Int32 × Int32 × q_H) ⊕ (Int32 × q_H))) = some z8 → q_E d q_K78 30 [some (.inr (.inr (11, k, 0))), some (.inl a1), some (.inl p18.1), some (.inl s1.2.1)] [] p18.2 (some (.inl r.1), r.2) := by
      intro p18 HF
      refine q_blk (pc' := 4) (loc' := [some (.inr (.inr (11, k, 0))), some (.inl a1), some (.inl p18.1), some (.inl (s1.2.1 + (1 : Int32)))]) (stk' := []) (h' := p18.2) 2 (fun _ _ => rfl) ?_
      have hz := Option.some.inj HF
      subst hz
      exact H12 (p18.1, (s1.2.1 + (1 : Int32)), p18.2) rfl
    replace HF := HA12
    refine q_br (P := x9 = a1) (pcT := 30) (pcF := 21) (loc' := [some (.inr (.inr (11, k, 0))), some (.inl a1), some (.inl s1.1), some (.inl s1.2.1)]) (stk' := []) (h' := s1.2.2) 2 (fun _ _ => rfl) (fun c17 => ?_) (fun c17 => ?_)
    · rw [if_pos c17] at HF
      have hz := Option.some.inj HF
      subst hz
      exact hP14 (s1.1, s1.2.2) HK13
    · rw [if_neg c17] at HF
      obtain ⟨x15, hx16, HF⟩ := q_bind HF
      refine q_cll (m' := 75) (av := [.inr (.inr (11, k, 0)), .inl s1.2.1, .inl s1.1]) (st' := []) (pc' := 27) (loc' := [some (.inr (.inr (11, k, 0))), some (.inl a1), some (.inl s1.1), some (.inl s1.2.1)]) (h' := s1.2.2) 4 (fun _ _ => rfl) (eIx_move (by omega) hx16) ?_
      refine q_blk (pc' := 30) (loc' := [some (.inr (.inr (11, k, 0))), some (.inl a1), some (.inl (s1.1 + (1 : Int32))), some (.inl s1.2.1)]) (stk' := []) (h' := x15) 1 (fun _ _ => rfl) ?_
      have hz := Option.some.inj HF
      subst hz
      exact hP14 ((s1.1 + (1 : Int32)), x15) HK13
def Ix_howManyLeadTo (k : Nat) (a1 : Int32) (h : q_H) : Option Int32 :=
  (q_lp (fun s1 : Int32 × Int32 => (if (h.1 11 3 k 0) ≤ s1.2 then (some (.inr (s1.1))) else ((Ix_placeAt k s1.2 h).bind fun x9 => Option.bind (α := Int32) (if ¬ x9 = a1 then (some (s1.1)) else (some ((s1.1 + (1 : Int32))))) (fun p16 => some (.inl (p16, (s1.2 + (1 : Int32)))))) : Option ((Int32 × Int32) ⊕ Int32))) q_fu (((0 : Int32), (0 : Int32)) : Int32 × Int32)).bind fun z8 => some z8
set_option maxRecDepth 100000 in
set_option maxHeartbeats 4000000 in
theorem eIx_howManyLeadTo {d : Nat} (hd : 3 ≤ d) {k : Nat} {a1 : Int32} {h : q_H} {r : Int32} (HF : Ix_howManyLeadTo k a1 h = some r) : q_T d 79 [.inr (.inr (11, k, 0)), .inl a1] h (some (.inl r), h) := by
  obtain ⟨d, rfl⟩ : ∃ d', d = d' + 1 := ⟨d - 1, by omega⟩
  refine q_ent q_K79 rfl rfl rfl ?_
  unfold Ix_howManyLeadTo at HF
  refine q_blk (pc' := 4) (loc' := [some (.inr (.inr (11, k, 0))), some (.inl a1), some (.inl (0 : Int32)), some (.inl (0 : Int32))]) (stk' := []) (h' := h) 4 (fun _ _ => rfl) ?_
  obtain ⟨r6, hl7, HK4⟩ := q_bind HF
  refine q_lpE (E := fun s1 => q_E d q_K79 4 [some (.inr (.inr (11, k, 0))), some (.inl a1), some (.inl s1.1), some (.inl s1.2)] [] h (some (.inl r), h)) r6 (fun s1 z8 HF H12 H23 => ?_) _ _ hl7
  refine q_br (P := (h.1 11 3 k 0) ≤ s1.2) (pcT := 30) (pcF := 12) (loc' := [some (.inr (.inr (11, k, 0))), some (.inl a1), some (.inl s1.1), some (.inl s1.2)]) (stk' := []) (h' := h) 4 (fun _ _ => rfl) (fun c18 => ?_) (fun c18 => ?_)
  · rw [if_pos c18] at HF
    have hz := Option.some.inj HF
    subst hz
    replace HF := HK4
    rw [← H23 _ rfl] at HF
    have hz := Option.some.inj HF
    subst hz
    exact q_rtn 2 (fun _ _ => rfl)
  · rw [if_neg c18] at HF
    obtain ⟨x9, hx10, HF⟩ := q_bind HF
    refine q_cll (m' := 72) (av := [.inr (.inr (11, k, 0)), .inl s1.2]) (st' := []) (pc' := 17) (loc' := [some (.inr (.inr (11, k, 0))), some (.inl a1), some (.inl s1.1), some (.inl s1.2)]) (h' := h) 3 (fun _ _ => rfl) (eIx_placeAt (by omega) hx10) ?_
    obtain ⟨z11, HA12, HK13⟩ := q_bind HF
    have hP14 : ∀ p16 : Int32, (some (.inl (p16, (s1.2 + (1 : Int32)))) : Option ((Int32 × Int32) ⊕ Int32)) = some z8 → q_E d q_K79 24 [some (.inr (.inr (11, k, 0))), some (.inl a1), some (.inl p16), some (.inl s1.2)] [] h (some (.inl r), h) := by
      intro p16 HF
      refine q_blk (pc' := 4) (loc' := [some (.inr (.inr (11, k, 0))), some (.inl a1), some (.inl p16), some (.inl (s1.2 + (1 : Int32)))]) (stk' := []) (h' := h) 2 (fun _ _ => rfl) ?_
      have hz := Option.some.inj HF
      subst hz
      exact H12 (p16, (s1.2 + (1 : Int32))) rfl
    replace HF := HA12
    refine q_br (P := ¬ x9 = a1) (pcT := 24) (pcF := 21) (loc' := [some (.inr (.inr (11, k, 0))), some (.inl a1), some (.inl s1.1), some (.inl s1.2)]) (stk' := []) (h' := h) 2 (fun _ _ => rfl) (fun c15 => ?_) (fun c15 => ?_)
    · rw [if_pos c15] at HF
      have hz := Option.some.inj HF
      subst hz
      exact hP14 (s1.1) HK13
    · rw [if_neg c15] at HF
      refine q_blk (pc' := 24) (loc' := [some (.inr (.inr (11, k, 0))), some (.inl a1), some (.inl (s1.1 + (1 : Int32))), some (.inl s1.2)]) (stk' := []) (h' := h) 1 (fun _ _ => rfl) ?_
      have hz := Option.some.inj HF
      subst hz
      exact hP14 (s1.1 + (1 : Int32)) HK13
def Lg_copyFrom (k : Nat) (k1 : Nat) (h : q_H) : Option q_H :=
  (Rp_copy 16 k1 16 k h).bind fun x1 => (Rp_copy 17 k1 17 k x1).bind fun x3 => (Rp_copy 18 k1 18 k x3).bind fun x5 => some ((q_si x5 15 3 k 0 (x5.1 15 3 k1 0)))
set_option maxRecDepth 100000 in
set_option maxHeartbeats 4000000 in
theorem eLg_copyFrom {d : Nat} (hd : 3 ≤ d) {k : Nat} {k1 : Nat} {h : q_H} {r : q_H} (HF : Lg_copyFrom k k1 h = some r) : q_T d 80 [.inr (.inr (15, k, 0)), .inr (.inr (15, k1, 0))] h (none, r) := by
  obtain ⟨d, rfl⟩ : ∃ d', d = d' + 1 := ⟨d - 1, by omega⟩
  refine q_ent q_K80 rfl rfl rfl ?_
  unfold Lg_copyFrom at HF
  obtain ⟨x1, hx2, HF⟩ := q_bind HF
  refine q_cll (m' := 62) (av := [.inr (.inr (16, k1, 0)), .inr (.inr (16, k, 0))]) (st' := []) (pc' := 11) (loc' := [some (.inr (.inr (15, k, 0))), some (.inr (.inr (15, k1, 0)))]) (h' := h) 5 (fun _ _ => rfl) (eRp_copy (by omega) hx2) ?_
  obtain ⟨x3, hx4, HF⟩ := q_bind HF
  refine q_cll (m' := 62) (av := [.inr (.inr (17, k1, 0)), .inr (.inr (17, k, 0))]) (st' := []) (pc' := 22) (loc' := [some (.inr (.inr (15, k, 0))), some (.inr (.inr (15, k1, 0)))]) (h' := x1) 5 (fun _ _ => rfl) (eRp_copy (by omega) hx4) ?_
  obtain ⟨x5, hx6, HF⟩ := q_bind HF
  refine q_cll (m' := 62) (av := [.inr (.inr (18, k1, 0)), .inr (.inr (18, k, 0))]) (st' := []) (pc' := 33) (loc' := [some (.inr (.inr (15, k, 0))), some (.inr (.inr (15, k1, 0)))]) (h' := x3) 5 (fun _ _ => rfl) (eRp_copy (by omega) hx6) ?_
  have hz := Option.some.inj HF
  subst hz
  exact q_rtn 5 (fun _ _ => rfl)
def Pg_copyFrom (k : Nat) (k1 : Nat) (h : q_H) : Option q_H :=
  (q_lp (fun s1 : Int32 × q_H => (if (60 : Int32) ≤ s1.1 then ((Rp_copy 4 k1 4 k s1.2).bind fun x9 => (Rp_copy 5 k1 5 k x9).bind fun x11 => some (.inr ((q_si x11 1 4 k 0 (x11.1 1 4 k1 0))))) else ((Pg_at k s1.1 s1.2).bind fun x13 => (Pg_at k1 s1.1 s1.2).bind fun x15 => (Sl_copyFrom k x13 k1 x15 s1.2).bind fun x17 => some (.inl ((s1.1 + (1 : Int32)), x17))) : Option ((Int32 × q_H) ⊕ q_H))) q_fu (((0 : Int32), h) : Int32 × q_H)).bind fun z8 => some z8
set_option maxRecDepth 100000 in
set_option maxHeartbeats 4000000 in
theorem ePg_copyFrom {d : Nat} (hd : 3 ≤ d) {k : Nat} {k1 : Nat} {h : q_H} {r : q_H} (HF : Pg_copyFrom k k1 h = some r) : q_T d 87 [.inr (.inr (1, k, 0)), .inr (.inr (1, k1, 0))] h (none, r) := by
  obtain ⟨d, rfl⟩ : ∃ d', d = d' + 1 := ⟨d - 1, by omega⟩
  refine q_ent q_K87 rfl rfl rfl ?_
  unfold Pg_copyFrom at HF
  refine q_blk (pc' := 2) (loc' := [some (.inr (.inr (1, k, 0))), some (.inr (.inr (1, k1, 0))), some (.inl (0 : Int32))]) (stk' := []) (h' := h) 2 (fun _ _ => rfl) ?_
  obtain ⟨r6, hl7, HK4⟩ := q_bind HF
  refine q_lpE (E := fun s1 => q_E d q_K87 2 [some (.inr (.inr (1, k, 0))), some (.inr (.inr (1, k1, 0))), some (.inl s1.1)] [] s1.2 (none, r)) r6 (fun s1 z8 HF H12 H23 => ?_) _ _ hl7
  refine q_br (P := (60 : Int32) ≤ s1.1) (pcT := 27) (pcF := 8) (loc' := [some (.inr (.inr (1, k, 0))), some (.inr (.inr (1, k1, 0))), some (.inl s1.1)]) (stk' := []) (h' := s1.2) 3 (fun _ _ => rfl) (fun c19 => ?_) (fun c19 => ?_)
  · rw [if_pos c19] at HF
    obtain ⟨x9, hx10, HF⟩ := q_bind HF
    refine q_cll (m' := 62) (av := [.inr (.inr (4, k1, 0)), .inr (.inr (4, k, 0))]) (st' := []) (pc' := 38) (loc' := [some (.inr (.inr (1, k, 0))), some (.inr (.inr (1, k1, 0))), some (.inl s1.1)]) (h' := s1.2) 5 (fun _ _ => rfl) (eRp_copy (by omega) hx10) ?_
    obtain ⟨x11, hx12, HF⟩ := q_bind HF
    refine q_cll (m' := 62) (av := [.inr (.inr (5, k1, 0)), .inr (.inr (5, k, 0))]) (st' := []) (pc' := 49) (loc' := [some (.inr (.inr (1, k, 0))), some (.inr (.inr (1, k1, 0))), some (.inl s1.1)]) (h' := x9) 5 (fun _ _ => rfl) (eRp_copy (by omega) hx12) ?_
    have hz := Option.some.inj HF
    subst hz
    replace HF := HK4
    rw [← H23 _ rfl] at HF
    have hz := Option.some.inj HF
    subst hz
    exact q_rtn 5 (fun _ _ => rfl)
  · rw [if_neg c19] at HF
    obtain ⟨x13, hx14, HF⟩ := q_bind HF
    refine q_cll (m' := 89) (av := [.inr (.inr (1, k, 0)), .inl s1.1]) (st' := []) (pc' := 13) (loc' := [some (.inr (.inr (1, k, 0))), some (.inr (.inr (1, k1, 0))), some (.inl s1.1)]) (h' := s1.2) 3 (fun _ _ => rfl) (ePg_at (by omega) hx14) ?_
    obtain ⟨x15, hx16, HF⟩ := q_bind HF
    refine q_cll (m' := 89) (av := [.inr (.inr (1, k1, 0)), .inl s1.1]) (st' := [.inr (.inr (3, k, x13))]) (pc' := 18) (loc' := [some (.inr (.inr (1, k, 0))), some (.inr (.inr (1, k1, 0))), some (.inl s1.1)]) (h' := s1.2) 3 (fun _ _ => rfl) (ePg_at (by omega) hx16) ?_
    obtain ⟨x17, hx18, HF⟩ := q_bind HF
    refine q_cll (m' := 64) (av := [.inr (.inr (3, k, x13)), .inr (.inr (3, k1, x15))]) (st' := []) (pc' := 21) (loc' := [some (.inr (.inr (1, k, 0))), some (.inr (.inr (1, k1, 0))), some (.inl s1.1)]) (h' := s1.2) 1 (fun _ _ => rfl) (eSl_copyFrom (by omega) hx18) ?_
    refine q_blk (pc' := 2) (loc' := [some (.inr (.inr (1, k, 0))), some (.inr (.inr (1, k1, 0))), some (.inl (s1.1 + (1 : Int32)))]) (stk' := []) (h' := x17) 2 (fun _ _ => rfl) ?_
    have hz := Option.some.inj HF
    subst hz
    exact H12 ((s1.1 + (1 : Int32)), x17) rfl
def Pg_hasSlot (k : Nat) (a1 : Int32) (a2 : Int32) (h : q_H) : Option Int32 :=
  (Rp_isPage a1 h).bind fun x1 => if x1 = 0 then (some ((0 : Int32))) else (if a2 < 0 then (some ((0 : Int32))) else ((Pg_lengthOf k a1 h).bind fun x3 => if x3 ≤ a2 then (some ((0 : Int32))) else (some ((1 : Int32)))))
set_option maxRecDepth 100000 in
set_option maxHeartbeats 4000000 in
theorem ePg_hasSlot {d : Nat} (hd : 3 ≤ d) {k : Nat} {a1 : Int32} {a2 : Int32} {h : q_H} {r : Int32} (HF : Pg_hasSlot k a1 a2 h = some r) : q_T d 91 [.inr (.inr (1, k, 0)), .inl a1, .inl a2] h (some (.inl r), h) := by
  obtain ⟨d, rfl⟩ : ∃ d', d = d' + 1 := ⟨d - 1, by omega⟩
  refine q_ent q_K91 rfl rfl rfl ?_
  unfold Pg_hasSlot at HF
  obtain ⟨x1, hx2, HF⟩ := q_bind HF
  refine q_cll (m' := 56) (av := [.inl a1]) (st' := []) (pc' := 4) (loc' := [some (.inr (.inr (1, k, 0))), some (.inl a1), some (.inl a2)]) (h' := h) 2 (fun _ _ => rfl) (eRp_isPage (by omega) hx2) ?_
  refine q_br (P := x1 = 0) (pcT := 24) (pcF := 7) (loc' := [some (.inr (.inr (1, k, 0))), some (.inl a1), some (.inl a2)]) (stk' := []) (h' := h) 1 (fun _ _ => rfl) (fun c7 => ?_) (fun c7 => ?_)
  · rw [if_pos c7] at HF
    have hz := Option.some.inj HF
    subst hz
    exact q_rtn 2 (fun _ _ => rfl)
  · rw [if_neg c7] at HF
    refine q_br (P := a2 < 0) (pcT := 24) (pcF := 11) (loc' := [some (.inr (.inr (1, k, 0))), some (.inl a1), some (.inl a2)]) (stk' := []) (h' := h) 2 (fun _ _ => rfl) (fun c6 => ?_) (fun c6 => ?_)
    · rw [if_pos c6] at HF
      have hz := Option.some.inj HF
      subst hz
      exact q_rtn 2 (fun _ _ => rfl)
    · rw [if_neg c6] at HF
      obtain ⟨x3, hx4, HF⟩ := q_bind HF
      refine q_cll (m' := 90) (av := [.inr (.inr (1, k, 0)), .inl a1]) (st' := [.inl a2]) (pc' := 17) (loc' := [some (.inr (.inr (1, k, 0))), some (.inl a1), some (.inl a2)]) (h' := h) 4 (fun _ _ => rfl) (ePg_lengthOf (by omega) hx4) ?_
      refine q_br (P := x3 ≤ a2) (pcT := 24) (pcF := 20) (loc' := [some (.inr (.inr (1, k, 0))), some (.inl a1), some (.inl a2)]) (stk' := []) (h' := h) 1 (fun _ _ => rfl) (fun c5 => ?_) (fun c5 => ?_)
      · rw [if_pos c5] at HF
        have hz := Option.some.inj HF
        subst hz
        exact q_rtn 2 (fun _ _ => rfl)
      · rw [if_neg c5] at HF
        have hz := Option.some.inj HF
        subst hz
        exact q_rtn 3 (fun _ _ => rfl)
def Pg_freeInAll (k : Nat) (h : q_H) : Option Int32 :=
  (q_lp (fun s1 : Int32 × Int32 => (if (6 : Int32) ≤ s1.2 then (some (.inr (s1.1))) else ((Pg_freeOf k s1.2 h).bind fun x9 => some (.inl ((s1.1 + x9), (s1.2 + (1 : Int32))))) : Option ((Int32 × Int32) ⊕ Int32))) q_fu (((0 : Int32), (0 : Int32)) : Int32 × Int32)).bind fun z8 => some z8
set_option maxRecDepth 100000 in
set_option maxHeartbeats 4000000 in
theorem ePg_freeInAll {d : Nat} (hd : 3 ≤ d) {k : Nat} {h : q_H} {r : Int32} (HF : Pg_freeInAll k h = some r) : q_T d 95 [.inr (.inr (1, k, 0))] h (some (.inl r), h) := by
  obtain ⟨d, rfl⟩ : ∃ d', d = d' + 1 := ⟨d - 1, by omega⟩
  refine q_ent q_K95 rfl rfl rfl ?_
  unfold Pg_freeInAll at HF
  refine q_blk (pc' := 4) (loc' := [some (.inr (.inr (1, k, 0))), some (.inl (0 : Int32)), some (.inl (0 : Int32))]) (stk' := []) (h' := h) 4 (fun _ _ => rfl) ?_
  obtain ⟨r6, hl7, HK4⟩ := q_bind HF
  refine q_lpE (E := fun s1 => q_E d q_K95 4 [some (.inr (.inr (1, k, 0))), some (.inl s1.1), some (.inl s1.2)] [] h (some (.inl r), h)) r6 (fun s1 z8 HF H12 H23 => ?_) _ _ hl7
  refine q_br (P := (6 : Int32) ≤ s1.2) (pcT := 24) (pcF := 10) (loc' := [some (.inr (.inr (1, k, 0))), some (.inl s1.1), some (.inl s1.2)]) (stk' := []) (h' := h) 3 (fun _ _ => rfl) (fun c11 => ?_) (fun c11 => ?_)
  · rw [if_pos c11] at HF
    have hz := Option.some.inj HF
    subst hz
    replace HF := HK4
    rw [← H23 _ rfl] at HF
    have hz := Option.some.inj HF
    subst hz
    exact q_rtn 2 (fun _ _ => rfl)
  · rw [if_neg c11] at HF
    obtain ⟨x9, hx10, HF⟩ := q_bind HF
    refine q_cll (m' := 94) (av := [.inr (.inr (1, k, 0)), .inl s1.2]) (st' := [.inl s1.1]) (pc' := 16) (loc' := [some (.inr (.inr (1, k, 0))), some (.inl s1.1), some (.inl s1.2)]) (h' := h) 4 (fun _ _ => rfl) (ePg_freeOf (by omega) hx10) ?_
    refine q_blk (pc' := 4) (loc' := [some (.inr (.inr (1, k, 0))), some (.inl (s1.1 + x9)), some (.inl (s1.2 + (1 : Int32)))]) (stk' := []) (h' := h) 4 (fun _ _ => rfl) ?_
    have hz := Option.some.inj HF
    subst hz
    exact H12 ((s1.1 + x9), (s1.2 + (1 : Int32))) rfl
def Pg_unusedOf (k : Nat) (a1 : Int32) (h : q_H) : Option Int32 :=
  (q_lp (fun s1 : Int32 × Int32 => ((Pg_lengthOf k a1 h).bind fun x9 => if x9 ≤ s1.2 then (some (.inr (s1.1))) else ((Pg_at k ((a1 * (10 : Int32)) + s1.2) h).bind fun x11 => Option.bind (α := Int32) (if ¬ (h.1 3 0 k x11) = 0 then (some (s1.1)) else (some ((s1.1 + (1 : Int32))))) (fun p18 => some (.inl (p18, (s1.2 + (1 : Int32)))))) : Option ((Int32 × Int32) ⊕ Int32))) q_fu (((0 : Int32), (0 : Int32)) : Int32 × Int32)).bind fun z8 => some z8
set_option maxRecDepth 100000 in
set_option maxHeartbeats 4000000 in
theorem ePg_unusedOf {d : Nat} (hd : 3 ≤ d) {k : Nat} {a1 : Int32} {h : q_H} {r : Int32} (HF : Pg_unusedOf k a1 h = some r) : q_T d 96 [.inr (.inr (1, k, 0)), .inl a1] h (some (.inl r), h) := by
  obtain ⟨d, rfl⟩ : ∃ d', d = d' + 1 := ⟨d - 1, by omega⟩
  refine q_ent q_K96 rfl rfl rfl ?_
  unfold Pg_unusedOf at HF
  refine q_blk (pc' := 4) (loc' := [some (.inr (.inr (1, k, 0))), some (.inl a1), some (.inl (0 : Int32)), some (.inl (0 : Int32))]) (stk' := []) (h' := h) 4 (fun _ _ => rfl) ?_
  obtain ⟨r6, hl7, HK4⟩ := q_bind HF
  refine q_lpE (E := fun s1 => q_E d q_K96 4 [some (.inr (.inr (1, k, 0))), some (.inl a1), some (.inl s1.1), some (.inl s1.2)] [] h (some (.inl r), h)) r6 (fun s1 z8 HF H12 H23 => ?_) _ _ hl7
  obtain ⟨x9, hx10, HF⟩ := q_bind HF
  refine q_cll (m' := 90) (av := [.inr (.inr (1, k, 0)), .inl a1]) (st' := [.inl s1.2]) (pc' := 10) (loc' := [some (.inr (.inr (1, k, 0))), some (.inl a1), some (.inl s1.1), some (.inl s1.2)]) (h' := h) 4 (fun _ _ => rfl) (ePg_lengthOf (by omega) hx10) ?_
  refine q_br (P := x9 ≤ s1.2) (pcT := 38) (pcF := 13) (loc' := [some (.inr (.inr (1, k, 0))), some (.inl a1), some (.inl s1.1), some (.inl s1.2)]) (stk' := []) (h' := h) 1 (fun _ _ => rfl) (fun c20 => ?_) (fun c20 => ?_)
  · rw [if_pos c20] at HF
    have hz := Option.some.inj HF
    subst hz
    replace HF := HK4
    rw [← H23 _ rfl] at HF
    have hz := Option.some.inj HF
    subst hz
    exact q_rtn 2 (fun _ _ => rfl)
  · rw [if_neg c20] at HF
    obtain ⟨x11, hx12, HF⟩ := q_bind HF
    refine q_cll (m' := 89) (av := [.inr (.inr (1, k, 0)), .inl ((a1 * (10 : Int32)) + s1.2)]) (st' := []) (pc' := 23) (loc' := [some (.inr (.inr (1, k, 0))), some (.inl a1), some (.inl s1.1), some (.inl s1.2)]) (h' := h) 7 (fun _ _ => rfl) (ePg_at (by omega) hx12) ?_
    obtain ⟨z13, HA14, HK15⟩ := q_bind HF
    have hP16 : ∀ p18 : Int32, (some (.inl (p18, (s1.2 + (1 : Int32)))) : Option ((Int32 × Int32) ⊕ Int32)) = some z8 → q_E d q_K96 32 [some (.inr (.inr (1, k, 0))), some (.inl a1), some (.inl p18), some (.inl s1.2)] [] h (some (.inl r), h) := by
      intro p18 HF
      refine q_blk (pc' := 4) (loc' := [some (.inr (.inr (1, k, 0))), some (.inl a1), some (.inl p18), some (.inl (s1.2 + (1 : Int32)))]) (stk' := []) (h' := h) 2 (fun _ _ => rfl) ?_
      have hz := Option.some.inj HF
      subst hz
      exact H12 (p18, (s1.2 + (1 : Int32))) rfl
    replace HF := HA14
    refine q_br (P := ¬ (h.1 3 0 k x11) = 0) (pcT := 32) (pcF := 29) (loc' := [some (.inr (.inr (1, k, 0))), some (.inl a1), some (.inl s1.1), some (.inl s1.2)]) (stk' := []) (h' := h) 2 (fun _ _ => rfl) (fun c17 => ?_) (fun c17 => ?_)
    · rw [if_pos c17] at HF
      have hz := Option.some.inj HF
      subst hz
      exact hP16 (s1.1) HK15
    · rw [if_neg c17] at HF
      refine q_blk (pc' := 32) (loc' := [some (.inr (.inr (1, k, 0))), some (.inl a1), some (.inl (s1.1 + (1 : Int32))), some (.inl s1.2)]) (stk' := []) (h' := h) 1 (fun _ _ => rfl) ?_
      have hz := Option.some.inj HF
      subst hz
      exact hP16 (s1.1 + (1 : Int32)) HK15
def Pg_howManyHaveSlots (k : Nat) (h : q_H) : Option Int32 :=
  (q_lp (fun s1 : Int32 × Int32 => (if (6 : Int32) ≤ s1.2 then (some (.inr (s1.1))) else ((Pg_lengthOf k s1.2 h).bind fun x9 => Option.bind (α := Int32) (if x9 ≤ 0 then (some (s1.1)) else (some ((s1.1 + (1 : Int32))))) (fun p16 => some (.inl (p16, (s1.2 + (1 : Int32)))))) : Option ((Int32 × Int32) ⊕ Int32))) q_fu (((0 : Int32), (0 : Int32)) : Int32 × Int32)).bind fun z8 => some z8
set_option maxRecDepth 100000 in
set_option maxHeartbeats 4000000 in
theorem ePg_howManyHaveSlots {d : Nat} (hd : 3 ≤ d) {k : Nat} {h : q_H} {r : Int32} (HF : Pg_howManyHaveSlots k h = some r) : q_T d 98 [.inr (.inr (1, k, 0))] h (some (.inl r), h) := by
  obtain ⟨d, rfl⟩ : ∃ d', d = d' + 1 := ⟨d - 1, by omega⟩
  refine q_ent q_K98 rfl rfl rfl ?_
  unfold Pg_howManyHaveSlots at HF
  refine q_blk (pc' := 4) (loc' := [some (.inr (.inr (1, k, 0))), some (.inl (0 : Int32)), some (.inl (0 : Int32))]) (stk' := []) (h' := h) 4 (fun _ _ => rfl) ?_
  obtain ⟨r6, hl7, HK4⟩ := q_bind HF
  refine q_lpE (E := fun s1 => q_E d q_K98 4 [some (.inr (.inr (1, k, 0))), some (.inl s1.1), some (.inl s1.2)] [] h (some (.inl r), h)) r6 (fun s1 z8 HF H12 H23 => ?_) _ _ hl7
  refine q_br (P := (6 : Int32) ≤ s1.2) (pcT := 27) (pcF := 10) (loc' := [some (.inr (.inr (1, k, 0))), some (.inl s1.1), some (.inl s1.2)]) (stk' := []) (h' := h) 3 (fun _ _ => rfl) (fun c18 => ?_) (fun c18 => ?_)
  · rw [if_pos c18] at HF
    have hz := Option.some.inj HF
    subst hz
    replace HF := HK4
    rw [← H23 _ rfl] at HF
    have hz := Option.some.inj HF
    subst hz
    exact q_rtn 2 (fun _ _ => rfl)
  · rw [if_neg c18] at HF
    obtain ⟨x9, hx10, HF⟩ := q_bind HF
    refine q_cll (m' := 90) (av := [.inr (.inr (1, k, 0)), .inl s1.2]) (st' := []) (pc' := 15) (loc' := [some (.inr (.inr (1, k, 0))), some (.inl s1.1), some (.inl s1.2)]) (h' := h) 3 (fun _ _ => rfl) (ePg_lengthOf (by omega) hx10) ?_
    obtain ⟨z11, HA12, HK13⟩ := q_bind HF
    have hP14 : ∀ p16 : Int32, (some (.inl (p16, (s1.2 + (1 : Int32)))) : Option ((Int32 × Int32) ⊕ Int32)) = some z8 → q_E d q_K98 21 [some (.inr (.inr (1, k, 0))), some (.inl p16), some (.inl s1.2)] [] h (some (.inl r), h) := by
      intro p16 HF
      refine q_blk (pc' := 4) (loc' := [some (.inr (.inr (1, k, 0))), some (.inl p16), some (.inl (s1.2 + (1 : Int32)))]) (stk' := []) (h' := h) 2 (fun _ _ => rfl) ?_
      have hz := Option.some.inj HF
      subst hz
      exact H12 (p16, (s1.2 + (1 : Int32))) rfl
    replace HF := HA12
    refine q_br (P := x9 ≤ 0) (pcT := 21) (pcF := 18) (loc' := [some (.inr (.inr (1, k, 0))), some (.inl s1.1), some (.inl s1.2)]) (stk' := []) (h' := h) 1 (fun _ _ => rfl) (fun c15 => ?_) (fun c15 => ?_)
    · rw [if_pos c15] at HF
      have hz := Option.some.inj HF
      subst hz
      exact hP14 (s1.1) HK13
    · rw [if_neg c15] at HF
      refine q_blk (pc' := 21) (loc' := [some (.inr (.inr (1, k, 0))), some (.inl (s1.1 + (1 : Int32))), some (.inl s1.2)]) (stk' := []) (h' := h) 1 (fun _ _ => rfl) ?_
      have hz := Option.some.inj HF
      subst hz
      exact hP14 (s1.1 + (1 : Int32)) HK13
def Pg_placeIn (k : Nat) (a1 : Int32) (a2 : Int32) (h : q_H) : Option Int32 :=
  (Pg_freeOf k a1 h).bind fun x1 => if a2 ≤ x1 then ((Pg_lengthOf k a1 h).bind fun x3 => (q_lp (fun s5 : Int32 => (if x3 ≤ s5 then (some (.inr (.inl ()))) else ((Pg_at k ((a1 * (10 : Int32)) + s5) h).bind fun x13 => if ¬ (h.1 3 0 k x13) = 0 then (some (.inl (s5 + (1 : Int32)))) else (some (.inr (.inr (((a1 * (10 : Int32)) + s5)))))) : Option ((Int32) ⊕ ((Unit) ⊕ Int32)))) q_fu ((0 : Int32) : Int32)).bind fun z12 => match z12 with | .inl p17 => if (10 : Int32) ≤ x3 then (some ((-1 : Int32))) else (some (((a1 * (10 : Int32)) + x3))) | .inr z12 => some z12) else (some ((-1 : Int32)))
set_option maxRecDepth 100000 in
set_option maxHeartbeats 4000000 in
theorem ePg_placeIn {d : Nat} (hd : 3 ≤ d) {k : Nat} {a1 : Int32} {a2 : Int32} {h : q_H} {r : Int32} (HF : Pg_placeIn k a1 a2 h = some r) : q_T d 99 [.inr (.inr (1, k, 0)), .inl a1, .inl a2] h (some (.inl r), h) := by
  obtain ⟨d, rfl⟩ : ∃ d', d = d' + 1 := ⟨d - 1, by omega⟩
  refine q_ent q_K99 rfl rfl rfl ?_
  unfold Pg_placeIn at HF
  obtain ⟨x1, hx2, HF⟩ := q_bind HF
  refine q_cll (m' := 94) (av := [.inr (.inr (1, k, 0)), .inl a1]) (st' := []) (pc' := 5) (loc' := [some (.inr (.inr (1, k, 0))), some (.inl a1), some (.inl a2), none, none]) (h' := h) 3 (fun _ _ => rfl) (ePg_freeOf (by omega) hx2) ?_
  refine q_br (P := a2 ≤ x1) (pcT := 11) (pcF := 9) (loc' := [some (.inr (.inr (1, k, 0))), some (.inl a1), some (.inl a2), none, none]) (stk' := []) (h' := h) 2 (fun _ _ => rfl) (fun c19 => ?_) (fun c19 => ?_)
  · rw [if_pos c19] at HF
    obtain ⟨x3, hx4, HF⟩ := q_bind HF
    refine q_cll (m' := 90) (av := [.inr (.inr (1, k, 0)), .inl a1]) (st' := []) (pc' := 16) (loc' := [some (.inr (.inr (1, k, 0))), some (.inl a1), some (.inl a2), none, none]) (h' := h) 3 (fun _ _ => rfl) (ePg_lengthOf (by omega) hx4) ?_
    refine q_blk (pc' := 20) (loc' := [some (.inr (.inr (1, k, 0))), some (.inl a1), some (.inl a2), some (.inl x3), some (.inl (0 : Int32))]) (stk' := []) (h' := h) 3 (fun _ _ => rfl) ?_
    obtain ⟨r10, hl11, HK8⟩ := q_bind HF
    have hP9 : ∀ p17 : Unit, (if (10 : Int32) ≤ x3 then (some ((-1 : Int32))) else (some (((a1 * (10 : Int32)) + x3))) : Option Int32) = some r → q_E d q_K99 57 [some (.inr (.inr (1, k, 0))), some (.inl a1), some (.inl a2), some (.inl x3), none] [] h (some (.inl r), h) := by
      intro p17 HF
      refine q_br (P := (10 : Int32) ≤ x3) (pcT := 72) (pcF := 63) (loc' := [some (.inr (.inr (1, k, 0))), some (.inl a1), some (.inl a2), some (.inl x3), none]) (stk' := []) (h' := h) 3 (fun _ _ => rfl) (fun c18 => ?_) (fun c18 => ?_)
      · rw [if_pos c18] at HF
        have hz := Option.some.inj HF
        subst hz
        exact q_rtn 2 (fun _ _ => rfl)
      · rw [if_neg c18] at HF
        have hz := Option.some.inj HF
        subst hz
        exact q_rtn 7 (fun _ _ => rfl)
    refine q_lpE (E := fun s5 => q_E d q_K99 20 [some (.inr (.inr (1, k, 0))), some (.inl a1), some (.inl a2), some (.inl x3), some (.inl s5)] [] h (some (.inl r), h)) r10 (fun s5 z12 HF H16 H27 => ?_) _ _ hl11
    refine q_br (P := x3 ≤ s5) (pcT := 57) (pcF := 26) (loc' := [some (.inr (.inr (1, k, 0))), some (.inl a1), some (.inl a2), some (.inl x3), some (.inl s5)]) (stk' := []) (h' := h) 3 (fun _ _ => rfl) (fun c16 => ?_) (fun c16 => ?_)
    · rw [if_pos c16] at HF
      have hz := Option.some.inj HF
      subst hz
      rw [← H27 _ rfl] at HK8
      exact q_wk (loc := [some (.inr (.inr (1, k, 0))), some (.inl a1), some (.inl a2), some (.inl x3), none]) ⟨Or.inl rfl, ⟨Or.inl rfl, ⟨Or.inl rfl, ⟨Or.inl rfl, ⟨Or.inr ⟨rfl, fun _ h => by cases h⟩, trivial⟩⟩⟩⟩⟩ (hP9 () HK8)
    · rw [if_neg c16] at HF
      obtain ⟨x13, hx14, HF⟩ := q_bind HF
      refine q_cll (m' := 89) (av := [.inr (.inr (1, k, 0)), .inl ((a1 * (10 : Int32)) + s5)]) (st' := []) (pc' := 37) (loc' := [some (.inr (.inr (1, k, 0))), some (.inl a1), some (.inl a2), some (.inl x3), some (.inl s5)]) (h' := h) 7 (fun _ _ => rfl) (ePg_at (by omega) hx14) ?_
      refine q_br (P := ¬ (h.1 3 0 k x13) = 0) (pcT := 51) (pcF := 43) (loc' := [some (.inr (.inr (1, k, 0))), some (.inl a1), some (.inl a2), some (.inl x3), some (.inl s5)]) (stk' := []) (h' := h) 2 (fun _ _ => rfl) (fun c15 => ?_) (fun c15 => ?_)
      · rw [if_pos c15] at HF
        refine q_blk (pc' := 20) (loc' := [some (.inr (.inr (1, k, 0))), some (.inl a1), some (.inl a2), some (.inl x3), some (.inl (s5 + (1 : Int32)))]) (stk' := []) (h' := h) 2 (fun _ _ => rfl) ?_
        have hz := Option.some.inj HF
        subst hz
        exact H16 (s5 + (1 : Int32)) rfl
      · rw [if_neg c15] at HF
        have hz := Option.some.inj HF
        subst hz
        replace HF := HK8
        rw [← H27 _ rfl] at HF
        have hz := Option.some.inj HF
        subst hz
        exact q_rtn 6 (fun _ _ => rfl)
  · rw [if_neg c19] at HF
    have hz := Option.some.inj HF
    subst hz
    exact q_rtn 2 (fun _ _ => rfl)
def Pg_take (k : Nat) (a1 : Int32) (h : q_H) : Option (Int32 × q_H) :=
  (Rp_pageOf a1 h).bind fun x1 => (Rp_slotOf a1 h).bind fun x3 => (Pg_lengthOf k x1 h).bind fun x5 => Option.bind (α := Int32) (if x5 ≤ x3 then (some ((0 : Int32))) else (some ((1 : Int32)))) (fun p12 => if ¬ p12 = 0 then ((Pg_at k a1 h).bind fun x13 => (Sl_empty k x13 (1 : Int32) h).bind fun x15 => (Pg_setClear k x1 (0 : Int32) x15).bind fun x17 => bif q_01 p12 then some ((p12, x17)) else none) else ((Rp_slotOf a1 h).bind fun x20 => (Rp_put 4 k x1 (x20 + (1 : Int32)) h).bind fun x22 => (Pg_at k a1 x22).bind fun x24 => (Sl_empty k x24 (1 : Int32) x22).bind fun x26 => (Pg_setClear k x1 (0 : Int32) x26).bind fun x28 => bif q_01 p12 then some ((p12, x28)) else none))
set_option maxRecDepth 100000 in
set_option maxHeartbeats 4000000 in
theorem ePg_take {d : Nat} (hd : 3 ≤ d) {k : Nat} {a1 : Int32} {h : q_H} {r : (Int32 × q_H)} (HF : Pg_take k a1 h = some r) : q_T d 101 [.inr (.inr (1, k, 0)), .inl a1] h (some (.inl r.1), r.2) := by
  obtain ⟨d, rfl⟩ : ∃ d', d = d' + 1 := ⟨d - 1, by omega⟩
  refine q_ent q_K101 rfl rfl rfl ?_
  unfold Pg_take at HF
  obtain ⟨x1, hx2, HF⟩ := q_bind HF
  refine q_cll (m' := 58) (av := [.inl a1]) (st' := []) (pc' := 4) (loc' := [some (.inr (.inr (1, k, 0))), some (.inl a1), none, none]) (h' := h) 2 (fun _ _ => rfl) (eRp_pageOf (by omega) hx2) ?_
  obtain ⟨x3, hx4, HF⟩ := q_bind HF
  refine q_cll (m' := 59) (av := [.inl a1]) (st' := []) (pc' := 9) (loc' := [some (.inr (.inr (1, k, 0))), some (.inl a1), some (.inl x1), none]) (h' := h) 3 (fun _ _ => rfl) (eRp_slotOf (by omega) hx4) ?_
  obtain ⟨x5, hx6, HF⟩ := q_bind HF
  refine q_cll (m' := 90) (av := [.inr (.inr (1, k, 0)), .inl x1]) (st' := [.inl x3]) (pc' := 14) (loc' := [some (.inr (.inr (1, k, 0))), some (.inl a1), some (.inl x1), none]) (h' := h) 3 (fun _ _ => rfl) (ePg_lengthOf (by omega) hx6) ?_
  obtain ⟨z7, HA8, HK9⟩ := q_bind HF
  have hP10 : ∀ p12 : Int32, (if ¬ p12 = 0 then ((Pg_at k a1 h).bind fun x13 => (Sl_empty k x13 (1 : Int32) h).bind fun x15 => (Pg_setClear k x1 (0 : Int32) x15).bind fun x17 => bif q_01 p12 then some ((p12, x17)) else none) else ((Rp_slotOf a1 h).bind fun x20 => (Rp_put 4 k x1 (x20 + (1 : Int32)) h).bind fun x22 => (Pg_at k a1 x22).bind fun x24 => (Sl_empty k x24 (1 : Int32) x22).bind fun x26 => (Pg_setClear k x1 (0 : Int32) x26).bind fun x28 => bif q_01 p12 then some ((p12, x28)) else none) : Option (Int32 × q_H)) = some r → q_E d q_K101 22 [some (.inr (.inr (1, k, 0))), some (.inl a1), some (.inl x1), none] [.inl p12] h (some (.inl r.1), r.2) := by
    intro p12 HF
    refine q_br (P := ¬ p12 = 0) (pcT := 41) (pcF := 27) (loc' := [some (.inr (.inr (1, k, 0))), some (.inl a1), some (.inl x1), some (.inl p12)]) (stk' := []) (h' := h) 3 (fun _ _ => rfl) (fun c31 => ?_) (fun c31 => ?_)
    · rw [if_pos c31] at HF
      obtain ⟨x13, hx14, HF⟩ := q_bind HF
      refine q_cll (m' := 89) (av := [.inr (.inr (1, k, 0)), .inl a1]) (st' := []) (pc' := 46) (loc' := [some (.inr (.inr (1, k, 0))), some (.inl a1), some (.inl x1), some (.inl p12)]) (h' := h) 3 (fun _ _ => rfl) (ePg_at (by omega) hx14) ?_
      obtain ⟨x15, hx16, HF⟩ := q_bind HF
      refine q_cll (m' := 63) (av := [.inr (.inr (3, k, x13)), .inl (1 : Int32)]) (st' := []) (pc' := 50) (loc' := [some (.inr (.inr (1, k, 0))), some (.inl a1), some (.inl x1), some (.inl p12)]) (h' := h) 2 (fun _ _ => rfl) (eSl_empty (by omega) hx16) ?_
      obtain ⟨x17, hx18, HF⟩ := q_bind HF
      refine q_cll (m' := 93) (av := [.inr (.inr (1, k, 0)), .inl x1, .inl (0 : Int32)]) (st' := []) (pc' := 56) (loc' := [some (.inr (.inr (1, k, 0))), some (.inl a1), some (.inl x1), some (.inl p12)]) (h' := x15) 4 (fun _ _ => rfl) (ePg_setClear (by omega) hx18) ?_
      obtain ⟨g19, HF⟩ := q_gF HF
      have hz := Option.some.inj HF
      subst hz
      exact q_rtz 2 (fun _ _ => rfl) g19
    · rw [if_neg c31] at HF
      obtain ⟨x20, hx21, HF⟩ := q_bind HF
      refine q_cll (m' := 59) (av := [.inl a1]) (st' := [.inl x1, .inr (.inr (4, k, 0))]) (pc' := 36) (loc' := [some (.inr (.inr (1, k, 0))), some (.inl a1), some (.inl x1), some (.inl p12)]) (h' := h) 5 (fun _ _ => rfl) (eRp_slotOf (by omega) hx21) ?_
      obtain ⟨x22, hx23, HF⟩ := q_bind HF
      refine q_cll (m' := 61) (av := [.inr (.inr (4, k, 0)), .inl x1, .inl (x20 + (1 : Int32))]) (st' := []) (pc' := 41) (loc' := [some (.inr (.inr (1, k, 0))), some (.inl a1), some (.inl x1), some (.inl p12)]) (h' := h) 3 (fun _ _ => rfl) (eRp_put (by omega) hx23) ?_
      obtain ⟨x24, hx25, HF⟩ := q_bind HF
      refine q_cll (m' := 89) (av := [.inr (.inr (1, k, 0)), .inl a1]) (st' := []) (pc' := 46) (loc' := [some (.inr (.inr (1, k, 0))), some (.inl a1), some (.inl x1), some (.inl p12)]) (h' := x22) 3 (fun _ _ => rfl) (ePg_at (by omega) hx25) ?_
      obtain ⟨x26, hx27, HF⟩ := q_bind HF
      refine q_cll (m' := 63) (av := [.inr (.inr (3, k, x24)), .inl (1 : Int32)]) (st' := []) (pc' := 50) (loc' := [some (.inr (.inr (1, k, 0))), some (.inl a1), some (.inl x1), some (.inl p12)]) (h' := x22) 2 (fun _ _ => rfl) (eSl_empty (by omega) hx27) ?_
      obtain ⟨x28, hx29, HF⟩ := q_bind HF
      refine q_cll (m' := 93) (av := [.inr (.inr (1, k, 0)), .inl x1, .inl (0 : Int32)]) (st' := []) (pc' := 56) (loc' := [some (.inr (.inr (1, k, 0))), some (.inl a1), some (.inl x1), some (.inl p12)]) (h' := x26) 4 (fun _ _ => rfl) (ePg_setClear (by omega) hx29) ?_
      obtain ⟨g30, HF⟩ := q_gF HF
      have hz := Option.some.inj HF
      subst hz
      exact q_rtz 2 (fun _ _ => rfl) g30
  replace HF := HA8
  refine q_br (P := x5 ≤ x3) (pcT := 21) (pcF := 17) (loc' := [some (.inr (.inr (1, k, 0))), some (.inl a1), some (.inl x1), none]) (stk' := []) (h' := h) 1 (fun _ _ => rfl) (fun c11 => ?_) (fun c11 => ?_)
  · rw [if_pos c11] at HF
    refine q_blk (pc' := 22) (loc' := [some (.inr (.inr (1, k, 0))), some (.inl a1), some (.inl x1), none]) (stk' := [.inl (0 : Int32)]) (h' := h) 1 (fun _ _ => rfl) ?_
    have hz := Option.some.inj HF
    subst hz
    exact hP10 (0 : Int32) HK9
  · rw [if_neg c11] at HF
    refine q_blk (pc' := 22) (loc' := [some (.inr (.inr (1, k, 0))), some (.inl a1), some (.inl x1), none]) (stk' := [.inl (1 : Int32)]) (h' := h) 2 (fun _ _ => rfl) ?_
    have hz := Option.some.inj HF
    subst hz
    exact hP10 (1 : Int32) HK9
def Pg_dropUnusedBehind (k : Nat) (a1 : Int32) (h : q_H) : Option q_H :=
  (q_lp (fun s1 : Int32 × q_H => (if s1.1 < 0 then (some (.inr (s1.2))) else ((Pg_lengthOf k a1 s1.2).bind fun x9 => Option.bind (α := (q_H) ⊕ ((Int32 × q_H) ⊕ q_H)) (if s1.1 < x9 then ((Pg_at k ((a1 * (10 : Int32)) + s1.1) s1.2).bind fun x15 => if (s1.2.1 3 0 k x15) = 0 then ((Rp_put 4 k a1 s1.1 s1.2).bind fun x17 => some (.inl x17)) else (some (.inr (.inr (s1.2))))) else (some (.inl s1.2))) (fun z11 => match z11 with | .inl p21 => some (.inl ((s1.1 + (-1 : Int32)), p21)) | .inr z11 => some z11)) : Option ((Int32 × q_H) ⊕ q_H))) q_fu (((9 : Int32), h) : Int32 × q_H)).bind fun z8 => some z8
set_option maxRecDepth 100000 in
set_option maxHeartbeats 4000000 in
theorem ePg_dropUnusedBehind {d : Nat} (hd : 3 ≤ d) {k : Nat} {a1 : Int32} {h : q_H} {r : q_H} (HF : Pg_dropUnusedBehind k a1 h = some r) : q_T d 102 [.inr (.inr (1, k, 0)), .inl a1] h (none, r) := by
  obtain ⟨d, rfl⟩ : ∃ d', d = d' + 1 := ⟨d - 1, by omega⟩
  refine q_ent q_K102 rfl rfl rfl ?_
  unfold Pg_dropUnusedBehind at HF
  refine q_blk (pc' := 3) (loc' := [some (.inr (.inr (1, k, 0))), some (.inl a1), some (.inl (9 : Int32))]) (stk' := []) (h' := h) 2 (fun _ _ => rfl) ?_
  obtain ⟨r6, hl7, HK4⟩ := q_bind HF
  refine q_lpE (E := fun s1 => q_E d q_K102 3 [some (.inr (.inr (1, k, 0))), some (.inl a1), some (.inl s1.1)] [] s1.2 (none, r)) r6 (fun s1 z8 HF H12 H23 => ?_) _ _ hl7
  refine q_br (P := s1.1 < 0) (pcT := 51) (pcF := 7) (loc' := [some (.inr (.inr (1, k, 0))), some (.inl a1), some (.inl s1.1)]) (stk' := []) (h' := s1.2) 2 (fun _ _ => rfl) (fun c23 => ?_) (fun c23 => ?_)
  · rw [if_pos c23] at HF
    have hz := Option.some.inj HF
    subst hz
    replace HF := HK4
    rw [← H23 _ rfl] at HF
    have hz := Option.some.inj HF
    subst hz
    exact q_rtn 1 (fun _ _ => rfl)
  · rw [if_neg c23] at HF
    obtain ⟨x9, hx10, HF⟩ := q_bind HF
    refine q_cll (m' := 90) (av := [.inr (.inr (1, k, 0)), .inl a1]) (st' := [.inl s1.1]) (pc' := 13) (loc' := [some (.inr (.inr (1, k, 0))), some (.inl a1), some (.inl s1.1)]) (h' := s1.2) 4 (fun _ _ => rfl) (ePg_lengthOf (by omega) hx10) ?_
    obtain ⟨z11, HA12, HK13⟩ := q_bind HF
    have hP14 : ∀ p21 : q_H, (some (.inl ((s1.1 + (-1 : Int32)), p21)) : Option ((Int32 × q_H) ⊕ q_H)) = some z8 → q_E d q_K102 45 [some (.inr (.inr (1, k, 0))), some (.inl a1), some (.inl s1.1)] [] p21 (none, r) := by
      intro p21 HF
      refine q_blk (pc' := 3) (loc' := [some (.inr (.inr (1, k, 0))), some (.inl a1), some (.inl (s1.1 + (-1 : Int32)))]) (stk' := []) (h' := p21) 2 (fun _ _ => rfl) ?_
      have hz := Option.some.inj HF
      subst hz
      exact H12 ((s1.1 + (-1 : Int32)), p21) rfl
    replace HF := HA12
    refine q_br (P := s1.1 < x9) (pcT := 19) (pcF := 16) (loc' := [some (.inr (.inr (1, k, 0))), some (.inl a1), some (.inl s1.1)]) (stk' := []) (h' := s1.2) 1 (fun _ _ => rfl) (fun c20 => ?_) (fun c20 => ?_)
    · rw [if_pos c20] at HF
      obtain ⟨x15, hx16, HF⟩ := q_bind HF
      refine q_cll (m' := 89) (av := [.inr (.inr (1, k, 0)), .inl ((a1 * (10 : Int32)) + s1.1)]) (st' := []) (pc' := 29) (loc' := [some (.inr (.inr (1, k, 0))), some (.inl a1), some (.inl s1.1)]) (h' := s1.2) 7 (fun _ _ => rfl) (ePg_at (by omega) hx16) ?_
      refine q_br (P := (s1.2.1 3 0 k x15) = 0) (pcT := 36) (pcF := 35) (loc' := [some (.inr (.inr (1, k, 0))), some (.inl a1), some (.inl s1.1)]) (stk' := []) (h' := s1.2) 2 (fun _ _ => rfl) (fun c19 => ?_) (fun c19 => ?_)
      · rw [if_pos c19] at HF
        obtain ⟨x17, hx18, HF⟩ := q_bind HF
        refine q_cll (m' := 61) (av := [.inr (.inr (4, k, 0)), .inl a1, .inl s1.1]) (st' := []) (pc' := 45) (loc' := [some (.inr (.inr (1, k, 0))), some (.inl a1), some (.inl s1.1)]) (h' := s1.2) 5 (fun _ _ => rfl) (eRp_put (by omega) hx18) ?_
        have hz := Option.some.inj HF
        subst hz
        exact hP14 (x17) HK13
      · rw [if_neg c19] at HF
        have hz := Option.some.inj HF
        subst hz
        replace HF := HK13
        have hz := Option.some.inj HF
        subst hz
        replace HF := HK4
        rw [← H23 _ rfl] at HF
        have hz := Option.some.inj HF
        subst hz
        exact q_rtn 1 (fun _ _ => rfl)
    · rw [if_neg c20] at HF
      refine q_blk (pc' := 45) (loc' := [some (.inr (.inr (1, k, 0))), some (.inl a1), some (.inl s1.1)]) (stk' := []) (h' := s1.2) 1 (fun _ _ => rfl) ?_
      have hz := Option.some.inj HF
      subst hz
      exact hP14 (s1.2) HK13
def Tn_copyFrom (k : Nat) (k1 : Nat) (h : q_H) : Option q_H :=
  (Rp_copy 7 k1 7 k h).bind fun x1 => (Rp_copy 8 k1 8 k x1).bind fun x3 => (Rp_copy 9 k1 9 k x3).bind fun x5 => bif (decide (0 ≤ (if (61 : Int32) < (61 : Int32) then (61 : Int32) else (61 : Int32))) && (Nat.ble (if (61 : Int32) < (61 : Int32) then (61 : Int32) else (61 : Int32)).toNatClampNeg 61 && Nat.ble (if (61 : Int32) < (61 : Int32) then (61 : Int32) else (61 : Int32)).toNatClampNeg 61)) then ((some (q_si (q_acl 10 k1 10 k (if (61 : Int32) < (61 : Int32) then (61 : Int32) else (61 : Int32)).toNatClampNeg x5) 6 4 k 0 ((q_acl 10 k1 10 k (if (61 : Int32) < (61 : Int32) then (61 : Int32) else (61 : Int32)).toNatClampNeg x5).1 6 4 k1 0))).bind fun h7 => some ((q_si h7 6 5 k 0 (h7.1 6 5 k1 0)))) else none
set_option maxRecDepth 100000 in
set_option maxHeartbeats 4000000 in
theorem eTn_copyFrom {d : Nat} (hd : 3 ≤ d) {k : Nat} {k1 : Nat} {h : q_H} {r : q_H} (HF : Tn_copyFrom k k1 h = some r) : q_T d 104 [.inr (.inr (6, k, 0)), .inr (.inr (6, k1, 0))] h (none, r) := by
  obtain ⟨d, rfl⟩ : ∃ d', d = d' + 1 := ⟨d - 1, by omega⟩
  refine q_ent q_K104 rfl rfl rfl ?_
  unfold Tn_copyFrom at HF
  obtain ⟨x1, hx2, HF⟩ := q_bind HF
  refine q_cll (m' := 62) (av := [.inr (.inr (7, k1, 0)), .inr (.inr (7, k, 0))]) (st' := []) (pc' := 11) (loc' := [some (.inr (.inr (6, k, 0))), some (.inr (.inr (6, k1, 0)))]) (h' := h) 5 (fun _ _ => rfl) (eRp_copy (by omega) hx2) ?_
  obtain ⟨x3, hx4, HF⟩ := q_bind HF
  refine q_cll (m' := 62) (av := [.inr (.inr (8, k1, 0)), .inr (.inr (8, k, 0))]) (st' := []) (pc' := 22) (loc' := [some (.inr (.inr (6, k, 0))), some (.inr (.inr (6, k1, 0)))]) (h' := x1) 5 (fun _ _ => rfl) (eRp_copy (by omega) hx4) ?_
  obtain ⟨x5, hx6, HF⟩ := q_bind HF
  refine q_cll (m' := 62) (av := [.inr (.inr (9, k1, 0)), .inr (.inr (9, k, 0))]) (st' := []) (pc' := 33) (loc' := [some (.inr (.inr (6, k, 0))), some (.inr (.inr (6, k1, 0)))]) (h' := x3) 5 (fun _ _ => rfl) (eRp_copy (by omega) hx6) ?_
  obtain ⟨g9, HF⟩ := q_gF HF
  refine q_gd (pc' := 59) (loc' := [some (.inr (.inr (6, k, 0))), some (.inr (.inr (6, k1, 0)))]) (stk' := []) (h' := (q_acl 10 k1 10 k (if (61 : Int32) < (61 : Int32) then (61 : Int32) else (61 : Int32)).toNatClampNeg x5)) 14 (fun _ _ => rfl) g9 ?_
  obtain ⟨h7, e8, HF⟩ := q_bind HF
  refine q_blk (pc' := 67) (loc' := [some (.inr (.inr (6, k, 0))), some (.inr (.inr (6, k1, 0)))]) (stk' := []) (h' := (q_si (q_acl 10 k1 10 k (if (61 : Int32) < (61 : Int32) then (61 : Int32) else (61 : Int32)).toNatClampNeg x5) 6 4 k 0 ((q_acl 10 k1 10 k (if (61 : Int32) < (61 : Int32) then (61 : Int32) else (61 : Int32)).toNatClampNeg x5).1 6 4 k1 0))) 4 (fun _ _ => rfl) ?_
  rw [Option.some.inj e8]
  have hz := Option.some.inj HF
  subst hz
  exact q_rtn 5 (fun _ _ => rfl)
def Tn_horizonBut (k : Nat) (a1 : Int32) (h : q_H) : Option Int32 :=
  (q_lp (fun s1 : Int32 × Int32 => (if (h.1 6 4 k 0) ≤ s1.2 then (some (.inr (s1.1))) else (Option.bind (α := Int32) (if s1.2 = a1 then (some (s1.1)) else ((Tn_stateOf k s1.2 h).bind fun x13 => if ¬ x13 = 0 then (some (s1.1)) else ((Tn_lowOf k s1.2 h).bind fun x15 => some ((if x15 < s1.1 then x15 else s1.1))))) (fun p19 => some (.inl (p19, (s1.2 + (1 : Int32)))))) : Option ((Int32 × Int32) ⊕ Int32))) q_fu (((h.1 6 4 k 0), (1 : Int32)) : Int32 × Int32)).bind fun z8 => some z8
set_option maxRecDepth 100000 in
set_option maxHeartbeats 4000000 in
theorem eTn_horizonBut {d : Nat} (hd : 3 ≤ d) {k : Nat} {a1 : Int32} {h : q_H} {r : Int32} (HF : Tn_horizonBut k a1 h = some r) : q_T d 115 [.inr (.inr (6, k, 0)), .inl a1] h (some (.inl r), h) := by
  obtain ⟨d, rfl⟩ : ∃ d', d = d' + 1 := ⟨d - 1, by omega⟩
  refine q_ent q_K115 rfl rfl rfl ?_
  unfold Tn_horizonBut at HF
  refine q_blk (pc' := 7) (loc' := [some (.inr (.inr (6, k, 0))), some (.inl a1), some (.inl (h.1 6 4 k 0)), some (.inl (1 : Int32))]) (stk' := []) (h' := h) 5 (fun _ _ => rfl) ?_
  obtain ⟨r6, hl7, HK4⟩ := q_bind HF
  refine q_lpE (E := fun s1 => q_E d q_K115 7 [some (.inr (.inr (6, k, 0))), some (.inl a1), some (.inl s1.1), some (.inl s1.2)] [] h (some (.inl r), h)) r6 (fun s1 z8 HF H12 H23 => ?_) _ _ hl7
  refine q_br (P := (h.1 6 4 k 0) ≤ s1.2) (pcT := 44) (pcF := 15) (loc' := [some (.inr (.inr (6, k, 0))), some (.inl a1), some (.inl s1.1), some (.inl s1.2)]) (stk' := []) (h' := h) 4 (fun _ _ => rfl) (fun c21 => ?_) (fun c21 => ?_)
  · rw [if_pos c21] at HF
    have hz := Option.some.inj HF
    subst hz
    replace HF := HK4
    rw [← H23 _ rfl] at HF
    have hz := Option.some.inj HF
    subst hz
    exact q_rtn 2 (fun _ _ => rfl)
  · rw [if_neg c21] at HF
    obtain ⟨z9, HA10, HK11⟩ := q_bind HF
    have hP12 : ∀ p19 : Int32, (some (.inl (p19, (s1.2 + (1 : Int32)))) : Option ((Int32 × Int32) ⊕ Int32)) = some z8 → q_E d q_K115 38 [some (.inr (.inr (6, k, 0))), some (.inl a1), some (.inl p19), some (.inl s1.2)] [] h (some (.inl r), h) := by
      intro p19 HF
      refine q_blk (pc' := 7) (loc' := [some (.inr (.inr (6, k, 0))), some (.inl a1), some (.inl p19), some (.inl (s1.2 + (1 : Int32)))]) (stk' := []) (h' := h) 2 (fun _ _ => rfl) ?_
      have hz := Option.some.inj HF
      subst hz
      exact H12 (p19, (s1.2 + (1 : Int32))) rfl
    replace HF := HA10
    refine q_br (P := s1.2 = a1) (pcT := 38) (pcF := 20) (loc' := [some (.inr (.inr (6, k, 0))), some (.inl a1), some (.inl s1.1), some (.inl s1.2)]) (stk' := []) (h' := h) 3 (fun _ _ => rfl) (fun c18 => ?_) (fun c18 => ?_)
    · rw [if_pos c18] at HF
      have hz := Option.some.inj HF
      subst hz
      exact hP12 (s1.1) HK11
    · rw [if_neg c18] at HF
      obtain ⟨x13, hx14, HF⟩ := q_bind HF
      refine q_cll (m' := 106) (av := [.inr (.inr (6, k, 0)), .inl s1.2]) (st' := []) (pc' := 25) (loc' := [some (.inr (.inr (6, k, 0))), some (.inl a1), some (.inl s1.1), some (.inl s1.2)]) (h' := h) 3 (fun _ _ => rfl) (eTn_stateOf (by omega) hx14) ?_
      refine q_br (P := ¬ x13 = 0) (pcT := 38) (pcF := 28) (loc' := [some (.inr (.inr (6, k, 0))), some (.inl a1), some (.inl s1.1), some (.inl s1.2)]) (stk' := []) (h' := h) 1 (fun _ _ => rfl) (fun c17 => ?_) (fun c17 => ?_)
      · rw [if_pos c17] at HF
        have hz := Option.some.inj HF
        subst hz
        exact hP12 (s1.1) HK11
      · rw [if_neg c17] at HF
        obtain ⟨x15, hx16, HF⟩ := q_bind HF
        refine q_cll (m' := 107) (av := [.inr (.inr (6, k, 0)), .inl s1.2]) (st' := [.inl s1.1]) (pc' := 34) (loc' := [some (.inr (.inr (6, k, 0))), some (.inl a1), some (.inl s1.1), some (.inl s1.2)]) (h' := h) 4 (fun _ _ => rfl) (eTn_lowOf (by omega) hx16) ?_
        refine q_blk (pc' := 38) (loc' := [some (.inr (.inr (6, k, 0))), some (.inl a1), some (.inl (if x15 < s1.1 then x15 else s1.1)), some (.inl s1.2)]) (stk' := []) (h' := h) 2 (fun _ _ => rfl) ?_
        have hz := Option.some.inj HF
        subst hz
        exact hP12 (if x15 < s1.1 then x15 else s1.1) HK11
def Tn_firstAtHorizon (k : Nat) (h : q_H) : Option Int32 :=
  (q_lp (fun s1 : Int32 => (if (h.1 6 4 k 0) ≤ s1 then (some (.inr ((-1 : Int32)))) else ((Tn_stateOf k s1 h).bind fun x9 => Option.bind (α := (Unit) ⊕ ((Int32) ⊕ Int32)) (if ¬ x9 = 0 then (some (.inl ())) else ((Tn_lowOf k s1 h).bind fun x15 => if ¬ x15 = (h.1 6 5 k 0) then (some (.inl ())) else (some (.inr (.inr (s1)))))) (fun z11 => match z11 with | .inl p19 => some (.inl (s1 + (1 : Int32))) | .inr z11 => some z11)) : Option ((Int32) ⊕ Int32))) q_fu ((1 : Int32) : Int32)).bind fun z8 => some z8
set_option maxRecDepth 100000 in
set_option maxHeartbeats 4000000 in
theorem eTn_firstAtHorizon {d : Nat} (hd : 3 ≤ d) {k : Nat} {h : q_H} {r : Int32} (HF : Tn_firstAtHorizon k h = some r) : q_T d 116 [.inr (.inr (6, k, 0))] h (some (.inl r), h) := by
  obtain ⟨d, rfl⟩ : ∃ d', d = d' + 1 := ⟨d - 1, by omega⟩
  refine q_ent q_K116 rfl rfl rfl ?_
  unfold Tn_firstAtHorizon at HF
  refine q_blk (pc' := 2) (loc' := [some (.inr (.inr (6, k, 0))), some (.inl (1 : Int32))]) (stk' := []) (h' := h) 2 (fun _ _ => rfl) ?_
  obtain ⟨r6, hl7, HK4⟩ := q_bind HF
  refine q_lpE (E := fun s1 => q_E d q_K116 2 [some (.inr (.inr (6, k, 0))), some (.inl s1)] [] h (some (.inl r), h)) r6 (fun s1 z8 HF H12 H23 => ?_) _ _ hl7
  refine q_br (P := (h.1 6 4 k 0) ≤ s1) (pcT := 38) (pcF := 10) (loc' := [some (.inr (.inr (6, k, 0))), some (.inl s1)]) (stk' := []) (h' := h) 4 (fun _ _ => rfl) (fun c21 => ?_) (fun c21 => ?_)
  · rw [if_pos c21] at HF
    have hz := Option.some.inj HF
    subst hz
    replace HF := HK4
    rw [← H23 _ rfl] at HF
    have hz := Option.some.inj HF
    subst hz
    exact q_rtn 2 (fun _ _ => rfl)
  · rw [if_neg c21] at HF
    obtain ⟨x9, hx10, HF⟩ := q_bind HF
    refine q_cll (m' := 106) (av := [.inr (.inr (6, k, 0)), .inl s1]) (st' := []) (pc' := 15) (loc' := [some (.inr (.inr (6, k, 0))), some (.inl s1)]) (h' := h) 3 (fun _ _ => rfl) (eTn_stateOf (by omega) hx10) ?_
    obtain ⟨z11, HA12, HK13⟩ := q_bind HF
    have hP14 : ∀ p19 : Unit, (some (.inl (s1 + (1 : Int32))) : Option ((Int32) ⊕ Int32)) = some z8 → q_E d q_K116 32 [some (.inr (.inr (6, k, 0))), some (.inl s1)] [] h (some (.inl r), h) := by
      intro p19 HF
      refine q_blk (pc' := 2) (loc' := [some (.inr (.inr (6, k, 0))), some (.inl (s1 + (1 : Int32)))]) (stk' := []) (h' := h) 2 (fun _ _ => rfl) ?_
      have hz := Option.some.inj HF
      subst hz
      exact H12 (s1 + (1 : Int32)) rfl
    replace HF := HA12
    refine q_br (P := ¬ x9 = 0) (pcT := 32) (pcF := 18) (loc' := [some (.inr (.inr (6, k, 0))), some (.inl s1)]) (stk' := []) (h' := h) 1 (fun _ _ => rfl) (fun c18 => ?_) (fun c18 => ?_)
    · rw [if_pos c18] at HF
      have hz := Option.some.inj HF
      subst hz
      exact hP14 () HK13
    · rw [if_neg c18] at HF
      obtain ⟨x15, hx16, HF⟩ := q_bind HF
      refine q_cll (m' := 107) (av := [.inr (.inr (6, k, 0)), .inl s1]) (st' := []) (pc' := 23) (loc' := [some (.inr (.inr (6, k, 0))), some (.inl s1)]) (h' := h) 3 (fun _ _ => rfl) (eTn_lowOf (by omega) hx16) ?_
      refine q_br (P := ¬ x15 = (h.1 6 5 k 0)) (pcT := 32) (pcF := 30) (loc' := [some (.inr (.inr (6, k, 0))), some (.inl s1)]) (stk' := []) (h' := h) 3 (fun _ _ => rfl) (fun c17 => ?_) (fun c17 => ?_)
      · rw [if_pos c17] at HF
        have hz := Option.some.inj HF
        subst hz
        exact hP14 () HK13
      · rw [if_neg c17] at HF
        have hz := Option.some.inj HF
        subst hz
        replace HF := HK13
        have hz := Option.some.inj HF
        subst hz
        replace HF := HK4
        rw [← H23 _ rfl] at HF
        have hz := Option.some.inj HF
        subst hz
        exact q_rtn 2 (fun _ _ => rfl)
def Tn_howManyWait (k : Nat) (h : q_H) : Option Int32 :=
  (q_lp (fun s1 : Int32 × Int32 => (if (h.1 6 4 k 0) ≤ s1.2 then (some (.inr (s1.1))) else ((Tn_waitsFor k s1.2 h).bind fun x9 => Option.bind (α := Int32) (if x9 = (-1 : Int32) then (some (s1.1)) else (some ((s1.1 + (1 : Int32))))) (fun p16 => some (.inl (p16, (s1.2 + (1 : Int32)))))) : Option ((Int32 × Int32) ⊕ Int32))) q_fu (((0 : Int32), (1 : Int32)) : Int32 × Int32)).bind fun z8 => some z8
set_option maxRecDepth 100000 in
set_option maxHeartbeats 4000000 in
theorem eTn_howManyWait {d : Nat} (hd : 3 ≤ d) {k : Nat} {h : q_H} {r : Int32} (HF : Tn_howManyWait k h = some r) : q_T d 118 [.inr (.inr (6, k, 0))] h (some (.inl r), h) := by
  obtain ⟨d, rfl⟩ : ∃ d', d = d' + 1 := ⟨d - 1, by omega⟩
  refine q_ent q_K118 rfl rfl rfl ?_
  unfold Tn_howManyWait at HF
  refine q_blk (pc' := 4) (loc' := [some (.inr (.inr (6, k, 0))), some (.inl (0 : Int32)), some (.inl (1 : Int32))]) (stk' := []) (h' := h) 4 (fun _ _ => rfl) ?_
  obtain ⟨r6, hl7, HK4⟩ := q_bind HF
  refine q_lpE (E := fun s1 => q_E d q_K118 4 [some (.inr (.inr (6, k, 0))), some (.inl s1.1), some (.inl s1.2)] [] h (some (.inl r), h)) r6 (fun s1 z8 HF H12 H23 => ?_) _ _ hl7
  refine q_br (P := (h.1 6 4 k 0) ≤ s1.2) (pcT := 30) (pcF := 12) (loc' := [some (.inr (.inr (6, k, 0))), some (.inl s1.1), some (.inl s1.2)]) (stk' := []) (h' := h) 4 (fun _ _ => rfl) (fun c18 => ?_) (fun c18 => ?_)
  · rw [if_pos c18] at HF
    have hz := Option.some.inj HF
    subst hz
    replace HF := HK4
    rw [← H23 _ rfl] at HF
    have hz := Option.some.inj HF
    subst hz
    exact q_rtn 2 (fun _ _ => rfl)
  · rw [if_neg c18] at HF
    obtain ⟨x9, hx10, HF⟩ := q_bind HF
    refine q_cll (m' := 108) (av := [.inr (.inr (6, k, 0)), .inl s1.2]) (st' := []) (pc' := 17) (loc' := [some (.inr (.inr (6, k, 0))), some (.inl s1.1), some (.inl s1.2)]) (h' := h) 3 (fun _ _ => rfl) (eTn_waitsFor (by omega) hx10) ?_
    obtain ⟨z11, HA12, HK13⟩ := q_bind HF
    have hP14 : ∀ p16 : Int32, (some (.inl (p16, (s1.2 + (1 : Int32)))) : Option ((Int32 × Int32) ⊕ Int32)) = some z8 → q_E d q_K118 24 [some (.inr (.inr (6, k, 0))), some (.inl p16), some (.inl s1.2)] [] h (some (.inl r), h) := by
      intro p16 HF
      refine q_blk (pc' := 4) (loc' := [some (.inr (.inr (6, k, 0))), some (.inl p16), some (.inl (s1.2 + (1 : Int32)))]) (stk' := []) (h' := h) 2 (fun _ _ => rfl) ?_
      have hz := Option.some.inj HF
      subst hz
      exact H12 (p16, (s1.2 + (1 : Int32))) rfl
    replace HF := HA12
    refine q_br (P := x9 = (-1 : Int32)) (pcT := 24) (pcF := 21) (loc' := [some (.inr (.inr (6, k, 0))), some (.inl s1.1), some (.inl s1.2)]) (stk' := []) (h' := h) 2 (fun _ _ => rfl) (fun c15 => ?_) (fun c15 => ?_)
    · rw [if_pos c15] at HF
      have hz := Option.some.inj HF
      subst hz
      exact hP14 (s1.1) HK13
    · rw [if_neg c15] at HF
      refine q_blk (pc' := 24) (loc' := [some (.inr (.inr (6, k, 0))), some (.inl (s1.1 + (1 : Int32))), some (.inl s1.2)]) (stk' := []) (h' := h) 1 (fun _ _ => rfl) ?_
      have hz := Option.some.inj HF
      subst hz
      exact hP14 (s1.1 + (1 : Int32)) HK13
def Tn_ringLength (k : Nat) (a1 : Int32) (a2 : Int32) (h : q_H) : Option Int32 :=
  (q_lp (fun s1 : Int32 × Int32 × Int32 => (if (60 : Int32) ≤ s1.2.2 then (some (.inr ((s1.1, s1.2.1)))) else (if s1.1 = (-1 : Int32) then (some (.inr ((s1.1, s1.2.1)))) else (if s1.1 = a1 then (some (.inr ((s1.1, s1.2.1)))) else ((Tn_waitsFor k s1.1 h).bind fun x9 => some (.inl (x9, (s1.2.1 + (1 : Int32)), (s1.2.2 + (1 : Int32))))))) : Option ((Int32 × Int32 × Int32) ⊕ (Int32 × Int32)))) q_fu ((a2, (1 : Int32), (0 : Int32)) : Int32 × Int32 × Int32)).bind fun p14 => if ¬ p14.1 = a1 then (some ((0 : Int32))) else (some (p14.2))
set_option maxRecDepth 100000 in
set_option maxHeartbeats 4000000 in
theorem eTn_ringLength {d : Nat} (hd : 3 ≤ d) {k : Nat} {a1 : Int32} {a2 : Int32} {h : q_H} {r : Int32} (HF : Tn_ringLength k a1 a2 h = some r) : q_T d 120 [.inr (.inr (6, k, 0)), .inl a1, .inl a2] h (some (.inl r), h) := by
  obtain ⟨d, rfl⟩ : ∃ d', d = d' + 1 := ⟨d - 1, by omega⟩
  refine q_ent q_K120 rfl rfl rfl ?_
  unfold Tn_ringLength at HF
  refine q_blk (pc' := 8) (loc' := [some (.inr (.inr (6, k, 0))), some (.inl a1), some (.inl a2), some (.inl a2), some (.inl (1 : Int32)), some (.inl (0 : Int32))]) (stk' := []) (h' := h) 6 (fun _ _ => rfl) ?_
  obtain ⟨r6, hl7, HK4⟩ := q_bind HF
  have hP5 : ∀ p14 : Int32 × Int32, (if ¬ p14.1 = a1 then (some ((0 : Int32))) else (some (p14.2)) : Option Int32) = some r → q_E d q_K120 40 [some (.inr (.inr (6, k, 0))), some (.inl a1), some (.inl a2), some (.inl p14.1), some (.inl p14.2), none] [] h (some (.inl r), h) := by
    intro p14 HF
    refine q_br (P := ¬ p14.1 = a1) (pcT := 50) (pcF := 45) (loc' := [some (.inr (.inr (6, k, 0))), some (.inl a1), some (.inl a2), some (.inl p14.1), some (.inl p14.2), none]) (stk' := []) (h' := h) 3 (fun _ _ => rfl) (fun c15 => ?_) (fun c15 => ?_)
    · rw [if_pos c15] at HF
      have hz := Option.some.inj HF
      subst hz
      exact q_rtn 2 (fun _ _ => rfl)
    · rw [if_neg c15] at HF
      have hz := Option.some.inj HF
      subst hz
      exact q_rtn 3 (fun _ _ => rfl)
  refine q_lpE (E := fun s1 => q_E d q_K120 8 [some (.inr (.inr (6, k, 0))), some (.inl a1), some (.inl a2), some (.inl s1.1), some (.inl s1.2.1), some (.inl s1.2.2)] [] h (some (.inl r), h)) r6 (fun s1 z8 HF H12 H23 => ?_) _ _ hl7
  refine q_br (P := (60 : Int32) ≤ s1.2.2) (pcT := 40) (pcF := 15) (loc' := [some (.inr (.inr (6, k, 0))), some (.inl a1), some (.inl a2), some (.inl s1.1), some (.inl s1.2.1), some (.inl s1.2.2)]) (stk' := []) (h' := h) 3 (fun _ _ => rfl) (fun c13 => ?_) (fun c13 => ?_)
  · rw [if_pos c13] at HF
    have hz := Option.some.inj HF
    subst hz
    rw [← H23 _ rfl] at HK4
    exact q_wk (loc := [some (.inr (.inr (6, k, 0))), some (.inl a1), some (.inl a2), some (.inl s1.1), some (.inl s1.2.1), none]) ⟨Or.inl rfl, ⟨Or.inl rfl, ⟨Or.inl rfl, ⟨Or.inl rfl, ⟨Or.inl rfl, ⟨Or.inr ⟨rfl, fun _ h => by cases h⟩, trivial⟩⟩⟩⟩⟩⟩ (hP5 (s1.1, s1.2.1) HK4)
  · rw [if_neg c13] at HF
    refine q_br (P := s1.1 = (-1 : Int32)) (pcT := 40) (pcF := 20) (loc' := [some (.inr (.inr (6, k, 0))), some (.inl a1), some (.inl a2), some (.inl s1.1), some (.inl s1.2.1), some (.inl s1.2.2)]) (stk' := []) (h' := h) 3 (fun _ _ => rfl) (fun c12 => ?_) (fun c12 => ?_)
    · rw [if_pos c12] at HF
      have hz := Option.some.inj HF
      subst hz
      rw [← H23 _ rfl] at HK4
      exact q_wk (loc := [some (.inr (.inr (6, k, 0))), some (.inl a1), some (.inl a2), some (.inl s1.1), some (.inl s1.2.1), none]) ⟨Or.inl rfl, ⟨Or.inl rfl, ⟨Or.inl rfl, ⟨Or.inl rfl, ⟨Or.inl rfl, ⟨Or.inr ⟨rfl, fun _ h => by cases h⟩, trivial⟩⟩⟩⟩⟩⟩ (hP5 (s1.1, s1.2.1) HK4)
    · rw [if_neg c12] at HF
      refine q_br (P := s1.1 = a1) (pcT := 40) (pcF := 25) (loc' := [some (.inr (.inr (6, k, 0))), some (.inl a1), some (.inl a2), some (.inl s1.1), some (.inl s1.2.1), some (.inl s1.2.2)]) (stk' := []) (h' := h) 3 (fun _ _ => rfl) (fun c11 => ?_) (fun c11 => ?_)
      · rw [if_pos c11] at HF
        have hz := Option.some.inj HF
        subst hz
        rw [← H23 _ rfl] at HK4
        exact q_wk (loc := [some (.inr (.inr (6, k, 0))), some (.inl a1), some (.inl a2), some (.inl s1.1), some (.inl s1.2.1), none]) ⟨Or.inl rfl, ⟨Or.inl rfl, ⟨Or.inl rfl, ⟨Or.inl rfl, ⟨Or.inl rfl, ⟨Or.inr ⟨rfl, fun _ h => by cases h⟩, trivial⟩⟩⟩⟩⟩⟩ (hP5 (s1.1, s1.2.1) HK4)
      · rw [if_neg c11] at HF
        obtain ⟨x9, hx10, HF⟩ := q_bind HF
        refine q_cll (m' := 108) (av := [.inr (.inr (6, k, 0)), .inl s1.1]) (st' := []) (pc' := 30) (loc' := [some (.inr (.inr (6, k, 0))), some (.inl a1), some (.inl a2), some (.inl s1.1), some (.inl s1.2.1), some (.inl s1.2.2)]) (h' := h) 3 (fun _ _ => rfl) (eTn_waitsFor (by omega) hx10) ?_
        refine q_blk (pc' := 8) (loc' := [some (.inr (.inr (6, k, 0))), some (.inl a1), some (.inl a2), some (.inl x9), some (.inl (s1.2.1 + (1 : Int32))), some (.inl (s1.2.2 + (1 : Int32)))]) (stk' := []) (h' := h) 4 (fun _ _ => rfl) ?_
        have hz := Option.some.inj HF
        subst hz
        exact H12 (x9, (s1.2.1 + (1 : Int32)), (s1.2.2 + (1 : Int32))) rfl
def Tx_passAll (a1 : Int32) (a2 : Int32) (h : q_H) : Option q_H :=
  (q_lp (fun s1 : q_H => (if (s1.1 25 2 6 0) ≤ (s1.1 25 3 6 0) then (some (.inr (s1))) else ((Tx_byteAt (s1.1 25 3 6 0) s1).bind fun x9 => (Rp_isWithin x9 a1 a2 s1).bind fun x11 => if x11 = 0 then (some (.inr (s1))) else (some (.inl (q_si s1 25 3 6 0 ((s1.1 25 3 6 0) + (1 : Int32)))))) : Option ((q_H) ⊕ q_H))) q_fu (h : q_H)).bind fun z8 => some z8
set_option maxRecDepth 100000 in
set_option maxHeartbeats 4000000 in
theorem eTx_passAll {d : Nat} (hd : 3 ≤ d) {a1 : Int32} {a2 : Int32} {h : q_H} {r : q_H} (HF : Tx_passAll a1 a2 h = some r) : q_T d 136 [.inr (.inr (25, 6, 0)), .inl a1, .inl a2] h (none, r) := by
  obtain ⟨d, rfl⟩ : ∃ d', d = d' + 1 := ⟨d - 1, by omega⟩
  refine q_ent q_K136 rfl rfl rfl ?_
  unfold Tx_passAll at HF
  obtain ⟨r6, hl7, HK4⟩ := q_bind HF
  refine q_lpE (E := fun s1 => q_E d q_K136 0 [some (.inr (.inr (25, 6, 0))), some (.inl a1), some (.inl a2)] [] s1 (none, r)) r6 (fun s1 z8 HF H12 H23 => ?_) _ _ hl7
  refine q_br (P := (s1.1 25 2 6 0) ≤ (s1.1 25 3 6 0)) (pcT := 40) (pcF := 11) (loc' := [some (.inr (.inr (25, 6, 0))), some (.inl a1), some (.inl a2)]) (stk' := []) (h' := s1) 5 (fun _ _ => rfl) (fun c14 => ?_) (fun c14 => ?_)
  · rw [if_pos c14] at HF
    have hz := Option.some.inj HF
    subst hz
    replace HF := HK4
    rw [← H23 _ rfl] at HF
    have hz := Option.some.inj HF
    subst hz
    exact q_rtn 1 (fun _ _ => rfl)
  · rw [if_neg c14] at HF
    obtain ⟨x9, hx10, HF⟩ := q_bind HF
    refine q_cll (m' := 134) (av := [.inr (.inr (25, 6, 0)), .inl (s1.1 25 3 6 0)]) (st' := []) (pc' := 19) (loc' := [some (.inr (.inr (25, 6, 0))), some (.inl a1), some (.inl a2)]) (h' := s1) 4 (fun _ _ => rfl) (eTx_byteAt (by omega) hx10) ?_
    obtain ⟨x11, hx12, HF⟩ := q_bind HF
    refine q_cll (m' := 55) (av := [.inl x9, .inl a1, .inl a2]) (st' := []) (pc' := 24) (loc' := [some (.inr (.inr (25, 6, 0))), some (.inl a1), some (.inl a2)]) (h' := s1) 3 (fun _ _ => rfl) (eRp_isWithin (by omega) hx12) ?_
    refine q_br (P := x11 = 0) (pcT := 40) (pcF := 27) (loc' := [some (.inr (.inr (25, 6, 0))), some (.inl a1), some (.inl a2)]) (stk' := []) (h' := s1) 1 (fun _ _ => rfl) (fun c13 => ?_) (fun c13 => ?_)
    · rw [if_pos c13] at HF
      have hz := Option.some.inj HF
      subst hz
      replace HF := HK4
      rw [← H23 _ rfl] at HF
      have hz := Option.some.inj HF
      subst hz
      exact q_rtn 1 (fun _ _ => rfl)
    · rw [if_neg c13] at HF
      refine q_blk (pc' := 0) (loc' := [some (.inr (.inr (25, 6, 0))), some (.inl a1), some (.inl a2)]) (stk' := []) (h' := (q_si s1 25 3 6 0 ((s1.1 25 3 6 0) + (1 : Int32)))) 7 (fun _ _ => rfl) ?_
      have hz := Option.some.inj HF
      subst hz
      exact H12 (q_si s1 25 3 6 0 ((s1.1 25 3 6 0) + (1 : Int32))) rfl
def Tx_numberRead  (h : q_H) : Option Int32 :=
  (q_lp (fun s1 : Int32 × Int32 => (if (h.1 25 3 6 0) ≤ s1.2 then (some (.inr (s1.1))) else ((Tx_byteAt s1.2 h).bind fun x9 => some (.inl ((((s1.1 * (10 : Int32)) + x9) - (48 : Int32)), (s1.2 + (1 : Int32))))) : Option ((Int32 × Int32) ⊕ Int32))) q_fu (((0 : Int32), (h.1 25 5 6 0)) : Int32 × Int32)).bind fun z8 => some z8
set_option maxRecDepth 100000 in
set_option maxHeartbeats 4000000 in
theorem eTx_numberRead {d : Nat} (hd : 3 ≤ d)  {h : q_H} {r : Int32} (HF : Tx_numberRead  h = some r) : q_T d 137 [.inr (.inr (25, 6, 0))] h (some (.inl r), h) := by
  obtain ⟨d, rfl⟩ : ∃ d', d = d' + 1 := ⟨d - 1, by omega⟩
  refine q_ent q_K137 rfl rfl rfl ?_
  unfold Tx_numberRead at HF
  refine q_blk (pc' := 7) (loc' := [some (.inr (.inr (25, 6, 0))), some (.inl (0 : Int32)), some (.inl (h.1 25 5 6 0))]) (stk' := []) (h' := h) 5 (fun _ _ => rfl) ?_
  obtain ⟨r6, hl7, HK4⟩ := q_bind HF
  refine q_lpE (E := fun s1 => q_E d q_K137 7 [some (.inr (.inr (25, 6, 0))), some (.inl s1.1), some (.inl s1.2)] [] h (some (.inl r), h)) r6 (fun s1 z8 HF H12 H23 => ?_) _ _ hl7
  refine q_br (P := (h.1 25 3 6 0) ≤ s1.2) (pcT := 35) (pcF := 15) (loc' := [some (.inr (.inr (25, 6, 0))), some (.inl s1.1), some (.inl s1.2)]) (stk' := []) (h' := h) 4 (fun _ _ => rfl) (fun c11 => ?_) (fun c11 => ?_)
  · rw [if_pos c11] at HF
    have hz := Option.some.inj HF
    subst hz
    replace HF := HK4
    rw [← H23 _ rfl] at HF
    have hz := Option.some.inj HF
    subst hz
    exact q_rtn 2 (fun _ _ => rfl)
  · rw [if_neg c11] at HF
    obtain ⟨x9, hx10, HF⟩ := q_bind HF
    refine q_cll (m' := 134) (av := [.inr (.inr (25, 6, 0)), .inl s1.2]) (st' := [.inl (s1.1 * (10 : Int32))]) (pc' := 24) (loc' := [some (.inr (.inr (25, 6, 0))), some (.inl s1.1), some (.inl s1.2)]) (h' := h) 6 (fun _ _ => rfl) (eTx_byteAt (by omega) hx10) ?_
    refine q_blk (pc' := 7) (loc' := [some (.inr (.inr (25, 6, 0))), some (.inl (((s1.1 * (10 : Int32)) + x9) - (48 : Int32))), some (.inl (s1.2 + (1 : Int32)))]) (stk' := []) (h' := h) 6 (fun _ _ => rfl) ?_
    have hz := Option.some.inj HF
    subst hz
    exact H12 ((((s1.1 * (10 : Int32)) + x9) - (48 : Int32)), (s1.2 + (1 : Int32))) rfl
def St_makeAnew (k : Nat) (h : q_H) : Option q_H :=
  (Pg_strip k h).bind fun x1 => (Tn_makeAnew k (q_si x1 1 4 k 0 (64 : Int32))).bind fun x3 => (Lg_makeAnew k (q_si x3 11 3 k 0 (0 : Int32))).bind fun x5 => some ((q_si (q_si (q_si (q_si (q_si x5 19 4 k 0 (0 : Int32)) 0 5 k 0 (3 : Int32)) 0 6 k 0 (5 : Int32)) 0 7 k 0 (0 : Int32)) 0 8 k 0 (0 : Int32)))
set_option maxRecDepth 100000 in
set_option maxHeartbeats 4000000 in
theorem eSt_makeAnew {d : Nat} (hd : 3 ≤ d) {k : Nat} {h : q_H} {r : q_H} (HF : St_makeAnew k h = some r) : q_T d 143 [.inr (.inr (0, k, 0))] h (none, r) := by
  obtain ⟨d, rfl⟩ : ∃ d', d = d' + 1 := ⟨d - 1, by omega⟩
  refine q_ent q_K143 rfl rfl rfl ?_
  unfold St_makeAnew at HF
  obtain ⟨x1, hx2, HF⟩ := q_bind HF
  refine q_cll (m' := 88) (av := [.inr (.inr (1, k, 0))]) (st' := []) (pc' := 7) (loc' := [some (.inr (.inr (0, k, 0)))]) (h' := h) 3 (fun _ _ => rfl) (ePg_strip (by omega) hx2) ?_
  obtain ⟨x3, hx4, HF⟩ := q_bind HF
  refine q_cll (m' := 103) (av := [.inr (.inr (6, k, 0))]) (st' := []) (pc' := 23) (loc' := [some (.inr (.inr (0, k, 0)))]) (h' := (q_si x1 1 4 k 0 (64 : Int32))) 7 (fun _ _ => rfl) (eTn_makeAnew (by omega) hx4) ?_
  obtain ⟨x5, hx6, HF⟩ := q_bind HF
  refine q_cll (m' := 81) (av := [.inr (.inr (15, k, 0))]) (st' := []) (pc' := 38) (loc' := [some (.inr (.inr (0, k, 0)))]) (h' := (q_si x3 11 3 k 0 (0 : Int32))) 7 (fun _ _ => rfl) (eLg_makeAnew (by omega) hx6) ?_
  have hz := Option.some.inj HF
  subst hz
  exact q_rtn 17 (fun _ _ => rfl)
def St_isDying (k : Nat) (k1 : Nat) (i1 : Nat) (h : q_H) : Option Int32 :=
  (Tn_stateOf k (h.1 3 7 k1 i1) h).bind fun x1 => if ¬ x1 = (1 : Int32) then (some ((0 : Int32))) else ((St_isDead k k1 i1 h).bind fun x3 => if ¬ x3 = 0 then (some ((0 : Int32))) else (some ((1 : Int32))))
set_option maxRecDepth 100000 in
set_option maxHeartbeats 4000000 in
theorem eSt_isDying {d : Nat} (hd : 3 ≤ d) {k : Nat} {k1 : Nat} {i1 : Nat} {h : q_H} {r : Int32} (HF : St_isDying k k1 i1 h = some r) : q_T d 146 [.inr (.inr (0, k, 0)), .inr (.inr (3, k1, i1))] h (some (.inl r), h) := by
  obtain ⟨d, rfl⟩ : ∃ d', d = d' + 1 := ⟨d - 1, by omega⟩
  refine q_ent q_K146 rfl rfl rfl ?_
  unfold St_isDying at HF
  obtain ⟨x1, hx2, HF⟩ := q_bind HF
  refine q_cll (m' := 106) (av := [.inr (.inr (6, k, 0)), .inl (h.1 3 7 k1 i1)]) (st' := []) (pc' := 11) (loc' := [some (.inr (.inr (0, k, 0))), some (.inr (.inr (3, k1, i1)))]) (h' := h) 5 (fun _ _ => rfl) (eTn_stateOf (by omega) hx2) ?_
  refine q_br (P := ¬ x1 = (1 : Int32)) (pcT := 27) (pcF := 15) (loc' := [some (.inr (.inr (0, k, 0))), some (.inr (.inr (3, k1, i1)))]) (stk' := []) (h' := h) 2 (fun _ _ => rfl) (fun c6 => ?_) (fun c6 => ?_)
  · rw [if_pos c6] at HF
    have hz := Option.some.inj HF
    subst hz
    exact q_rtn 2 (fun _ _ => rfl)
  · rw [if_neg c6] at HF
    obtain ⟨x3, hx4, HF⟩ := q_bind HF
    refine q_cll (m' := 145) (av := [.inr (.inr (0, k, 0)), .inr (.inr (3, k1, i1))]) (st' := []) (pc' := 20) (loc' := [some (.inr (.inr (0, k, 0))), some (.inr (.inr (3, k1, i1)))]) (h' := h) 3 (fun _ _ => rfl) (eSt_isDead (by omega) hx4) ?_
    refine q_br (P := ¬ x3 = 0) (pcT := 27) (pcF := 23) (loc' := [some (.inr (.inr (0, k, 0))), some (.inr (.inr (3, k1, i1)))]) (stk' := []) (h' := h) 1 (fun _ _ => rfl) (fun c5 => ?_) (fun c5 => ?_)
    · rw [if_pos c5] at HF
      have hz := Option.some.inj HF
      subst hz
      exact q_rtn 2 (fun _ _ => rfl)
    · rw [if_neg c5] at HF
      have hz := Option.some.inj HF
      subst hz
      exact q_rtn 3 (fun _ _ => rfl)
def St_placeMade (k : Nat) (a1 : Int32) (a2 : Int32) (h : q_H) : Option Int32 :=
  (q_lp (fun s1 : Int32 => (if (60 : Int32) ≤ s1 then (some (.inr ((-1 : Int32)))) else ((Pg_at k s1 h).bind fun x9 => (Sl_isOf k x9 a1 h).bind fun x11 => Option.bind (α := (Unit) ⊕ ((Int32) ⊕ Int32)) (if x11 = 0 then (some (.inl ())) else ((Pg_at k s1 h).bind fun x17 => (St_madeAhead k a1 (h.1 3 9 k x17) h).bind fun x19 => if ¬ x19 = a2 then (some (.inl ())) else (some (.inr (.inr (s1)))))) (fun z13 => match z13 with | .inl p23 => some (.inl (s1 + (1 : Int32))) | .inr z13 => some z13)) : Option ((Int32) ⊕ Int32))) q_fu ((0 : Int32) : Int32)).bind fun z8 => some z8
set_option maxRecDepth 100000 in
set_option maxHeartbeats 4000000 in
theorem eSt_placeMade {d : Nat} (hd : 3 ≤ d) {k : Nat} {a1 : Int32} {a2 : Int32} {h : q_H} {r : Int32} (HF : St_placeMade k a1 a2 h = some r) : q_T d 151 [.inr (.inr (0, k, 0)), .inl a1, .inl a2] h (some (.inl r), h) := by
  obtain ⟨d, rfl⟩ : ∃ d', d = d' + 1 := ⟨d - 1, by omega⟩
  refine q_ent q_K151 rfl rfl rfl ?_
  unfold St_placeMade at HF
  refine q_blk (pc' := 2) (loc' := [some (.inr (.inr (0, k, 0))), some (.inl a1), some (.inl a2), some (.inl (0 : Int32))]) (stk' := []) (h' := h) 2 (fun _ _ => rfl) ?_
  obtain ⟨r6, hl7, HK4⟩ := q_bind HF
  refine q_lpE (E := fun s1 => q_E d q_K151 2 [some (.inr (.inr (0, k, 0))), some (.inl a1), some (.inl a2), some (.inl s1)] [] h (some (.inl r), h)) r6 (fun s1 z8 HF H12 H23 => ?_) _ _ hl7
  refine q_br (P := (60 : Int32) ≤ s1) (pcT := 51) (pcF := 8) (loc' := [some (.inr (.inr (0, k, 0))), some (.inl a1), some (.inl a2), some (.inl s1)]) (stk' := []) (h' := h) 3 (fun _ _ => rfl) (fun c25 => ?_) (fun c25 => ?_)
  · rw [if_pos c25] at HF
    have hz := Option.some.inj HF
    subst hz
    replace HF := HK4
    rw [← H23 _ rfl] at HF
    have hz := Option.some.inj HF
    subst hz
    exact q_rtn 2 (fun _ _ => rfl)
  · rw [if_neg c25] at HF
    obtain ⟨x9, hx10, HF⟩ := q_bind HF
    refine q_cll (m' := 89) (av := [.inr (.inr (1, k, 0)), .inl s1]) (st' := []) (pc' := 16) (loc' := [some (.inr (.inr (0, k, 0))), some (.inl a1), some (.inl a2), some (.inl s1)]) (h' := h) 4 (fun _ _ => rfl) (ePg_at (by omega) hx10) ?_
    obtain ⟨x11, hx12, HF⟩ := q_bind HF
    refine q_cll (m' := 65) (av := [.inr (.inr (3, k, x9)), .inl a1]) (st' := []) (pc' := 20) (loc' := [some (.inr (.inr (0, k, 0))), some (.inl a1), some (.inl a2), some (.inl s1)]) (h' := h) 2 (fun _ _ => rfl) (eSl_isOf (by omega) hx12) ?_
    obtain ⟨z13, HA14, HK15⟩ := q_bind HF
    have hP16 : ∀ p23 : Unit, (some (.inl (s1 + (1 : Int32))) : Option ((Int32) ⊕ Int32)) = some z8 → q_E d q_K151 45 [some (.inr (.inr (0, k, 0))), some (.inl a1), some (.inl a2), some (.inl s1)] [] h (some (.inl r), h) := by
      intro p23 HF
      refine q_blk (pc' := 2) (loc' := [some (.inr (.inr (0, k, 0))), some (.inl a1), some (.inl a2), some (.inl (s1 + (1 : Int32)))]) (stk' := []) (h' := h) 2 (fun _ _ => rfl) ?_
      have hz := Option.some.inj HF
      subst hz
      exact H12 (s1 + (1 : Int32)) rfl
    replace HF := HA14
    refine q_br (P := x11 = 0) (pcT := 45) (pcF := 23) (loc' := [some (.inr (.inr (0, k, 0))), some (.inl a1), some (.inl a2), some (.inl s1)]) (stk' := []) (h' := h) 1 (fun _ _ => rfl) (fun c22 => ?_) (fun c22 => ?_)
    · rw [if_pos c22] at HF
      have hz := Option.some.inj HF
      subst hz
      exact hP16 () HK15
    · rw [if_neg c22] at HF
      obtain ⟨x17, hx18, HF⟩ := q_bind HF
      refine q_cll (m' := 89) (av := [.inr (.inr (1, k, 0)), .inl s1]) (st' := [.inl a1, .inr (.inr (0, k, 0))]) (pc' := 33) (loc' := [some (.inr (.inr (0, k, 0))), some (.inl a1), some (.inl a2), some (.inl s1)]) (h' := h) 6 (fun _ _ => rfl) (ePg_at (by omega) hx18) ?_
      obtain ⟨x19, hx20, HF⟩ := q_bind HF
      refine q_cll (m' := 152) (av := [.inr (.inr (0, k, 0)), .inl a1, .inl (h.1 3 9 k x17)]) (st' := []) (pc' := 39) (loc' := [some (.inr (.inr (0, k, 0))), some (.inl a1), some (.inl a2), some (.inl s1)]) (h' := h) 2 (fun _ _ => rfl) (eSt_madeAhead (by omega) hx20) ?_
      refine q_br (P := ¬ x19 = a2) (pcT := 45) (pcF := 43) (loc' := [some (.inr (.inr (0, k, 0))), some (.inl a1), some (.inl a2), some (.inl s1)]) (stk' := []) (h' := h) 2 (fun _ _ => rfl) (fun c21 => ?_) (fun c21 => ?_)
      · rw [if_pos c21] at HF
        have hz := Option.some.inj HF
        subst hz
        exact hP16 () HK15
      · rw [if_neg c21] at HF
        have hz := Option.some.inj HF
        subst hz
        replace HF := HK15
        have hz := Option.some.inj HF
        subst hz
        replace HF := HK4
        rw [← H23 _ rfl] at HF
        have hz := Option.some.inj HF
        subst hz
        exact q_rtn 2 (fun _ _ => rfl)
def St_deadUnitsOf (k : Nat) (a1 : Int32) (h : q_H) : Option Int32 :=
  (q_lp (fun s1 : Int32 × Int32 => (if (10 : Int32) ≤ s1.2 then (some (.inr (s1.1))) else ((Pg_at k ((a1 * (10 : Int32)) + s1.2) h).bind fun x9 => (St_isDead k k x9 h).bind fun x11 => Option.bind (α := Int32) (if x11 = 0 then (some (s1.1)) else (some ((s1.1 + (h.1 3 5 k x9))))) (fun p18 => some (.inl (p18, (s1.2 + (1 : Int32)))))) : Option ((Int32 × Int32) ⊕ Int32))) q_fu (((0 : Int32), (0 : Int32)) : Int32 × Int32)).bind fun z8 => some z8
set_option maxRecDepth 100000 in
set_option maxHeartbeats 4000000 in
theorem eSt_deadUnitsOf {d : Nat} (hd : 3 ≤ d) {k : Nat} {a1 : Int32} {h : q_H} {r : Int32} (HF : St_deadUnitsOf k a1 h = some r) : q_T d 153 [.inr (.inr (0, k, 0)), .inl a1] h (some (.inl r), h) := by
  obtain ⟨d, rfl⟩ : ∃ d', d = d' + 1 := ⟨d - 1, by omega⟩
  refine q_ent q_K153 rfl rfl rfl ?_
  unfold St_deadUnitsOf at HF
  refine q_blk (pc' := 4) (loc' := [some (.inr (.inr (0, k, 0))), some (.inl a1), some (.inl (0 : Int32)), some (.inl (0 : Int32)), none]) (stk' := []) (h' := h) 4 (fun _ _ => rfl) ?_
  obtain ⟨r6, hl7, HK4⟩ := q_bind HF
  refine q_lpE (E := fun s1 => q_E d q_K153 4 [some (.inr (.inr (0, k, 0))), some (.inl a1), some (.inl s1.1), some (.inl s1.2), none] [] h (some (.inl r), h)) r6 (fun s1 z8 HF H12 H23 => ?_) _ _ hl7
  refine q_br (P := (10 : Int32) ≤ s1.2) (pcT := 48) (pcF := 10) (loc' := [some (.inr (.inr (0, k, 0))), some (.inl a1), some (.inl s1.1), some (.inl s1.2), none]) (stk' := []) (h' := h) 3 (fun _ _ => rfl) (fun c20 => ?_) (fun c20 => ?_)
  · rw [if_pos c20] at HF
    have hz := Option.some.inj HF
    subst hz
    replace HF := HK4
    rw [← H23 _ rfl] at HF
    have hz := Option.some.inj HF
    subst hz
    exact q_rtn 2 (fun _ _ => rfl)
  · rw [if_neg c20] at HF
    obtain ⟨x9, hx10, HF⟩ := q_bind HF
    refine q_cll (m' := 89) (av := [.inr (.inr (1, k, 0)), .inl ((a1 * (10 : Int32)) + s1.2)]) (st' := []) (pc' := 23) (loc' := [some (.inr (.inr (0, k, 0))), some (.inl a1), some (.inl s1.1), some (.inl s1.2), none]) (h' := h) 8 (fun _ _ => rfl) (ePg_at (by omega) hx10) ?_
    obtain ⟨x11, hx12, HF⟩ := q_bind HF
    refine q_cll (m' := 145) (av := [.inr (.inr (0, k, 0)), .inr (.inr (3, k, x9))]) (st' := []) (pc' := 31) (loc' := [some (.inr (.inr (0, k, 0))), some (.inl a1), some (.inl s1.1), some (.inl s1.2), some (.inr (.inr (3, k, x9)))]) (h' := h) 4 (fun _ _ => rfl) (eSt_isDead (by omega) hx12) ?_
    obtain ⟨z13, HA14, HK15⟩ := q_bind HF
    have hP16 : ∀ p18 : Int32, (some (.inl (p18, (s1.2 + (1 : Int32)))) : Option ((Int32 × Int32) ⊕ Int32)) = some z8 → q_E d q_K153 42 [some (.inr (.inr (0, k, 0))), some (.inl a1), some (.inl p18), some (.inl s1.2), some (.inr (.inr (3, k, x9)))] [] h (some (.inl r), h) := by
      intro p18 HF
      refine q_blk (pc' := 4) (loc' := [some (.inr (.inr (0, k, 0))), some (.inl a1), some (.inl p18), some (.inl (s1.2 + (1 : Int32))), some (.inr (.inr (3, k, x9)))]) (stk' := []) (h' := h) 2 (fun _ _ => rfl) ?_
      have hz := Option.some.inj HF
      subst hz
      exact q_wk (loc := [some (.inr (.inr (0, k, 0))), some (.inl a1), some (.inl p18), some (.inl (s1.2 + (1 : Int32))), none]) ⟨Or.inl rfl, ⟨Or.inl rfl, ⟨Or.inl rfl, ⟨Or.inl rfl, ⟨Or.inr ⟨rfl, fun _ h => by cases h⟩, trivial⟩⟩⟩⟩⟩ (H12 (p18, (s1.2 + (1 : Int32))) rfl)
    replace HF := HA14
    refine q_br (P := x11 = 0) (pcT := 42) (pcF := 34) (loc' := [some (.inr (.inr (0, k, 0))), some (.inl a1), some (.inl s1.1), some (.inl s1.2), some (.inr (.inr (3, k, x9)))]) (stk' := []) (h' := h) 1 (fun _ _ => rfl) (fun c17 => ?_) (fun c17 => ?_)
    · rw [if_pos c17] at HF
      have hz := Option.some.inj HF
      subst hz
      exact hP16 (s1.1) HK15
    · rw [if_neg c17] at HF
      refine q_blk (pc' := 42) (loc' := [some (.inr (.inr (0, k, 0))), some (.inl a1), some (.inl (s1.1 + (h.1 3 5 k x9))), some (.inl s1.2), some (.inr (.inr (3, k, x9)))]) (stk' := []) (h' := h) 5 (fun _ _ => rfl) ?_
      have hz := Option.some.inj HF
      subst hz
      exact hP16 (s1.1 + (h.1 3 5 k x9)) HK15
def St_seenPlace (k : Nat) (a1 : Int32) (a2 : Int32) (h : q_H) : Option Int32 :=
  (q_lp (fun s1 : Int32 => (if (60 : Int32) ≤ s1 then (some (.inr ((-1 : Int32)))) else ((Pg_at k s1 h).bind fun x9 => (Sl_isOf k x9 a2 h).bind fun x11 => Option.bind (α := (Unit) ⊕ ((Int32) ⊕ Int32)) (if x11 = 0 then (some (.inl ())) else ((St_isSeen k a1 k x9 h).bind fun x17 => if x17 = 0 then (some (.inl ())) else (some (.inr (.inr (s1)))))) (fun z13 => match z13 with | .inl p21 => some (.inl (s1 + (1 : Int32))) | .inr z13 => some z13)) : Option ((Int32) ⊕ Int32))) q_fu ((0 : Int32) : Int32)).bind fun z8 => some z8
set_option maxRecDepth 100000 in
set_option maxHeartbeats 4000000 in
theorem eSt_seenPlace {d : Nat} (hd : 3 ≤ d) {k : Nat} {a1 : Int32} {a2 : Int32} {h : q_H} {r : Int32} (HF : St_seenPlace k a1 a2 h = some r) : q_T d 156 [.inr (.inr (0, k, 0)), .inl a1, .inl a2] h (some (.inl r), h) := by
  obtain ⟨d, rfl⟩ : ∃ d', d = d' + 1 := ⟨d - 1, by omega⟩
  refine q_ent q_K156 rfl rfl rfl ?_
  unfold St_seenPlace at HF
  refine q_blk (pc' := 2) (loc' := [some (.inr (.inr (0, k, 0))), some (.inl a1), some (.inl a2), some (.inl (0 : Int32)), none]) (stk' := []) (h' := h) 2 (fun _ _ => rfl) ?_
  obtain ⟨r6, hl7, HK4⟩ := q_bind HF
  refine q_lpE (E := fun s1 => q_E d q_K156 2 [some (.inr (.inr (0, k, 0))), some (.inl a1), some (.inl a2), some (.inl s1), none] [] h (some (.inl r), h)) r6 (fun s1 z8 HF H12 H23 => ?_) _ _ hl7
  refine q_br (P := (60 : Int32) ≤ s1) (pcT := 45) (pcF := 8) (loc' := [some (.inr (.inr (0, k, 0))), some (.inl a1), some (.inl a2), some (.inl s1), none]) (stk' := []) (h' := h) 3 (fun _ _ => rfl) (fun c23 => ?_) (fun c23 => ?_)
  · rw [if_pos c23] at HF
    have hz := Option.some.inj HF
    subst hz
    replace HF := HK4
    rw [← H23 _ rfl] at HF
    have hz := Option.some.inj HF
    subst hz
    exact q_rtn 2 (fun _ _ => rfl)
  · rw [if_neg c23] at HF
    obtain ⟨x9, hx10, HF⟩ := q_bind HF
    refine q_cll (m' := 89) (av := [.inr (.inr (1, k, 0)), .inl s1]) (st' := []) (pc' := 16) (loc' := [some (.inr (.inr (0, k, 0))), some (.inl a1), some (.inl a2), some (.inl s1), none]) (h' := h) 4 (fun _ _ => rfl) (ePg_at (by omega) hx10) ?_
    obtain ⟨x11, hx12, HF⟩ := q_bind HF
    refine q_cll (m' := 65) (av := [.inr (.inr (3, k, x9)), .inl a2]) (st' := []) (pc' := 24) (loc' := [some (.inr (.inr (0, k, 0))), some (.inl a1), some (.inl a2), some (.inl s1), some (.inr (.inr (3, k, x9)))]) (h' := h) 4 (fun _ _ => rfl) (eSl_isOf (by omega) hx12) ?_
    obtain ⟨z13, HA14, HK15⟩ := q_bind HF
    have hP16 : ∀ p21 : Unit, (some (.inl (s1 + (1 : Int32))) : Option ((Int32) ⊕ Int32)) = some z8 → q_E d q_K156 39 [some (.inr (.inr (0, k, 0))), some (.inl a1), some (.inl a2), some (.inl s1), some (.inr (.inr (3, k, x9)))] [] h (some (.inl r), h) := by
      intro p21 HF
      refine q_blk (pc' := 2) (loc' := [some (.inr (.inr (0, k, 0))), some (.inl a1), some (.inl a2), some (.inl (s1 + (1 : Int32))), some (.inr (.inr (3, k, x9)))]) (stk' := []) (h' := h) 2 (fun _ _ => rfl) ?_
      have hz := Option.some.inj HF
      subst hz
      exact q_wk (loc := [some (.inr (.inr (0, k, 0))), some (.inl a1), some (.inl a2), some (.inl (s1 + (1 : Int32))), none]) ⟨Or.inl rfl, ⟨Or.inl rfl, ⟨Or.inl rfl, ⟨Or.inl rfl, ⟨Or.inr ⟨rfl, fun _ h => by cases h⟩, trivial⟩⟩⟩⟩⟩ (H12 (s1 + (1 : Int32)) rfl)
    replace HF := HA14
    refine q_br (P := x11 = 0) (pcT := 39) (pcF := 27) (loc' := [some (.inr (.inr (0, k, 0))), some (.inl a1), some (.inl a2), some (.inl s1), some (.inr (.inr (3, k, x9)))]) (stk' := []) (h' := h) 1 (fun _ _ => rfl) (fun c20 => ?_) (fun c20 => ?_)
    · rw [if_pos c20] at HF
      have hz := Option.some.inj HF
      subst hz
      exact hP16 () HK15
    · rw [if_neg c20] at HF
      obtain ⟨x17, hx18, HF⟩ := q_bind HF
      refine q_cll (m' := 155) (av := [.inr (.inr (0, k, 0)), .inl a1, .inr (.inr (3, k, x9))]) (st' := []) (pc' := 34) (loc' := [some (.inr (.inr (0, k, 0))), some (.inl a1), some (.inl a2), some (.inl s1), some (.inr (.inr (3, k, x9)))]) (h' := h) 4 (fun _ _ => rfl) (eSt_isSeen (by omega) hx18) ?_
      refine q_br (P := x17 = 0) (pcT := 39) (pcF := 37) (loc' := [some (.inr (.inr (0, k, 0))), some (.inl a1), some (.inl a2), some (.inl s1), some (.inr (.inr (3, k, x9)))]) (stk' := []) (h' := h) 1 (fun _ _ => rfl) (fun c19 => ?_) (fun c19 => ?_)
      · rw [if_pos c19] at HF
        have hz := Option.some.inj HF
        subst hz
        exact hP16 () HK15
      · rw [if_neg c19] at HF
        have hz := Option.some.inj HF
        subst hz
        replace HF := HK15
        have hz := Option.some.inj HF
        subst hz
        replace HF := HK4
        rw [← H23 _ rfl] at HF
        have hz := Option.some.inj HF
        subst hz
        exact q_rtn 2 (fun _ _ => rfl)
def St_chainLength (k : Nat) (a1 : Int32) (h : q_H) : Option Int32 :=
  (St_chainFirst k a1 h).bind fun x1 => (q_lp (fun s3 : Int32 × Int32 × Int32 => (if (10 : Int32) ≤ s3.2.2 then (some (.inr (s3.1))) else (if s3.2.1 = (-1 : Int32) then (some (.inr (s3.1))) else ((St_chainNext k s3.2.1 h).bind fun x11 => some (.inl ((s3.1 + (1 : Int32)), x11, (s3.2.2 + (1 : Int32)))))) : Option ((Int32 × Int32 × Int32) ⊕ Int32))) q_fu (((0 : Int32), x1, (0 : Int32)) : Int32 × Int32 × Int32)).bind fun z10 => some z10
set_option maxRecDepth 100000 in
set_option maxHeartbeats 4000000 in
theorem eSt_chainLength {d : Nat} (hd : 3 ≤ d) {k : Nat} {a1 : Int32} {h : q_H} {r : Int32} (HF : St_chainLength k a1 h = some r) : q_T d 159 [.inr (.inr (0, k, 0)), .inl a1] h (some (.inl r), h) := by
  obtain ⟨d, rfl⟩ : ∃ d', d = d' + 1 := ⟨d - 1, by omega⟩
  refine q_ent q_K159 rfl rfl rfl ?_
  unfold St_chainLength at HF
  obtain ⟨x1, hx2, HF⟩ := q_bind HF
  refine q_cll (m' := 157) (av := [.inr (.inr (0, k, 0)), .inl a1]) (st' := []) (pc' := 7) (loc' := [some (.inr (.inr (0, k, 0))), some (.inl a1), some (.inl (0 : Int32)), none, none]) (h' := h) 5 (fun _ _ => rfl) (eSt_chainFirst (by omega) hx2) ?_
  refine q_blk (pc' := 11) (loc' := [some (.inr (.inr (0, k, 0))), some (.inl a1), some (.inl (0 : Int32)), some (.inl x1), some (.inl (0 : Int32))]) (stk' := []) (h' := h) 3 (fun _ _ => rfl) ?_
  obtain ⟨r8, hl9, HK6⟩ := q_bind HF
  refine q_lpE (E := fun s3 => q_E d q_K159 11 [some (.inr (.inr (0, k, 0))), some (.inl a1), some (.inl s3.1), some (.inl s3.2.1), some (.inl s3.2.2)] [] h (some (.inl r), h)) r8 (fun s3 z10 HF H14 H25 => ?_) _ _ hl9
  refine q_br (P := (10 : Int32) ≤ s3.2.2) (pcT := 38) (pcF := 18) (loc' := [some (.inr (.inr (0, k, 0))), some (.inl a1), some (.inl s3.1), some (.inl s3.2.1), some (.inl s3.2.2)]) (stk' := []) (h' := h) 3 (fun _ _ => rfl) (fun c14 => ?_) (fun c14 => ?_)
  · rw [if_pos c14] at HF
    have hz := Option.some.inj HF
    subst hz
    replace HF := HK6
    rw [← H25 _ rfl] at HF
    have hz := Option.some.inj HF
    subst hz
    exact q_rtn 2 (fun _ _ => rfl)
  · rw [if_neg c14] at HF
    refine q_br (P := s3.2.1 = (-1 : Int32)) (pcT := 38) (pcF := 23) (loc' := [some (.inr (.inr (0, k, 0))), some (.inl a1), some (.inl s3.1), some (.inl s3.2.1), some (.inl s3.2.2)]) (stk' := []) (h' := h) 3 (fun _ _ => rfl) (fun c13 => ?_) (fun c13 => ?_)
    · rw [if_pos c13] at HF
      have hz := Option.some.inj HF
      subst hz
      replace HF := HK6
      rw [← H25 _ rfl] at HF
      have hz := Option.some.inj HF
      subst hz
      exact q_rtn 2 (fun _ _ => rfl)
    · rw [if_neg c13] at HF
      obtain ⟨x11, hx12, HF⟩ := q_bind HF
      refine q_cll (m' := 158) (av := [.inr (.inr (0, k, 0)), .inl s3.2.1]) (st' := []) (pc' := 31) (loc' := [some (.inr (.inr (0, k, 0))), some (.inl a1), some (.inl (s3.1 + (1 : Int32))), some (.inl s3.2.1), some (.inl s3.2.2)]) (h' := h) 4 (fun _ _ => rfl) (eSt_chainNext (by omega) hx12) ?_
      refine q_blk (pc' := 11) (loc' := [some (.inr (.inr (0, k, 0))), some (.inl a1), some (.inl (s3.1 + (1 : Int32))), some (.inl x11), some (.inl (s3.2.2 + (1 : Int32)))]) (stk' := []) (h' := h) 3 (fun _ _ => rfl) ?_
      have hz := Option.some.inj HF
      subst hz
      exact H14 ((s3.1 + (1 : Int32)), x11, (s3.2.2 + (1 : Int32))) rfl
def St_endVersion (k : Nat) (a1 : Int32) (a2 : Int32) (a3 : Int32) (h : q_H) : Option q_H :=
  (Pg_at k a1 h).bind fun x1 => (Rp_pageOf a1 (q_si (q_si h 3 7 k x1 a2) 3 8 k x1 a3)).bind fun x3 => (Pg_setClear k x3 (0 : Int32) (q_si (q_si h 3 7 k x1 a2) 3 8 k x1 a3)).bind fun x5 => some (x5)
set_option maxRecDepth 100000 in
set_option maxHeartbeats 4000000 in
theorem eSt_endVersion {d : Nat} (hd : 3 ≤ d) {k : Nat} {a1 : Int32} {a2 : Int32} {a3 : Int32} {h : q_H} {r : q_H} (HF : St_endVersion k a1 a2 a3 h = some r) : q_T d 162 [.inr (.inr (0, k, 0)), .inl a1, .inl a2, .inl a3] h (none, r) := by
  obtain ⟨d, rfl⟩ : ∃ d', d = d' + 1 := ⟨d - 1, by omega⟩
  refine q_ent q_K162 rfl rfl rfl ?_
  unfold St_endVersion at HF
  obtain ⟨x1, hx2, HF⟩ := q_bind HF
  refine q_cll (m' := 89) (av := [.inr (.inr (1, k, 0)), .inl a1]) (st' := []) (pc' := 8) (loc' := [some (.inr (.inr (0, k, 0))), some (.inl a1), some (.inl a2), some (.inl a3), none]) (h' := h) 4 (fun _ _ => rfl) (ePg_at (by omega) hx2) ?_
  obtain ⟨x3, hx4, HF⟩ := q_bind HF
  refine q_cll (m' := 58) (av := [.inl a1]) (st' := [.inr (.inr (1, k, 0))]) (pc' := 30) (loc' := [some (.inr (.inr (0, k, 0))), some (.inl a1), some (.inl a2), some (.inl a3), some (.inr (.inr (3, k, x1)))]) (h' := (q_si (q_si h 3 7 k x1 a2) 3 8 k x1 a3)) 11 (fun _ _ => rfl) (eRp_pageOf (by omega) hx4) ?_
  obtain ⟨x5, hx6, HF⟩ := q_bind HF
  refine q_cll (m' := 93) (av := [.inr (.inr (1, k, 0)), .inl x3, .inl (0 : Int32)]) (st' := []) (pc' := 34) (loc' := [some (.inr (.inr (0, k, 0))), some (.inl a1), some (.inl a2), some (.inl a3), some (.inr (.inr (3, k, x1)))]) (h' := (q_si (q_si h 3 7 k x1 a2) 3 8 k x1 a3)) 2 (fun _ _ => rfl) (ePg_setClear (by omega) hx6) ?_
  have hz := Option.some.inj HF
  subst hz
  exact q_rtn 1 (fun _ _ => rfl)
