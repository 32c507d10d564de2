def Jl_bitCount (a1 : Int64) (h : q_H) : Option Int32 :=
  some (((((((((((a1 - (((a1.toUInt64 >>> ((1 : Int32).toInt64.toUInt64 &&& Int64.toUInt64 63)).toInt64) &&& (6148914691236517205 : Int64))) &&& (3689348814741910323 : Int64)) + ((((a1 - (((a1.toUInt64 >>> ((1 : Int32).toInt64.toUInt64 &&& Int64.toUInt64 63)).toInt64) &&& (6148914691236517205 : Int64))).toUInt64 >>> ((2 : Int32).toInt64.toUInt64 &&& Int64.toUInt64 63)).toInt64) &&& (3689348814741910323 : Int64))) + (((((a1 - (((a1.toUInt64 >>> ((1 : Int32).toInt64.toUInt64 &&& Int64.toUInt64 63)).toInt64) &&& (6148914691236517205 : Int64))) &&& (3689348814741910323 : Int64)) + ((((a1 - (((a1.toUInt64 >>> ((1 : Int32).toInt64.toUInt64 &&& Int64.toUInt64 63)).toInt64) &&& (6148914691236517205 : Int64))).toUInt64 >>> ((2 : Int32).toInt64.toUInt64 &&& Int64.toUInt64 63)).toInt64) &&& (3689348814741910323 : Int64))).toUInt64 >>> ((4 : Int32).toInt64.toUInt64 &&& Int64.toUInt64 63)).toInt64)) &&& (1085102592571150095 : Int64)) + (((((((a1 - (((a1.toUInt64 >>> ((1 : Int32).toInt64.toUInt64 &&& Int64.toUInt64 63)).toInt64) &&& (6148914691236517205 : Int64))) &&& (3689348814741910323 : Int64)) + ((((a1 - (((a1.toUInt64 >>> ((1 : Int32).toInt64.toUInt64 &&& Int64.toUInt64 63)).toInt64) &&& (6148914691236517205 : Int64))).toUInt64 >>> ((2 : Int32).toInt64.toUInt64 &&& Int64.toUInt64 63)).toInt64) &&& (3689348814741910323 : Int64))) + (((((a1 - (((a1.toUInt64 >>> ((1 : Int32).toInt64.toUInt64 &&& Int64.toUInt64 63)).toInt64) &&& (6148914691236517205 : Int64))) &&& (3689348814741910323 : Int64)) + ((((a1 - (((a1.toUInt64 >>> ((1 : Int32).toInt64.toUInt64 &&& Int64.toUInt64 63)).toInt64) &&& (6148914691236517205 : Int64))).toUInt64 >>> ((2 : Int32).toInt64.toUInt64 &&& Int64.toUInt64 63)).toInt64) &&& (3689348814741910323 : Int64))).toUInt64 >>> ((4 : Int32).toInt64.toUInt64 &&& Int64.toUInt64 63)).toInt64)) &&& (1085102592571150095 : Int64)).toUInt64 >>> ((8 : Int32).toInt64.toUInt64 &&& Int64.toUInt64 63)).toInt64)) + ((((((((a1 - (((a1.toUInt64 >>> ((1 : Int32).toInt64.toUInt64 &&& Int64.toUInt64 63)).toInt64) &&& (6148914691236517205 : Int64))) &&& (3689348814741910323 : Int64)) + ((((a1 - (((a1.toUInt64 >>> ((1 : Int32).toInt64.toUInt64 &&& Int64.toUInt64 63)).toInt64) &&& (6148914691236517205 : Int64))).toUInt64 >>> ((2 : Int32).toInt64.toUInt64 &&& Int64.toUInt64 63)).toInt64) &&& (3689348814741910323 : Int64))) + (((((a1 - (((a1.toUInt64 >>> ((1 : Int32).toInt64.toUInt64 &&& Int64.toUInt64 63)).toInt64) &&& (6148914691236517205 : Int64))) &&& (3689348814741910323 : Int64)) + ((((a1 - (((a1.toUInt64 >>> ((1 : Int32).toInt64.toUInt64 &&& Int64.toUInt64 63)).toInt64) &&& (6148914691236517205 : Int64))).toUInt64 >>> ((2 : Int32).toInt64.toUInt64 &&& Int64.toUInt64 63)).toInt64) &&& (3689348814741910323 : Int64))).toUInt64 >>> ((4 : Int32).toInt64.toUInt64 &&& Int64.toUInt64 63)).toInt64)) &&& (1085102592571150095 : Int64)) + (((((((a1 - (((a1.toUInt64 >>> ((1 : Int32).toInt64.toUInt64 &&& Int64.toUInt64 63)).toInt64) &&& (6148914691236517205 : Int64))) &&& (3689348814741910323 : Int64)) + ((((a1 - (((a1.toUInt64 >>> ((1 : Int32).toInt64.toUInt64 &&& Int64.toUInt64 63)).toInt64) &&& (6148914691236517205 : Int64))).toUInt64 >>> ((2 : Int32).toInt64.toUInt64 &&& Int64.toUInt64 63)).toInt64) &&& (3689348814741910323 : Int64))) + (((((a1 - (((a1.toUInt64 >>> ((1 : Int32).toInt64.toUInt64 &&& Int64.toUInt64 63)).toInt64) &&& (6148914691236517205 : Int64))) &&& (3689348814741910323 : Int64)) + ((((a1 - (((a1.toUInt64 >>> ((1 : Int32).toInt64.toUInt64 &&& Int64.toUInt64 63)).toInt64) &&& (6148914691236517205 : Int64))).toUInt64 >>> ((2 : Int32).toInt64.toUInt64 &&& Int64.toUInt64 63)).toInt64) &&& (3689348814741910323 : Int64))).toUInt64 >>> ((4 : Int32).toInt64.toUInt64 &&& Int64.toUInt64 63)).toInt64)) &&& (1085102592571150095 : Int64)).toUInt64 >>> ((8 : Int32).toInt64.toUInt64 &&& Int64.toUInt64 63)).toInt64)).toUInt64 >>> ((16 : Int32).toInt64.toUInt64 &&& Int64.toUInt64 63)).toInt64)) + (((((((((a1 - (((a1.toUInt64 >>> ((1 : Int32).toInt64.toUInt64 &&& Int64.toUInt64 63)).toInt64) &&& (6148914691236517205 : Int64))) &&& (3689348814741910323 : Int64)) + ((((a1 - (((a1.toUInt64 >>> ((1 : Int32).toInt64.toUInt64 &&& Int64.toUInt64 63)).toInt64) &&& (6148914691236517205 : Int64))).toUInt64 >>> ((2 : Int32).toInt64.toUInt64 &&& Int64.toUInt64 63)).toInt64) &&& (3689348814741910323 : Int64))) + (((((a1 - (((a1.toUInt64 >>> ((1 : Int32).toInt64.toUInt64 &&& Int64.toUInt64 63)).toInt64) &&& (6148914691236517205 : Int64))) &&& (3689348814741910323 : Int64)) + ((((a1 - (((a1.toUInt64 >>> ((1 : Int32).toInt64.toUInt64 &&& Int64.toUInt64 63)).toInt64) &&& (6148914691236517205 : Int64))).toUInt64 >>> ((2 : Int32).toInt64.toUInt64 &&& Int64.toUInt64 63)).toInt64) &&& (3689348814741910323 : Int64))).toUInt64 >>> ((4 : Int32).toInt64.toUInt64 &&& Int64.toUInt64 63)).toInt64)) &&& (1085102592571150095 : Int64)) + (((((((a1 - (((a1.toUInt64 >>> ((1 : Int32).toInt64.toUInt64 &&& Int64.toUInt64 63)).toInt64) &&& (6148914691236517205 : Int64))) &&& (3689348814741910323 : Int64)) + ((((a1 - (((a1.toUInt64 >>> ((1 : Int32).toInt64.toUInt64 &&& Int64.toUInt64 63)).toInt64) &&& (6148914691236517205 : Int64))).toUInt64 >>> ((2 : Int32).toInt64.toUInt64 &&& Int64.toUInt64 63)).toInt64) &&& (3689348814741910323 : Int64))) + (((((a1 - (((a1.toUInt64 >>> ((1 : Int32).toInt64.toUInt64 &&& Int64.toUInt64 63)).toInt64) &&& (6148914691236517205 : Int64))) &&& (3689348814741910323 : Int64)) + ((((a1 - (((a1.toUInt64 >>> ((1 : Int32).toInt64.toUInt64 &&& Int64.toUInt64 63)).toInt64) &&& (6148914691236517205 : Int64))).toUInt64 >>> ((2 : Int32).toInt64.toUInt64 &&& Int64.toUInt64 63)).toInt64) &&& (3689348814741910323 : Int64))).toUInt64 >>> ((4 : Int32).toInt64.toUInt64 &&& Int64.toUInt64 63)).toInt64)) &&& (1085102592571150095 : Int64)).toUInt64 >>> ((8 : Int32).toInt64.toUInt64 &&& Int64.toUInt64 63)).toInt64)) + ((((((((a1 - (((a1.toUInt64 >>> ((1 : Int32).toInt64.toUInt64 &&& Int64.toUInt64 63)).toInt64) &&& (6148914691236517205 : Int64))) &&& (3689348814741910323 : Int64)) + ((((a1 - (((a1.toUInt64 >>> ((1 : Int32).toInt64.toUInt64 &&& Int64.toUInt64 63)).toInt64) &&& (6148914691236517205 : Int64))).toUInt64 >>> ((2 : Int32).toInt64.toUInt64 &&& Int64.toUInt64 63)).toInt64) &&& (3689348814741910323 : Int64))) + (((((a1 - (((a1.toUInt64 >>> ((1 : Int32).toInt64.toUInt64 &&& Int64.toUInt64 63)).toInt64) &&& (6148914691236517205 : Int64))) &&& (3689348814741910323 : Int64)) + ((((a1 - (((a1.toUInt64 >>> ((1 : Int32).toInt64.toUInt64 &&& Int64.toUInt64 63)).toInt64) &&& (6148914691236517205 : Int64))).toUInt64 >>> ((2 : Int32).toInt64.toUInt64 &&& Int64.toUInt64 63)).toInt64) &&& (3689348814741910323 : Int64))).toUInt64 >>> ((4 : Int32).toInt64.toUInt64 &&& Int64.toUInt64 63)).toInt64)) &&& (1085102592571150095 : Int64)) + (((((((a1 - (((a1.toUInt64 >>> ((1 : Int32).toInt64.toUInt64 &&& Int64.toUInt64 63)).toInt64) &&& (6148914691236517205 : Int64))) &&& (3689348814741910323 : Int64)) + ((((a1 - (((a1.toUInt64 >>> ((1 : Int32).toInt64.toUInt64 &&& Int64.toUInt64 63)).toInt64) &&& (6148914691236517205 : Int64))).toUInt64 >>> ((2 : Int32).toInt64.toUInt64 &&& Int64.toUInt64 63)).toInt64) &&& (3689348814741910323 : Int64))) + (((((a1 - (((a1.toUInt64 >>> ((1 : Int32).toInt64.toUInt64 &&& Int64.toUInt64 63)).toInt64) &&& (6148914691236517205 : Int64))) &&& (3689348814741910323 : Int64)) + ((((a1 - (((a1.toUInt64 >>> ((1 : Int32).toInt64.toUInt64 &&& Int64.toUInt64 63)).toInt64) &&& (6148914691236517205 : Int64))).toUInt64 >>> ((2 : Int32).toInt64.toUInt64 &&& Int64.toUInt64 63)).toInt64) &&& (3689348814741910323 : Int64))).toUInt64 >>> ((4 : Int32).toInt64.toUInt64 &&& Int64.toUInt64 63)).toInt64)) &&& (1085102592571150095 : Int64)).toUInt64 >>> ((8 : Int32).toInt64.toUInt64 &&& Int64.toUInt64 63)).toInt64)).toUInt64 >>> ((16 : Int32).toInt64.toUInt64 &&& Int64.toUInt64 63)).toInt64)).toUInt64 >>> ((32 : Int32).toInt64.toUInt64 &&& Int64.toUInt64 63)).toInt64))).toInt32 &&& (127 : Int32)))
set_option maxRecDepth 100000 in
set_option maxHeartbeats 4000000 in
theorem eJl_bitCount {d : Nat} (hd : 1 ≤ d) {a1 : Int64} {h : q_H} {r : Int32} (HF : Jl_bitCount a1 h = some r) : q_T d 4 [.inr (.inl a1)] h (some (.inl r), h) := by
  obtain ⟨d, rfl⟩ : ∃ d', d = d' + 1 := ⟨d - 1, by omega⟩
  refine q_ent q_K4 rfl rfl rfl ?_
  unfold Jl_bitCount at HF
  have hz := Option.some.inj HF
  subst hz
  exact q_rtn 49 (fun _ _ => rfl)
def Rp_status  (h : q_H) : Option Int32 :=
  some ((h.1 24 6 6 0))
set_option maxRecDepth 100000 in
set_option maxHeartbeats 4000000 in
theorem eRp_status {d : Nat} (hd : 1 ≤ d)  {h : q_H} {r : Int32} (HF : Rp_status  h = some r) : q_T d 5 [.inr (.inr (24, 6, 0))] h (some (.inl r), h) := by
  obtain ⟨d, rfl⟩ : ∃ d', d = d' + 1 := ⟨d - 1, by omega⟩
  refine q_ent q_K5 rfl rfl rfl ?_
  unfold Rp_status at HF
  have hz := Option.some.inj HF
  subst hz
  exact q_rtn 3 (fun _ _ => rfl)
def Rp_fault (a1 : Int32) (h : q_H) : Option Int32 :=
  if ¬ (h.1 25 14 6 0) = 0 then (if a1 = 0 then (some ((h.1 25 15 6 0))) else (if a1 = 1 then (some ((h.1 25 16 6 0))) else (some ((-1 : Int32))))) else (some ((-1 : Int32)))
set_option maxRecDepth 100000 in
set_option maxHeartbeats 4000000 in
theorem eRp_fault {d : Nat} (hd : 1 ≤ d) {a1 : Int32} {h : q_H} {r : Int32} (HF : Rp_fault a1 h = some r) : q_T d 8 [.inr (.inr (24, 6, 0)), .inl a1] h (some (.inl r), h) := by
  obtain ⟨d, rfl⟩ : ∃ d', d = d' + 1 := ⟨d - 1, by omega⟩
  refine q_ent q_K8 rfl rfl rfl ?_
  unfold Rp_fault at HF
  refine q_br (P := ¬ (h.1 25 14 6 0) = 0) (pcT := 12) (pcF := 10) (loc' := [some (.inr (.inr (24, 6, 0))), some (.inl a1)]) (stk' := []) (h' := h) 4 (fun _ _ => rfl) (fun c3 => ?_) (fun c3 => ?_)
  · rw [if_pos c3] at HF
    by_cases c1 : a1 = 0
    · rw [if_pos c1] at HF
      refine q_lsw (a := a1) (o1 := 27) (pcx := 13) (pc' := 40) (loc' := [some (.inr (.inr (24, 6, 0))), some (.inl a1)]) (stk' := []) (h' := h) 2 (fun _ _ => rfl) (by rw [c1]; rfl) rfl ?_
      have hz := Option.some.inj HF
      subst hz
      exact q_rtn 4 (fun _ _ => rfl)
    · rw [if_neg c1] at HF
      by_cases c2 : a1 = 1
      · rw [if_pos c2] at HF
        refine q_lsw (a := a1) (o1 := 35) (pcx := 13) (pc' := 48) (loc' := [some (.inr (.inr (24, 6, 0))), some (.inl a1)]) (stk' := []) (h' := h) 2 (fun _ _ => rfl) (by rw [c2]; rfl) rfl ?_
        have hz := Option.some.inj HF
        subst hz
        exact q_rtn 4 (fun _ _ => rfl)
      · rw [if_neg c2] at HF
        refine q_lsw (a := a1) (o1 := 43) (pcx := 13) (pc' := 56) (loc' := [some (.inr (.inr (24, 6, 0))), some (.inl a1)]) (stk' := []) (h' := h) 2 (fun _ _ => rfl) ((lv_osw c1 (a := 0) rfl).trans ((lv_osw c2 (a := 1) rfl).trans rfl)) rfl ?_
        have hz := Option.some.inj HF
        subst hz
        exact q_rtn 2 (fun _ _ => rfl)
  · rw [if_neg c3] at HF
    have hz := Option.some.inj HF
    subst hz
    exact q_rtn 2 (fun _ _ => rfl)
def Rp_answer (a1 : Int32) (h : q_H) : Option (Int32 × q_H) :=
  some ((a1, (q_si h 24 6 6 0 (0 : Int32))))
set_option maxRecDepth 100000 in
set_option maxHeartbeats 4000000 in
theorem eRp_answer {d : Nat} (hd : 1 ≤ d) {a1 : Int32} {h : q_H} {r : (Int32 × q_H)} (HF : Rp_answer a1 h = some r) : q_T d 45 [.inr (.inr (24, 6, 0)), .inl a1] h (some (.inl r.1), r.2) := by
  obtain ⟨d, rfl⟩ : ∃ d', d = d' + 1 := ⟨d - 1, by omega⟩
  refine q_ent q_K45 rfl rfl rfl ?_
  unfold Rp_answer at HF
  have hz := Option.some.inj HF
  subst hz
  exact q_rtn 5 (fun _ _ => rfl)
def Rp_refuse (a1 : Int32) (h : q_H) : Option (Int32 × q_H) :=
  some (((-1 : Int32), (q_si h 24 6 6 0 a1)))
set_option maxRecDepth 100000 in
set_option maxHeartbeats 4000000 in
theorem eRp_refuse {d : Nat} (hd : 1 ≤ d) {a1 : Int32} {h : q_H} {r : (Int32 × q_H)} (HF : Rp_refuse a1 h = some r) : q_T d 46 [.inr (.inr (24, 6, 0)), .inl a1] h (some (.inl r.1), r.2) := by
  obtain ⟨d, rfl⟩ : ∃ d', d = d' + 1 := ⟨d - 1, by omega⟩
  refine q_ent q_K46 rfl rfl rfl ?_
  unfold Rp_refuse at HF
  have hz := Option.some.inj HF
  subst hz
  exact q_rtn 5 (fun _ _ => rfl)
def Rp_isWithin (a1 : Int32) (a2 : Int32) (a3 : Int32) (h : q_H) : Option Int32 :=
  if a1 < a2 then (some ((0 : Int32))) else (if a3 < a1 then (some ((0 : Int32))) else (some ((1 : Int32))))
set_option maxRecDepth 100000 in
set_option maxHeartbeats 4000000 in
theorem eRp_isWithin {d : Nat} (hd : 1 ≤ d) {a1 : Int32} {a2 : Int32} {a3 : Int32} {h : q_H} {r : Int32} (HF : Rp_isWithin a1 a2 a3 h = some r) : q_T d 55 [.inl a1, .inl a2, .inl a3] h (some (.inl r), h) := by
  obtain ⟨d, rfl⟩ : ∃ d', d = d' + 1 := ⟨d - 1, by omega⟩
  refine q_ent q_K55 rfl rfl rfl ?_
  unfold Rp_isWithin at HF
  refine q_br (P := a1 < a2) (pcT := 14) (pcF := 5) (loc' := [some (.inl a1), some (.inl a2), some (.inl a3)]) (stk' := []) (h' := h) 3 (fun _ _ => rfl) (fun c2 => ?_) (fun c2 => ?_)
  · rw [if_pos c2] at HF
    have hz := Option.some.inj HF
    subst hz
    exact q_rtn 2 (fun _ _ => rfl)
  · rw [if_neg c2] at HF
    refine q_br (P := a3 < a1) (pcT := 14) (pcF := 10) (loc' := [some (.inl a1), some (.inl a2), some (.inl a3)]) (stk' := []) (h' := h) 3 (fun _ _ => rfl) (fun c1 => ?_) (fun c1 => ?_)
    · rw [if_pos c1] at HF
      have hz := Option.some.inj HF
      subst hz
      exact q_rtn 2 (fun _ _ => rfl)
    · rw [if_neg c1] at HF
      have hz := Option.some.inj HF
      subst hz
      exact q_rtn 3 (fun _ _ => rfl)
def Rp_isPage (a1 : Int32) (h : q_H) : Option Int32 :=
  if a1 < 0 then (some ((0 : Int32))) else (if (6 : Int32) ≤ a1 then (some ((0 : Int32))) else (some ((1 : Int32))))
set_option maxRecDepth 100000 in
set_option maxHeartbeats 4000000 in
theorem eRp_isPage {d : Nat} (hd : 1 ≤ d) {a1 : Int32} {h : q_H} {r : Int32} (HF : Rp_isPage a1 h = some r) : q_T d 56 [.inl a1] h (some (.inl r), h) := by
  obtain ⟨d, rfl⟩ : ∃ d', d = d' + 1 := ⟨d - 1, by omega⟩
  refine q_ent q_K56 rfl rfl rfl ?_
  unfold Rp_isPage at HF
  refine q_br (P := a1 < 0) (pcT := 14) (pcF := 4) (loc' := [some (.inl a1)]) (stk' := []) (h' := h) 2 (fun _ _ => rfl) (fun c2 => ?_) (fun c2 => ?_)
  · rw [if_pos c2] at HF
    have hz := Option.some.inj HF
    subst hz
    exact q_rtn 2 (fun _ _ => rfl)
  · rw [if_neg c2] at HF
    refine q_br (P := (6 : Int32) ≤ a1) (pcT := 14) (pcF := 10) (loc' := [some (.inl a1)]) (stk' := []) (h' := h) 3 (fun _ _ => rfl) (fun c1 => ?_) (fun c1 => ?_)
    · rw [if_pos c1] at HF
      have hz := Option.some.inj HF
      subst hz
      exact q_rtn 2 (fun _ _ => rfl)
    · rw [if_neg c1] at HF
      have hz := Option.some.inj HF
      subst hz
      exact q_rtn 3 (fun _ _ => rfl)
def Rp_pageOf (a1 : Int32) (h : q_H) : Option Int32 :=
  if 0 ≤ a1 then (some ((a1 / (10 : Int32)))) else (some ((-1 : Int32)))
set_option maxRecDepth 100000 in
set_option maxHeartbeats 4000000 in
theorem eRp_pageOf {d : Nat} (hd : 1 ≤ d) {a1 : Int32} {h : q_H} {r : Int32} (HF : Rp_pageOf a1 h = some r) : q_T d 58 [.inl a1] h (some (.inl r), h) := by
  obtain ⟨d, rfl⟩ : ∃ d', d = d' + 1 := ⟨d - 1, by omega⟩
  refine q_ent q_K58 rfl rfl rfl ?_
  unfold Rp_pageOf at HF
  refine q_br (P := 0 ≤ a1) (pcT := 8) (pcF := 4) (loc' := [some (.inl a1)]) (stk' := []) (h' := h) 2 (fun _ _ => rfl) (fun c1 => ?_) (fun c1 => ?_)
  · rw [if_pos c1] at HF
    have hz := Option.some.inj HF
    subst hz
    exact q_rtn 4 (fun _ _ => rfl)
  · rw [if_neg c1] at HF
    have hz := Option.some.inj HF
    subst hz
    exact q_rtn 3 (fun _ _ => rfl)
def Rp_slotOf (a1 : Int32) (h : q_H) : Option Int32 :=
  if 0 ≤ a1 then (some ((a1 - a1 / (10 : Int32) * (10 : Int32)))) else (some ((-1 : Int32)))
set_option maxRecDepth 100000 in
set_option maxHeartbeats 4000000 in
theorem eRp_slotOf {d : Nat} (hd : 1 ≤ d) {a1 : Int32} {h : q_H} {r : Int32} (HF : Rp_slotOf a1 h = some r) : q_T d 59 [.inl a1] h (some (.inl r), h) := by
  obtain ⟨d, rfl⟩ : ∃ d', d = d' + 1 := ⟨d - 1, by omega⟩
  refine q_ent q_K59 rfl rfl rfl ?_
  unfold Rp_slotOf at HF
  refine q_br (P := 0 ≤ a1) (pcT := 8) (pcF := 4) (loc' := [some (.inl a1)]) (stk' := []) (h' := h) 2 (fun _ _ => rfl) (fun c1 => ?_) (fun c1 => ?_)
  · rw [if_pos c1] at HF
    have hz := Option.some.inj HF
    subst hz
    exact q_rtn 4 (fun _ _ => rfl)
  · rw [if_neg c1] at HF
    have hz := Option.some.inj HF
    subst hz
    exact q_rtn 3 (fun _ _ => rfl)
def Rp_pick (t1 : Nat) (k1 : Nat) (a2 : Int32) (h : q_H) : Option Int32 :=
  if a2 < 0 then (some ((-1 : Int32))) else (bif (!Nat.beq (q_at t1) 9) then (if (Int32.ofNat (q_al t1)) ≤ a2 then (some ((-1 : Int32))) else (bif (Nat.beq (q_at t1) 0 && q_in a2 (q_al t1)) then (some ((h.1 t1 0 k1 a2.toNatClampNeg))) else none)) else none)
set_option maxRecDepth 100000 in
set_option maxHeartbeats 4000000 in
theorem eRp_pick {d : Nat} (hd : 1 ≤ d) {t1 : Nat} {k1 : Nat} {a2 : Int32} {h : q_H} {r : Int32} (HF : Rp_pick t1 k1 a2 h = some r) : q_T d 60 [.inr (.inr (t1, k1, 0)), .inl a2] h (some (.inl r), h) := by
  obtain ⟨d, rfl⟩ : ∃ d', d = d' + 1 := ⟨d - 1, by omega⟩
  refine q_ent q_K60 rfl rfl rfl ?_
  unfold Rp_pick at HF
  refine q_br (P := a2 < 0) (pcT := 16) (pcF := 4) (loc' := [some (.inr (.inr (t1, k1, 0))), some (.inl a2)]) (stk' := []) (h' := h) 2 (fun _ _ => rfl) (fun c4 => ?_) (fun c4 => ?_)
  · rw [if_pos c4] at HF
    have hz := Option.some.inj HF
    subst hz
    exact q_rtn 2 (fun _ _ => rfl)
  · rw [if_neg c4] at HF
    obtain ⟨g3, HF⟩ := q_gF HF
    refine q_gdn (pc' := 7) (loc' := [some (.inr (.inr (t1, k1, 0))), some (.inl a2)]) (stk' := [.inl (Int32.ofNat (q_al t1)), .inl a2]) (h' := h) 3 (fun _ _ => rfl) g3 ?_
    refine q_br (P := (Int32.ofNat (q_al t1)) ≤ a2) (pcT := 16) (pcF := 10) (loc' := [some (.inr (.inr (t1, k1, 0))), some (.inl a2)]) (stk' := []) (h' := h) 1 (fun _ _ => rfl) (fun c2 => ?_) (fun c2 => ?_)
    · rw [if_pos c2] at HF
      have hz := Option.some.inj HF
      subst hz
      exact q_rtn 2 (fun _ _ => rfl)
    · rw [if_neg c2] at HF
      obtain ⟨g1, HF⟩ := q_gF HF
      rw [Bool.and_eq_true] at g1
      refine q_gd2 (pc' := 13) (loc' := [some (.inr (.inr (t1, k1, 0))), some (.inl a2)]) (stk' := [.inl (h.1 t1 0 k1 a2.toNatClampNeg)]) (h' := h) 3 (fun _ _ => rfl) g1.1 g1.2 ?_
      have hz := Option.some.inj HF
      subst hz
      exact q_rtn 2 (fun _ _ => rfl)
def Rp_put (t1 : Nat) (k1 : Nat) (a2 : Int32) (a3 : Int32) (h : q_H) : Option q_H :=
  if a2 < 0 then (some (h)) else (bif (!Nat.beq (q_at t1) 9) then (if (Int32.ofNat (q_al t1)) ≤ a2 then (some (h)) else (bif (Nat.beq (q_at t1) 0 && q_in a2 (q_al t1)) then (some ((q_si h t1 0 k1 a2.toNatClampNeg a3))) else none)) else none)
set_option maxRecDepth 100000 in
set_option maxHeartbeats 4000000 in
theorem eRp_put {d : Nat} (hd : 1 ≤ d) {t1 : Nat} {k1 : Nat} {a2 : Int32} {a3 : Int32} {h : q_H} {r : q_H} (HF : Rp_put t1 k1 a2 a3 h = some r) : q_T d 61 [.inr (.inr (t1, k1, 0)), .inl a2, .inl a3] h (none, r) := by
  obtain ⟨d, rfl⟩ : ∃ d', d = d' + 1 := ⟨d - 1, by omega⟩
  refine q_ent q_K61 rfl rfl rfl ?_
  unfold Rp_put at HF
  refine q_br (P := a2 < 0) (pcT := 14) (pcF := 4) (loc' := [some (.inr (.inr (t1, k1, 0))), some (.inl a2), some (.inl a3)]) (stk' := []) (h' := h) 2 (fun _ _ => rfl) (fun c4 => ?_) (fun c4 => ?_)
  · rw [if_pos c4] at HF
    have hz := Option.some.inj HF
    subst hz
    exact q_rtn 1 (fun _ _ => rfl)
  · rw [if_neg c4] at HF
    obtain ⟨g3, HF⟩ := q_gF HF
    refine q_gdn (pc' := 7) (loc' := [some (.inr (.inr (t1, k1, 0))), some (.inl a2), some (.inl a3)]) (stk' := [.inl (Int32.ofNat (q_al t1)), .inl a2]) (h' := h) 3 (fun _ _ => rfl) g3 ?_
    refine q_br (P := (Int32.ofNat (q_al t1)) ≤ a2) (pcT := 14) (pcF := 10) (loc' := [some (.inr (.inr (t1, k1, 0))), some (.inl a2), some (.inl a3)]) (stk' := []) (h' := h) 1 (fun _ _ => rfl) (fun c2 => ?_) (fun c2 => ?_)
    · rw [if_pos c2] at HF
      have hz := Option.some.inj HF
      subst hz
      exact q_rtn 1 (fun _ _ => rfl)
    · rw [if_neg c2] at HF
      obtain ⟨g1, HF⟩ := q_gF HF
      rw [Bool.and_eq_true] at g1
      refine q_gd2 (pc' := 14) (loc' := [some (.inr (.inr (t1, k1, 0))), some (.inl a2), some (.inl a3)]) (stk' := []) (h' := (q_si h t1 0 k1 a2.toNatClampNeg a3)) 4 (fun _ _ => rfl) g1.1 g1.2 ?_
      have hz := Option.some.inj HF
      subst hz
      exact q_rtn 1 (fun _ _ => rfl)
def Sl_empty (k : Nat) (i : Nat) (a1 : Int32) (h : q_H) : Option q_H :=
  (some (q_si (q_si (q_si (q_si (q_si (q_si (q_si h 3 0 k i a1) 3 1 k i (-1 : Int32)) 3 2 k i (-1 : Int32)) 3 3 k i (-1 : Int32)) 3 4 k i (-1 : Int32)) 3 5 k i (0 : Int32)) 3 6 k i (-1 : Int32))).bind fun h1 => some ((q_si (q_si (q_si (q_si (q_si h1 3 7 k i (-1 : Int32)) 3 8 k i (-1 : Int32)) 3 9 k i (-1 : Int32)) 3 10 k i (0 : Int32)) 3 11 k i (0 : Int32)))
set_option maxRecDepth 100000 in
set_option maxHeartbeats 4000000 in
theorem eSl_empty {d : Nat} (hd : 1 ≤ d) {k : Nat} {i : Nat} {a1 : Int32} {h : q_H} {r : q_H} (HF : Sl_empty k i a1 h = some r) : q_T d 63 [.inr (.inr (3, k, i)), .inl a1] h (none, r) := by
  obtain ⟨d, rfl⟩ : ∃ d', d = d' + 1 := ⟨d - 1, by omega⟩
  refine q_ent q_K63 rfl rfl rfl ?_
  unfold Sl_empty at HF
  obtain ⟨h1, e2, HF⟩ := q_bind HF
  refine q_blk (pc' := 35) (loc' := [some (.inr (.inr (3, k, i))), some (.inl a1)]) (stk' := []) (h' := (q_si (q_si (q_si (q_si (q_si (q_si (q_si h 3 0 k i a1) 3 1 k i (-1 : Int32)) 3 2 k i (-1 : Int32)) 3 3 k i (-1 : Int32)) 3 4 k i (-1 : Int32)) 3 5 k i (0 : Int32)) 3 6 k i (-1 : Int32))) 21 (fun _ _ => rfl) ?_
  rw [Option.some.inj e2]
  have hz := Option.some.inj HF
  subst hz
  exact q_rtn 16 (fun _ _ => rfl)
def Sl_copyFrom (k : Nat) (i : Nat) (k1 : Nat) (i1 : Nat) (h : q_H) : Option q_H :=
  (some (q_si (q_si (q_si h 3 0 k i (h.1 3 0 k1 i1)) 3 1 k i ((q_si h 3 0 k i (h.1 3 0 k1 i1)).1 3 1 k1 i1)) 3 2 k i ((q_si (q_si h 3 0 k i (h.1 3 0 k1 i1)) 3 1 k i ((q_si h 3 0 k i (h.1 3 0 k1 i1)).1 3 1 k1 i1)).1 3 2 k1 i1))).bind fun h1 => (some (q_si (q_si (q_si h1 3 3 k i (h1.1 3 3 k1 i1)) 3 4 k i ((q_si h1 3 3 k i (h1.1 3 3 k1 i1)).1 3 4 k1 i1)) 3 5 k i ((q_si (q_si h1 3 3 k i (h1.1 3 3 k1 i1)) 3 4 k i ((q_si h1 3 3 k i (h1.1 3 3 k1 i1)).1 3 4 k1 i1)).1 3 5 k1 i1))).bind fun h3 => (some (q_si (q_si (q_si h3 3 6 k i (h3.1 3 6 k1 i1)) 3 7 k i ((q_si h3 3 6 k i (h3.1 3 6 k1 i1)).1 3 7 k1 i1)) 3 8 k i ((q_si (q_si h3 3 6 k i (h3.1 3 6 k1 i1)) 3 7 k i ((q_si h3 3 6 k i (h3.1 3 6 k1 i1)).1 3 7 k1 i1)).1 3 8 k1 i1))).bind fun h5 => bif q_01 ((q_si h5 3 9 k i (h5.1 3 9 k1 i1)).1 3 10 k1 i1) then (bif q_01 ((q_si (q_si h5 3 9 k i (h5.1 3 9 k1 i1)) 3 10 k i ((q_si h5 3 9 k i (h5.1 3 9 k1 i1)).1 3 10 k1 i1)).1 3 11 k1 i1) then ((some (q_si (q_si (q_si h5 3 9 k i (h5.1 3 9 k1 i1)) 3 10 k i ((q_si h5 3 9 k i (h5.1 3 9 k1 i1)).1 3 10 k1 i1)) 3 11 k i ((q_si (q_si h5 3 9 k i (h5.1 3 9 k1 i1)) 3 10 k i ((q_si h5 3 9 k i (h5.1 3 9 k1 i1)).1 3 10 k1 i1)).1 3 11 k1 i1))).bind fun h7 => some (h7)) else none) else none
set_option maxRecDepth 100000 in
set_option maxHeartbeats 4000000 in
theorem eSl_copyFrom {d : Nat} (hd : 1 ≤ d) {k : Nat} {i : Nat} {k1 : Nat} {i1 : Nat} {h : q_H} {r : q_H} (HF : Sl_copyFrom k i k1 i1 h = some r) : q_T d 64 [.inr (.inr (3, k, i)), .inr (.inr (3, k1, i1))] h (none, r) := by
  obtain ⟨d, rfl⟩ : ∃ d', d = d' + 1 := ⟨d - 1, by omega⟩
  refine q_ent q_K64 rfl rfl rfl ?_
  unfold Sl_copyFrom at HF
  obtain ⟨h1, e2, HF⟩ := q_bind HF
  refine q_blk (pc' := 24) (loc' := [some (.inr (.inr (3, k, i))), some (.inr (.inr (3, k1, i1)))]) (stk' := []) (h' := (q_si (q_si (q_si h 3 0 k i (h.1 3 0 k1 i1)) 3 1 k i ((q_si h 3 0 k i (h.1 3 0 k1 i1)).1 3 1 k1 i1)) 3 2 k i ((q_si (q_si h 3 0 k i (h.1 3 0 k1 i1)) 3 1 k i ((q_si h 3 0 k i (h.1 3 0 k1 i1)).1 3 1 k1 i1)).1 3 2 k1 i1))) 12 (fun _ _ => rfl) ?_
  rw [Option.some.inj e2]
  obtain ⟨h3, e4, HF⟩ := q_bind HF
  refine q_blk (pc' := 48) (loc' := [some (.inr (.inr (3, k, i))), some (.inr (.inr (3, k1, i1)))]) (stk' := []) (h' := (q_si (q_si (q_si h1 3 3 k i (h1.1 3 3 k1 i1)) 3 4 k i ((q_si h1 3 3 k i (h1.1 3 3 k1 i1)).1 3 4 k1 i1)) 3 5 k i ((q_si (q_si h1 3 3 k i (h1.1 3 3 k1 i1)) 3 4 k i ((q_si h1 3 3 k i (h1.1 3 3 k1 i1)).1 3 4 k1 i1)).1 3 5 k1 i1))) 12 (fun _ _ => rfl) ?_
  rw [Option.some.inj e4]
  obtain ⟨h5, e6, HF⟩ := q_bind HF
  refine q_blk (pc' := 72) (loc' := [some (.inr (.inr (3, k, i))), some (.inr (.inr (3, k1, i1)))]) (stk' := []) (h' := (q_si (q_si (q_si h3 3 6 k i (h3.1 3 6 k1 i1)) 3 7 k i ((q_si h3 3 6 k i (h3.1 3 6 k1 i1)).1 3 7 k1 i1)) 3 8 k i ((q_si (q_si h3 3 6 k i (h3.1 3 6 k1 i1)) 3 7 k i ((q_si h3 3 6 k i (h3.1 3 6 k1 i1)).1 3 7 k1 i1)).1 3 8 k1 i1))) 12 (fun _ _ => rfl) ?_
  rw [Option.some.inj e6]
  obtain ⟨g10, HF⟩ := q_gF HF
  refine q_gdp (pc' := 88) (loc' := [some (.inr (.inr (3, k, i))), some (.inr (.inr (3, k1, i1)))]) (stk' := []) (h' := (q_si (q_si h5 3 9 k i (h5.1 3 9 k1 i1)) 3 10 k i ((q_si h5 3 9 k i (h5.1 3 9 k1 i1)).1 3 10 k1 i1))) 8 (fun _ _ => rfl) g10 ?_
  obtain ⟨g9, HF⟩ := q_gF HF
  refine q_gdp (pc' := 96) (loc' := [some (.inr (.inr (3, k, i))), some (.inr (.inr (3, k1, i1)))]) (stk' := []) (h' := (q_si (q_si (q_si h5 3 9 k i (h5.1 3 9 k1 i1)) 3 10 k i ((q_si h5 3 9 k i (h5.1 3 9 k1 i1)).1 3 10 k1 i1)) 3 11 k i ((q_si (q_si h5 3 9 k i (h5.1 3 9 k1 i1)) 3 10 k i ((q_si h5 3 9 k i (h5.1 3 9 k1 i1)).1 3 10 k1 i1)).1 3 11 k1 i1))) 4 (fun _ _ => rfl) g9 ?_
  obtain ⟨h7, e8, HF⟩ := q_bind HF
  refine q_blk (pc' := 96) (loc' := [some (.inr (.inr (3, k, i))), some (.inr (.inr (3, k1, i1)))]) (stk' := []) (h' := (q_si (q_si (q_si h5 3 9 k i (h5.1 3 9 k1 i1)) 3 10 k i ((q_si h5 3 9 k i (h5.1 3 9 k1 i1)).1 3 10 k1 i1)) 3 11 k i ((q_si (q_si h5 3 9 k i (h5.1 3 9 k1 i1)) 3 10 k i ((q_si h5 3 9 k i (h5.1 3 9 k1 i1)).1 3 10 k1 i1)).1 3 11 k1 i1))) 0 (fun _ _ => rfl) ?_
  rw [Option.some.inj e8]
  have hz := Option.some.inj HF
  subst hz
  exact q_rtn 1 (fun _ _ => rfl)
def Sl_isOf (k : Nat) (i : Nat) (a1 : Int32) (h : q_H) : Option Int32 :=
  if ¬ (h.1 3 0 k i) = (1 : Int32) then (some ((0 : Int32))) else (if ¬ (h.1 3 2 k i) = a1 then (some ((0 : Int32))) else (some ((1 : Int32))))
set_option maxRecDepth 100000 in
set_option maxHeartbeats 4000000 in
theorem eSl_isOf {d : Nat} (hd : 1 ≤ d) {k : Nat} {i : Nat} {a1 : Int32} {h : q_H} {r : Int32} (HF : Sl_isOf k i a1 h = some r) : q_T d 65 [.inr (.inr (3, k, i)), .inl a1] h (some (.inl r), h) := by
  obtain ⟨d, rfl⟩ : ∃ d', d = d' + 1 := ⟨d - 1, by omega⟩
  refine q_ent q_K65 rfl rfl rfl ?_
  unfold Sl_isOf at HF
  refine q_br (P := ¬ (h.1 3 0 k i) = (1 : Int32)) (pcT := 20) (pcF := 8) (loc' := [some (.inr (.inr (3, k, i))), some (.inl a1)]) (stk' := []) (h' := h) 4 (fun _ _ => rfl) (fun c2 => ?_) (fun c2 => ?_)
  · rw [if_pos c2] at HF
    have hz := Option.some.inj HF
    subst hz
    exact q_rtn 2 (fun _ _ => rfl)
  · rw [if_neg c2] at HF
    refine q_br (P := ¬ (h.1 3 2 k i) = a1) (pcT := 20) (pcF := 16) (loc' := [some (.inr (.inr (3, k, i))), some (.inl a1)]) (stk' := []) (h' := h) 4 (fun _ _ => rfl) (fun c1 => ?_) (fun c1 => ?_)
    · rw [if_pos c1] at HF
      have hz := Option.some.inj HF
      subst hz
      exact q_rtn 2 (fun _ _ => rfl)
    · rw [if_neg c1] at HF
      have hz := Option.some.inj HF
      subst hz
      exact q_rtn 3 (fun _ _ => rfl)
def Lg_makeAnew (k : Nat) (h : q_H) : Option q_H :=
  (q_lp (fun s1 : Int32 × q_H => (if (8 : Int32) ≤ s1.1 then (some (.inr ((q_si s1.2 15 3 k 0 (0 : Int32))))) else (bif q_in s1.1 8 then (some (.inl ((s1.1 + (1 : Int32)), (q_si s1.2 18 0 k s1.1.toNatClampNeg (0 : Int32))))) else none) : Option ((Int32 × q_H) ⊕ q_H))) q_fu (((0 : Int32), h) : Int32 × q_H)).bind fun z8 => some z8
set_option maxRecDepth 100000 in
set_option maxHeartbeats 4000000 in
theorem eLg_makeAnew {d : Nat} (hd : 1 ≤ d) {k : Nat} {h : q_H} {r : q_H} (HF : Lg_makeAnew k h = some r) : q_T d 81 [.inr (.inr (15, k, 0))] h (none, r) := by
  obtain ⟨d, rfl⟩ : ∃ d', d = d' + 1 := ⟨d - 1, by omega⟩
  refine q_ent q_K81 rfl rfl rfl ?_
  unfold Lg_makeAnew at HF
  refine q_blk (pc' := 2) (loc' := [some (.inr (.inr (15, k, 0))), some (.inl (0 : Int32))]) (stk' := []) (h' := h) 2 (fun _ _ => rfl) ?_
  obtain ⟨r6, hl7, HK4⟩ := q_bind HF
  refine q_lpE (E := fun s1 => q_E d q_K81 2 [some (.inr (.inr (15, k, 0))), some (.inl s1.1)] [] s1.2 (none, r)) r6 (fun s1 z8 HF H12 H23 => ?_) _ _ hl7
  refine q_br (P := (8 : Int32) ≤ s1.1) (pcT := 24) (pcF := 11) (loc' := [some (.inr (.inr (15, k, 0))), some (.inl s1.1)]) (stk' := []) (h' := s1.2) 5 (fun _ _ => rfl) (fun c10 => ?_) (fun c10 => ?_)
  · rw [if_pos c10] at HF
    have hz := Option.some.inj HF
    subst hz
    replace HF := HK4
    rw [← H23 _ rfl] at HF
    have hz := Option.some.inj HF
    subst hz
    exact q_rtn 4 (fun _ _ => rfl)
  · rw [if_neg c10] at HF
    obtain ⟨g9, HF⟩ := q_gF HF
    refine q_gd (pc' := 18) (loc' := [some (.inr (.inr (15, k, 0))), some (.inl s1.1)]) (stk' := []) (h' := (q_si s1.2 18 0 k s1.1.toNatClampNeg (0 : Int32))) 5 (fun _ _ => rfl) g9 ?_
    refine q_blk (pc' := 2) (loc' := [some (.inr (.inr (15, k, 0))), some (.inl (s1.1 + (1 : Int32)))]) (stk' := []) (h' := (q_si s1.2 18 0 k s1.1.toNatClampNeg (0 : Int32))) 2 (fun _ _ => rfl) ?_
    have hz := Option.some.inj HF
    subst hz
    exact H12 ((s1.1 + (1 : Int32)), (q_si s1.2 18 0 k s1.1.toNatClampNeg (0 : Int32))) rfl
def Pg_at (k : Nat) (a1 : Int32) (h : q_H) : Option Nat :=
  if a1 < 0 then (some (60)) else (if (60 : Int32) ≤ a1 then (some (60)) else (bif q_in a1 60 then (bif q_in a1 60 then (some (a1.toNatClampNeg)) else none) else none))
set_option maxRecDepth 100000 in
set_option maxHeartbeats 4000000 in
theorem ePg_at {d : Nat} (hd : 1 ≤ d) {k : Nat} {a1 : Int32} {h : q_H} {r : Nat} (HF : Pg_at k a1 h = some r) : q_T d 89 [.inr (.inr (1, k, 0)), .inl a1] h (some (.inr (.inr (3, k, r))), h) := by
  obtain ⟨d, rfl⟩ : ∃ d', d = d' + 1 := ⟨d - 1, by omega⟩
  refine q_ent q_K89 rfl rfl rfl ?_
  unfold Pg_at at HF
  refine q_br (P := a1 < 0) (pcT := 22) (pcF := 4) (loc' := [some (.inr (.inr (1, k, 0))), some (.inl a1)]) (stk' := []) (h' := h) 2 (fun _ _ => rfl) (fun c4 => ?_) (fun c4 => ?_)
  · rw [if_pos c4] at HF
    have hz := Option.some.inj HF
    subst hz
    exact q_rtn 3 (fun _ _ => rfl)
  · rw [if_neg c4] at HF
    refine q_br (P := (60 : Int32) ≤ a1) (pcT := 22) (pcF := 13) (loc' := [some (.inr (.inr (1, k, 0))), some (.inl a1)]) (stk' := []) (h' := h) 5 (fun _ _ => rfl) (fun c3 => ?_) (fun c3 => ?_)
    · rw [if_pos c3] at HF
      have hz := Option.some.inj HF
      subst hz
      exact q_rtn 3 (fun _ _ => rfl)
    · rw [if_neg c3] at HF
      obtain ⟨g2, HF⟩ := q_gF HF
      refine q_gd (pc' := 19) (loc' := [some (.inr (.inr (1, k, 0))), some (.inl a1)]) (stk' := [.inr (.inr (3, k, a1.toNatClampNeg))]) (h' := h) 4 (fun _ _ => rfl) g2 ?_
      obtain ⟨g1, HF⟩ := q_gF HF
      refine q_gd (pc' := 33) (loc' := [some (.inr (.inr (1, k, 0))), some (.inl a1)]) (stk' := [.inr (.inr (3, k, a1.toNatClampNeg))]) (h' := h) 5 (fun _ _ => rfl) g1 ?_
      have hz := Option.some.inj HF
      subst hz
      exact q_rtn 1 (fun _ _ => rfl)
def Tn_has (k : Nat) (a1 : Int32) (h : q_H) : Option Int32 :=
  if a1 < (1 : Int32) then (some ((0 : Int32))) else (if (h.1 6 4 k 0) ≤ a1 then (some ((0 : Int32))) else (some ((1 : Int32))))
set_option maxRecDepth 100000 in
set_option maxHeartbeats 4000000 in
theorem eTn_has {d : Nat} (hd : 1 ≤ d) {k : Nat} {a1 : Int32} {h : q_H} {r : Int32} (HF : Tn_has k a1 h = some r) : q_T d 105 [.inr (.inr (6, k, 0)), .inl a1] h (some (.inl r), h) := by
  obtain ⟨d, rfl⟩ : ∃ d', d = d' + 1 := ⟨d - 1, by omega⟩
  refine q_ent q_K105 rfl rfl rfl ?_
  unfold Tn_has at HF
  refine q_br (P := a1 < (1 : Int32)) (pcT := 17) (pcF := 5) (loc' := [some (.inr (.inr (6, k, 0))), some (.inl a1)]) (stk' := []) (h' := h) 3 (fun _ _ => rfl) (fun c2 => ?_) (fun c2 => ?_)
  · rw [if_pos c2] at HF
    have hz := Option.some.inj HF
    subst hz
    exact q_rtn 2 (fun _ _ => rfl)
  · rw [if_neg c2] at HF
    refine q_br (P := (h.1 6 4 k 0) ≤ a1) (pcT := 17) (pcF := 13) (loc' := [some (.inr (.inr (6, k, 0))), some (.inl a1)]) (stk' := []) (h' := h) 4 (fun _ _ => rfl) (fun c1 => ?_) (fun c1 => ?_)
    · rw [if_pos c1] at HF
      have hz := Option.some.inj HF
      subst hz
      exact q_rtn 2 (fun _ _ => rfl)
    · rw [if_neg c1] at HF
      have hz := Option.some.inj HF
      subst hz
      exact q_rtn 3 (fun _ _ => rfl)
def Tn_stateOf (k : Nat) (a1 : Int32) (h : q_H) : Option Int32 :=
  if a1 < (1 : Int32) then (some ((-1 : Int32))) else (if (h.1 6 4 k 0) ≤ a1 then (some ((-1 : Int32))) else (if (61 : Int32) ≤ a1 then (some ((-1 : Int32))) else (bif q_in a1 61 then (some ((h.1 7 0 k a1.toNatClampNeg))) else none)))
set_option maxRecDepth 100000 in
set_option maxHeartbeats 4000000 in
theorem eTn_stateOf {d : Nat} (hd : 1 ≤ d) {k : Nat} {a1 : Int32} {h : q_H} {r : Int32} (HF : Tn_stateOf k a1 h = some r) : q_T d 106 [.inr (.inr (6, k, 0)), .inl a1] h (some (.inl r), h) := by
  obtain ⟨d, rfl⟩ : ∃ d', d = d' + 1 := ⟨d - 1, by omega⟩
  refine q_ent q_K106 rfl rfl rfl ?_
  unfold Tn_stateOf at HF
  refine q_br (P := a1 < (1 : Int32)) (pcT := 31) (pcF := 5) (loc' := [some (.inr (.inr (6, k, 0))), some (.inl a1)]) (stk' := []) (h' := h) 3 (fun _ _ => rfl) (fun c4 => ?_) (fun c4 => ?_)
  · rw [if_pos c4] at HF
    have hz := Option.some.inj HF
    subst hz
    exact q_rtn 2 (fun _ _ => rfl)
  · rw [if_neg c4] at HF
    refine q_br (P := (h.1 6 4 k 0) ≤ a1) (pcT := 31) (pcF := 13) (loc' := [some (.inr (.inr (6, k, 0))), some (.inl a1)]) (stk' := []) (h' := h) 4 (fun _ _ => rfl) (fun c3 => ?_) (fun c3 => ?_)
    · rw [if_pos c3] at HF
      have hz := Option.some.inj HF
      subst hz
      exact q_rtn 2 (fun _ _ => rfl)
    · rw [if_neg c3] at HF
      refine q_br (P := (61 : Int32) ≤ a1) (pcT := 31) (pcF := 22) (loc' := [some (.inr (.inr (6, k, 0))), some (.inl a1)]) (stk' := []) (h' := h) 5 (fun _ _ => rfl) (fun c2 => ?_) (fun c2 => ?_)
      · rw [if_pos c2] at HF
        have hz := Option.some.inj HF
        subst hz
        exact q_rtn 2 (fun _ _ => rfl)
      · rw [if_neg c2] at HF
        obtain ⟨g1, HF⟩ := q_gF HF
        refine q_gd (pc' := 28) (loc' := [some (.inr (.inr (6, k, 0))), some (.inl a1)]) (stk' := [.inl (h.1 7 0 k a1.toNatClampNeg)]) (h' := h) 4 (fun _ _ => rfl) g1 ?_
        have hz := Option.some.inj HF
        subst hz
        exact q_rtn 2 (fun _ _ => rfl)
def Tn_setNoted (k : Nat) (a1 : Int32) (a2 : Int64) (h : q_H) : Option q_H :=
  if a1 < 0 then (some (h)) else (if (61 : Int32) ≤ a1 then (some (h)) else (bif q_in a1 61 then (some ((q_sl h 10 0 k a1.toNatClampNeg a2))) else none))
set_option maxRecDepth 100000 in
set_option maxHeartbeats 4000000 in
theorem eTn_setNoted {d : Nat} (hd : 1 ≤ d) {k : Nat} {a1 : Int32} {a2 : Int64} {h : q_H} {r : q_H} (HF : Tn_setNoted k a1 a2 h = some r) : q_T d 110 [.inr (.inr (6, k, 0)), .inl a1, .inr (.inl a2)] h (none, r) := by
  obtain ⟨d, rfl⟩ : ∃ d', d = d' + 1 := ⟨d - 1, by omega⟩
  refine q_ent q_K110 rfl rfl rfl ?_
  unfold Tn_setNoted at HF
  refine q_br (P := a1 < 0) (pcT := 20) (pcF := 4) (loc' := [some (.inr (.inr (6, k, 0))), some (.inl a1), some (.inr (.inl a2)), none]) (stk' := []) (h' := h) 2 (fun _ _ => rfl) (fun c3 => ?_) (fun c3 => ?_)
  · rw [if_pos c3] at HF
    have hz := Option.some.inj HF
    subst hz
    exact q_rtn 1 (fun _ _ => rfl)
  · rw [if_neg c3] at HF
    refine q_br (P := (61 : Int32) ≤ a1) (pcT := 20) (pcF := 13) (loc' := [some (.inr (.inr (6, k, 0))), some (.inl a1), some (.inr (.inl a2)), none]) (stk' := []) (h' := h) 5 (fun _ _ => rfl) (fun c2 => ?_) (fun c2 => ?_)
    · rw [if_pos c2] at HF
      have hz := Option.some.inj HF
      subst hz
      exact q_rtn 1 (fun _ _ => rfl)
    · rw [if_neg c2] at HF
      obtain ⟨g1, HF⟩ := q_gF HF
      refine q_gd (pc' := 20) (loc' := [some (.inr (.inr (6, k, 0))), some (.inl a1), some (.inr (.inl a2)), none]) (stk' := []) (h' := (q_sl h 10 0 k a1.toNatClampNeg a2)) 5 (fun _ _ => rfl) g1 ?_
      have hz := Option.some.inj HF
      subst hz
      exact q_rtn 1 (fun _ _ => rfl)
def Tn_isKnown (k : Nat) (a1 : Int32) (a2 : Int32) (h : q_H) : Option Int32 :=
  if ¬ a1 = a2 then (if a2 < (1 : Int32) then (some ((0 : Int32))) else (if a1 ≤ a2 then (some ((0 : Int32))) else (if (61 : Int32) ≤ a1 then (some ((0 : Int32))) else (if a2 < (61 : Int32) then (bif q_in a2 61 then (if ¬ (h.1 7 0 k a2.toNatClampNeg) = (1 : Int32) then (some ((0 : Int32))) else (bif q_in a1 61 then (if ¬ (lg_cmp (((h.2 10 0 k a1.toNatClampNeg) >>> (a2.toInt64 &&& 63)) &&& (1 : Int64)) (0 : Int64)) = 0 then (some ((0 : Int32))) else (some ((1 : Int32)))) else none)) else none) else (some ((0 : Int32))))))) else (some ((1 : Int32)))
set_option maxRecDepth 100000 in
set_option maxHeartbeats 4000000 in
theorem eTn_isKnown {d : Nat} (hd : 1 ≤ d) {k : Nat} {a1 : Int32} {a2 : Int32} {h : q_H} {r : Int32} (HF : Tn_isKnown k a1 a2 h = some r) : q_T d 111 [.inr (.inr (6, k, 0)), .inl a1, .inl a2] h (some (.inl r), h) := by
  obtain ⟨d, rfl⟩ : ∃ d', d = d' + 1 := ⟨d - 1, by omega⟩
  refine q_ent q_K111 rfl rfl rfl ?_
  unfold Tn_isKnown at HF
  refine q_br (P := ¬ a1 = a2) (pcT := 7) (pcF := 5) (loc' := [some (.inr (.inr (6, k, 0))), some (.inl a1), some (.inl a2)]) (stk' := []) (h' := h) 3 (fun _ _ => rfl) (fun c9 => ?_) (fun c9 => ?_)
  · rw [if_pos c9] at HF
    refine q_br (P := a2 < (1 : Int32)) (pcT := 35) (pcF := 12) (loc' := [some (.inr (.inr (6, k, 0))), some (.inl a1), some (.inl a2)]) (stk' := []) (h' := h) 3 (fun _ _ => rfl) (fun c8 => ?_) (fun c8 => ?_)
    · rw [if_pos c8] at HF
      have hz := Option.some.inj HF
      subst hz
      exact q_rtn 2 (fun _ _ => rfl)
    · rw [if_neg c8] at HF
      refine q_br (P := a1 ≤ a2) (pcT := 35) (pcF := 17) (loc' := [some (.inr (.inr (6, k, 0))), some (.inl a1), some (.inl a2)]) (stk' := []) (h' := h) 3 (fun _ _ => rfl) (fun c7 => ?_) (fun c7 => ?_)
      · rw [if_pos c7] at HF
        have hz := Option.some.inj HF
        subst hz
        exact q_rtn 2 (fun _ _ => rfl)
      · rw [if_neg c7] at HF
        refine q_br (P := (61 : Int32) ≤ a1) (pcT := 35) (pcF := 26) (loc' := [some (.inr (.inr (6, k, 0))), some (.inl a1), some (.inl a2)]) (stk' := []) (h' := h) 5 (fun _ _ => rfl) (fun c6 => ?_) (fun c6 => ?_)
        · rw [if_pos c6] at HF
          have hz := Option.some.inj HF
          subst hz
          exact q_rtn 2 (fun _ _ => rfl)
        · rw [if_neg c6] at HF
          refine q_br (P := a2 < (61 : Int32)) (pcT := 37) (pcF := 35) (loc' := [some (.inr (.inr (6, k, 0))), some (.inl a1), some (.inl a2)]) (stk' := []) (h' := h) 5 (fun _ _ => rfl) (fun c5 => ?_) (fun c5 => ?_)
          · rw [if_pos c5] at HF
            obtain ⟨g4, HF⟩ := q_gF HF
            refine q_gd (pc' := 43) (loc' := [some (.inr (.inr (6, k, 0))), some (.inl a1), some (.inl a2)]) (stk' := [.inl (h.1 7 0 k a2.toNatClampNeg)]) (h' := h) 4 (fun _ _ => rfl) g4 ?_
            refine q_br (P := ¬ (h.1 7 0 k a2.toNatClampNeg) = (1 : Int32)) (pcT := 66) (pcF := 47) (loc' := [some (.inr (.inr (6, k, 0))), some (.inl a1), some (.inl a2)]) (stk' := []) (h' := h) 2 (fun _ _ => rfl) (fun c3 => ?_) (fun c3 => ?_)
            · rw [if_pos c3] at HF
              have hz := Option.some.inj HF
              subst hz
              exact q_rtn 2 (fun _ _ => rfl)
            · rw [if_neg c3] at HF
              obtain ⟨g2, HF⟩ := q_gF HF
              refine q_gd (pc' := 53) (loc' := [some (.inr (.inr (6, k, 0))), some (.inl a1), some (.inl a2)]) (stk' := [.inr (.inl (h.2 10 0 k a1.toNatClampNeg))]) (h' := h) 4 (fun _ _ => rfl) g2 ?_
              refine q_br (P := ¬ (lg_cmp (((h.2 10 0 k a1.toNatClampNeg) >>> (a2.toInt64 &&& 63)) &&& (1 : Int64)) (0 : Int64)) = 0) (pcT := 66) (pcF := 62) (loc' := [some (.inr (.inr (6, k, 0))), some (.inl a1), some (.inl a2)]) (stk' := []) (h' := h) 7 (fun _ _ => rfl) (fun c1 => ?_) (fun c1 => ?_)
              · rw [if_pos c1] at HF
                have hz := Option.some.inj HF
                subst hz
                exact q_rtn 2 (fun _ _ => rfl)
              · rw [if_neg c1] at HF
                have hz := Option.some.inj HF
                subst hz
                exact q_rtn 3 (fun _ _ => rfl)
          · rw [if_neg c5] at HF
            have hz := Option.some.inj HF
            subst hz
            exact q_rtn 2 (fun _ _ => rfl)
  · rw [if_neg c9] at HF
    have hz := Option.some.inj HF
    subst hz
    exact q_rtn 2 (fun _ _ => rfl)
def Tx_hasRoomFor (a1 : Int32) (h : q_H) : Option Int32 :=
  if (700 : Int32) < ((h.1 25 1 6 0) + a1) then (some ((0 : Int32))) else (some ((1 : Int32)))
set_option maxRecDepth 100000 in
set_option maxHeartbeats 4000000 in
theorem eTx_hasRoomFor {d : Nat} (hd : 1 ≤ d) {a1 : Int32} {h : q_H} {r : Int32} (HF : Tx_hasRoomFor a1 h = some r) : q_T d 122 [.inr (.inr (25, 6, 0)), .inl a1] h (some (.inl r), h) := by
  obtain ⟨d, rfl⟩ : ∃ d', d = d' + 1 := ⟨d - 1, by omega⟩
  refine q_ent q_K122 rfl rfl rfl ?_
  unfold Tx_hasRoomFor at HF
  refine q_br (P := (700 : Int32) < ((h.1 25 1 6 0) + a1)) (pcT := 16) (pcF := 12) (loc' := [some (.inr (.inr (25, 6, 0))), some (.inl a1)]) (stk' := []) (h' := h) 6 (fun _ _ => rfl) (fun c1 => ?_) (fun c1 => ?_)
  · rw [if_pos c1] at HF
    have hz := Option.some.inj HF
    subst hz
    exact q_rtn 2 (fun _ _ => rfl)
  · rw [if_neg c1] at HF
    have hz := Option.some.inj HF
    subst hz
    exact q_rtn 3 (fun _ _ => rfl)
def Tx_open (a1 : Int32) (h : q_H) : Option q_H :=
  (some (q_si (q_si (q_si (q_si (q_si (q_si h 25 2 6 0 a1) 25 1 6 0 (0 : Int32)) 25 3 6 0 (0 : Int32)) 25 10 6 0 (0 : Int32)) 25 11 6 0 (0 : Int32)) 25 12 6 0 (0 : Int32))).bind fun h1 => some ((q_si (q_si (q_si (q_si h1 25 13 6 0 (0 : Int32)) 25 14 6 0 (1 : Int32)) 25 15 6 0 (0 : Int32)) 25 16 6 0 (-1 : Int32)))
set_option maxRecDepth 100000 in
set_option maxHeartbeats 4000000 in
theorem eTx_open {d : Nat} (hd : 1 ≤ d) {a1 : Int32} {h : q_H} {r : q_H} (HF : Tx_open a1 h = some r) : q_T d 124 [.inr (.inr (25, 6, 0)), .inl a1] h (none, r) := by
  obtain ⟨d, rfl⟩ : ∃ d', d = d' + 1 := ⟨d - 1, by omega⟩
  refine q_ent q_K124 rfl rfl rfl ?_
  unfold Tx_open at HF
  obtain ⟨h1, e2, HF⟩ := q_bind HF
  refine q_blk (pc' := 30) (loc' := [some (.inr (.inr (25, 6, 0))), some (.inl a1)]) (stk' := []) (h' := (q_si (q_si (q_si (q_si (q_si (q_si h 25 2 6 0 a1) 25 1 6 0 (0 : Int32)) 25 3 6 0 (0 : Int32)) 25 10 6 0 (0 : Int32)) 25 11 6 0 (0 : Int32)) 25 12 6 0 (0 : Int32))) 18 (fun _ _ => rfl) ?_
  rw [Option.some.inj e2]
  have hz := Option.some.inj HF
  subst hz
  exact q_rtn 13 (fun _ _ => rfl)
def Tx_blame (a1 : Int32) (a2 : Int32) (h : q_H) : Option q_H :=
  some ((q_si (q_si h 25 15 6 0 a1) 25 16 6 0 a2))
set_option maxRecDepth 100000 in
set_option maxHeartbeats 4000000 in
theorem eTx_blame {d : Nat} (hd : 1 ≤ d) {a1 : Int32} {a2 : Int32} {h : q_H} {r : q_H} (HF : Tx_blame a1 a2 h = some r) : q_T d 125 [.inr (.inr (25, 6, 0)), .inl a1, .inl a2] h (none, r) := by
  obtain ⟨d, rfl⟩ : ∃ d', d = d' + 1 := ⟨d - 1, by omega⟩
  refine q_ent q_K125 rfl rfl rfl ?_
  unfold Tx_blame at HF
  have hz := Option.some.inj HF
  subst hz
  exact q_rtn 7 (fun _ _ => rfl)
def Tx_isTooLate  (h : q_H) : Option Int32 :=
  if ¬ (h.1 25 7 6 0) = (3 : Int32) then (if (3 : Int32) ≤ (h.1 25 7 6 0) then (some ((0 : Int32))) else (if ¬ (h.1 25 13 6 0) = 0 then (some ((1 : Int32))) else (if ¬ (h.1 25 12 6 0) = 0 then (some ((1 : Int32))) else (if ¬ (((h.1 25 11 6 0) >>> ((h.1 25 7 6 0) &&& 31)) &&& (1 : Int32)) = (1 : Int32) then (some ((0 : Int32))) else (some ((1 : Int32))))))) else (bif q_01 (h.1 25 13 6 0) then some ((h.1 25 13 6 0)) else none)
set_option maxRecDepth 100000 in
set_option maxHeartbeats 4000000 in
theorem eTx_isTooLate {d : Nat} (hd : 1 ≤ d)  {h : q_H} {r : Int32} (HF : Tx_isTooLate  h = some r) : q_T d 128 [.inr (.inr (25, 6, 0))] h (some (.inl r), h) := by
  obtain ⟨d, rfl⟩ : ∃ d', d = d' + 1 := ⟨d - 1, by omega⟩
  refine q_ent q_K128 rfl rfl rfl ?_
  unfold Tx_isTooLate at HF
  refine q_br (P := ¬ (h.1 25 7 6 0) = (3 : Int32)) (pcT := 13) (pcF := 8) (loc' := [some (.inr (.inr (25, 6, 0)))]) (stk' := []) (h' := h) 4 (fun _ _ => rfl) (fun c6 => ?_) (fun c6 => ?_)
  · rw [if_pos c6] at HF
    refine q_br (P := (3 : Int32) ≤ (h.1 25 7 6 0)) (pcT := 54) (pcF := 21) (loc' := [some (.inr (.inr (25, 6, 0)))]) (stk' := []) (h' := h) 4 (fun _ _ => rfl) (fun c4 => ?_) (fun c4 => ?_)
    · rw [if_pos c4] at HF
      have hz := Option.some.inj HF
      subst hz
      exact q_rtn 2 (fun _ _ => rfl)
    · rw [if_neg c4] at HF
      refine q_br (P := ¬ (h.1 25 13 6 0) = 0) (pcT := 50) (pcF := 28) (loc' := [some (.inr (.inr (25, 6, 0)))]) (stk' := []) (h' := h) 3 (fun _ _ => rfl) (fun c3 => ?_) (fun c3 => ?_)
      · rw [if_pos c3] at HF
        have hz := Option.some.inj HF
        subst hz
        exact q_rtn 3 (fun _ _ => rfl)
      · rw [if_neg c3] at HF
        refine q_br (P := ¬ (h.1 25 12 6 0) = 0) (pcT := 50) (pcF := 35) (loc' := [some (.inr (.inr (25, 6, 0)))]) (stk' := []) (h' := h) 3 (fun _ _ => rfl) (fun c2 => ?_) (fun c2 => ?_)
        · rw [if_pos c2] at HF
          have hz := Option.some.inj HF
          subst hz
          exact q_rtn 3 (fun _ _ => rfl)
        · rw [if_neg c2] at HF
          refine q_br (P := ¬ (((h.1 25 11 6 0) >>> ((h.1 25 7 6 0) &&& 31)) &&& (1 : Int32)) = (1 : Int32)) (pcT := 54) (pcF := 50) (loc' := [some (.inr (.inr (25, 6, 0)))]) (stk' := []) (h' := h) 9 (fun _ _ => rfl) (fun c1 => ?_) (fun c1 => ?_)
          · rw [if_pos c1] at HF
            have hz := Option.some.inj HF
            subst hz
            exact q_rtn 2 (fun _ _ => rfl)
          · rw [if_neg c1] at HF
            have hz := Option.some.inj HF
            subst hz
            exact q_rtn 3 (fun _ _ => rfl)
  · rw [if_neg c6] at HF
    obtain ⟨g5, HF⟩ := q_gF HF
    have hz := Option.some.inj HF
    subst hz
    exact q_rtz 3 (fun _ _ => rfl) g5
def Tx_noteWord  (h : q_H) : Option q_H :=
  if (3 : Int32) ≤ (h.1 25 7 6 0) then (if ¬ (h.1 25 7 6 0) = (3 : Int32) then (some ((q_si h 25 13 6 0 (1 : Int32)))) else (some ((q_si h 25 12 6 0 (1 : Int32))))) else (some ((q_si h 25 11 6 0 ((h.1 25 11 6 0) ||| ((1 : Int32) <<< ((h.1 25 7 6 0) &&& 31))))))
set_option maxRecDepth 100000 in
set_option maxHeartbeats 4000000 in
theorem eTx_noteWord {d : Nat} (hd : 1 ≤ d)  {h : q_H} {r : q_H} (HF : Tx_noteWord  h = some r) : q_T d 129 [.inr (.inr (25, 6, 0))] h (none, r) := by
  obtain ⟨d, rfl⟩ : ∃ d', d = d' + 1 := ⟨d - 1, by omega⟩
  refine q_ent q_K129 rfl rfl rfl ?_
  unfold Tx_noteWord at HF
  refine q_br (P := (3 : Int32) ≤ (h.1 25 7 6 0)) (pcT := 26) (pcF := 8) (loc' := [some (.inr (.inr (25, 6, 0)))]) (stk' := []) (h' := h) 4 (fun _ _ => rfl) (fun c2 => ?_) (fun c2 => ?_)
  · rw [if_pos c2] at HF
    refine q_br (P := ¬ (h.1 25 7 6 0) = (3 : Int32)) (pcT := 42) (pcF := 34) (loc' := [some (.inr (.inr (25, 6, 0)))]) (stk' := []) (h' := h) 4 (fun _ _ => rfl) (fun c1 => ?_) (fun c1 => ?_)
    · rw [if_pos c1] at HF
      have hz := Option.some.inj HF
      subst hz
      exact q_rtn 4 (fun _ _ => rfl)
    · rw [if_neg c1] at HF
      have hz := Option.some.inj HF
      subst hz
      exact q_rtn 5 (fun _ _ => rfl)
  · rw [if_neg c2] at HF
    have hz := Option.some.inj HF
    subst hz
    exact q_rtn 11 (fun _ _ => rfl)
def Tx_numbersOf (a1 : Int32) (h : q_H) : Option Int32 :=
  if a1 = 3 then (some ((3 : Int32))) else (if a1 = 4 then (some ((0 : Int32))) else (if a1 = 5 then (some ((4 : Int32))) else (if a1 = 6 then (some ((5 : Int32))) else (if a1 = 7 then (some ((2 : Int32))) else (if a1 = 8 then (some ((1 : Int32))) else (if a1 = 9 then (some ((1 : Int32))) else (if a1 = 10 then (some ((1 : Int32))) else (if a1 = 11 then (some ((0 : Int32))) else (if a1 = 12 then (some ((2 : Int32))) else (if a1 = 13 then (some ((0 : Int32))) else (some ((1 : Int32)))))))))))))
set_option maxRecDepth 100000 in
set_option maxHeartbeats 4000000 in
theorem eTx_numbersOf {d : Nat} (hd : 1 ≤ d) {a1 : Int32} {h : q_H} {r : Int32} (HF : Tx_numbersOf a1 h = some r) : q_T d 140 [.inl a1] h (some (.inl r), h) := by
  obtain ⟨d, rfl⟩ : ∃ d', d = d' + 1 := ⟨d - 1, by omega⟩
  refine q_ent q_K140 rfl rfl rfl ?_
  unfold Tx_numbersOf at HF
  by_cases c1 : a1 = 3
  · rw [if_pos c1] at HF
    refine q_sw (o1 := 59) (pcx := 1) (pc' := 60) (loc' := [some (.inl a1)]) (stk' := []) (h' := h) 2 (fun _ _ => rfl) (q_tsI c1 rfl) rfl ?_
    have hz := Option.some.inj HF
    subst hz
    exact q_rtn 2 (fun _ _ => rfl)
  · rw [if_neg c1] at HF
    by_cases c2 : a1 = 4
    · rw [if_pos c2] at HF
      refine q_sw (o1 := 67) (pcx := 1) (pc' := 68) (loc' := [some (.inl a1)]) (stk' := []) (h' := h) 2 (fun _ _ => rfl) (q_tsI c2 rfl) rfl ?_
      have hz := Option.some.inj HF
      subst hz
      exact q_rtn 2 (fun _ _ => rfl)
    · rw [if_neg c2] at HF
      by_cases c3 : a1 = 5
      · rw [if_pos c3] at HF
        refine q_sw (o1 := 61) (pcx := 1) (pc' := 62) (loc' := [some (.inl a1)]) (stk' := []) (h' := h) 2 (fun _ _ => rfl) (q_tsI c3 rfl) rfl ?_
        have hz := Option.some.inj HF
        subst hz
        exact q_rtn 2 (fun _ _ => rfl)
      · rw [if_neg c3] at HF
        by_cases c4 : a1 = 6
        · rw [if_pos c4] at HF
          refine q_sw (o1 := 63) (pcx := 1) (pc' := 64) (loc' := [some (.inl a1)]) (stk' := []) (h' := h) 2 (fun _ _ => rfl) (q_tsI c4 rfl) rfl ?_
          have hz := Option.some.inj HF
          subst hz
          exact q_rtn 2 (fun _ _ => rfl)
        · rw [if_neg c4] at HF
          by_cases c5 : a1 = 7
          · rw [if_pos c5] at HF
            refine q_sw (o1 := 65) (pcx := 1) (pc' := 66) (loc' := [some (.inl a1)]) (stk' := []) (h' := h) 2 (fun _ _ => rfl) (q_tsI c5 rfl) rfl ?_
            have hz := Option.some.inj HF
            subst hz
            exact q_rtn 2 (fun _ _ => rfl)
          · rw [if_neg c5] at HF
            by_cases c6 : a1 = 8
            · rw [if_pos c6] at HF
              refine q_sw (o1 := 69) (pcx := 1) (pc' := 70) (loc' := [some (.inl a1)]) (stk' := []) (h' := h) 2 (fun _ _ => rfl) (q_tsI c6 rfl) rfl ?_
              have hz := Option.some.inj HF
              subst hz
              exact q_rtn 2 (fun _ _ => rfl)
            · rw [if_neg c6] at HF
              by_cases c7 : a1 = 9
              · rw [if_pos c7] at HF
                refine q_sw (o1 := 69) (pcx := 1) (pc' := 70) (loc' := [some (.inl a1)]) (stk' := []) (h' := h) 2 (fun _ _ => rfl) (q_tsI c7 rfl) rfl ?_
                have hz := Option.some.inj HF
                subst hz
                exact q_rtn 2 (fun _ _ => rfl)
              · rw [if_neg c7] at HF
                by_cases c8 : a1 = 10
                · rw [if_pos c8] at HF
                  refine q_sw (o1 := 69) (pcx := 1) (pc' := 70) (loc' := [some (.inl a1)]) (stk' := []) (h' := h) 2 (fun _ _ => rfl) (q_tsI c8 rfl) rfl ?_
                  have hz := Option.some.inj HF
                  subst hz
                  exact q_rtn 2 (fun _ _ => rfl)
                · rw [if_neg c8] at HF
                  by_cases c9 : a1 = 11
                  · rw [if_pos c9] at HF
                    refine q_sw (o1 := 67) (pcx := 1) (pc' := 68) (loc' := [some (.inl a1)]) (stk' := []) (h' := h) 2 (fun _ _ => rfl) (q_tsI c9 rfl) rfl ?_
                    have hz := Option.some.inj HF
                    subst hz
                    exact q_rtn 2 (fun _ _ => rfl)
                  · rw [if_neg c9] at HF
                    by_cases c10 : a1 = 12
                    · rw [if_pos c10] at HF
                      refine q_sw (o1 := 65) (pcx := 1) (pc' := 66) (loc' := [some (.inl a1)]) (stk' := []) (h' := h) 2 (fun _ _ => rfl) (q_tsI c10 rfl) rfl ?_
                      have hz := Option.some.inj HF
                      subst hz
                      exact q_rtn 2 (fun _ _ => rfl)
                    · rw [if_neg c10] at HF
                      by_cases c11 : a1 = 13
                      · rw [if_pos c11] at HF
                        refine q_sw (o1 := 67) (pcx := 1) (pc' := 68) (loc' := [some (.inl a1)]) (stk' := []) (h' := h) 2 (fun _ _ => rfl) (q_tsI c11 rfl) rfl ?_
                        have hz := Option.some.inj HF
                        subst hz
                        exact q_rtn 2 (fun _ _ => rfl)
                      · rw [if_neg c11] at HF
                        refine q_sw (o1 := 69) (pcx := 1) (pc' := 70) (loc' := [some (.inl a1)]) (stk' := []) (h' := h) 2 (fun _ _ => rfl) (q_tsD (a := a1) (lo := 3) (hi := 13) (by have z0 := q_neI c1 (a := 3) rfl; have z1 := q_neI c2 (a := 4) rfl; have z2 := q_neI c3 (a := 5) rfl; have z3 := q_neI c4 (a := 6) rfl; have z4 := q_neI c5 (a := 7) rfl; have z5 := q_neI c6 (a := 8) rfl; have z6 := q_neI c7 (a := 9) rfl; have z7 := q_neI c8 (a := 10) rfl; have z8 := q_neI c9 (a := 11) rfl; have z9 := q_neI c10 (a := 12) rfl; have z10 := q_neI c11 (a := 13) rfl; omega)) rfl ?_
                        have hz := Option.some.inj HF
                        subst hz
                        exact q_rtn 2 (fun _ _ => rfl)
def Tx_spelling (a1 : Int32) (h : q_H) : Option Nat :=
  if a1 = 0 then (some (0)) else (if a1 = 1 then (some (1)) else (if a1 = 2 then (some (2)) else (if a1 = 3 then (some (3)) else (if a1 = 4 then (some (4)) else (if a1 = 5 then (some (5)) else (if a1 = 6 then (some (6)) else (if a1 = 7 then (some (7)) else (if a1 = 8 then (some (8)) else (if a1 = 9 then (some (9)) else (if a1 = 10 then (some (10)) else (if a1 = 11 then (some (11)) else (if a1 = 12 then (some (12)) else (some (13))))))))))))))
set_option maxRecDepth 100000 in
set_option maxHeartbeats 4000000 in
theorem eTx_spelling {d : Nat} (hd : 1 ≤ d) {a1 : Int32} {h : q_H} {r : Nat} (HF : Tx_spelling a1 h = some r) : q_T d 141 [.inl a1] h (some (.inr (.inr (60, 0, r))), h) := by
  obtain ⟨d, rfl⟩ : ∃ d', d = d' + 1 := ⟨d - 1, by omega⟩
  refine q_ent q_K141 rfl rfl rfl ?_
  unfold Tx_spelling at HF
  by_cases c1 : a1 = 0
  · rw [if_pos c1] at HF
    refine q_sw (o1 := 67) (pcx := 1) (pc' := 68) (loc' := [some (.inl a1)]) (stk' := []) (h' := h) 2 (fun _ _ => rfl) (q_tsI c1 rfl) rfl ?_
    have hz := Option.some.inj HF
    subst hz
    exact q_rtn 2 (fun _ _ => rfl)
  · rw [if_neg c1] at HF
    by_cases c2 : a1 = 1
    · rw [if_pos c2] at HF
      refine q_sw (o1 := 70) (pcx := 1) (pc' := 71) (loc' := [some (.inl a1)]) (stk' := []) (h' := h) 2 (fun _ _ => rfl) (q_tsI c2 rfl) rfl ?_
      have hz := Option.some.inj HF
      subst hz
      exact q_rtn 2 (fun _ _ => rfl)
    · rw [if_neg c2] at HF
      by_cases c3 : a1 = 2
      · rw [if_pos c3] at HF
        refine q_sw (o1 := 73) (pcx := 1) (pc' := 74) (loc' := [some (.inl a1)]) (stk' := []) (h' := h) 2 (fun _ _ => rfl) (q_tsI c3 rfl) rfl ?_
        have hz := Option.some.inj HF
        subst hz
        exact q_rtn 2 (fun _ _ => rfl)
      · rw [if_neg c3] at HF
        by_cases c4 : a1 = 3
        · rw [if_pos c4] at HF
          refine q_sw (o1 := 76) (pcx := 1) (pc' := 77) (loc' := [some (.inl a1)]) (stk' := []) (h' := h) 2 (fun _ _ => rfl) (q_tsI c4 rfl) rfl ?_
          have hz := Option.some.inj HF
          subst hz
          exact q_rtn 2 (fun _ _ => rfl)
        · rw [if_neg c4] at HF
          by_cases c5 : a1 = 4
          · rw [if_pos c5] at HF
            refine q_sw (o1 := 79) (pcx := 1) (pc' := 80) (loc' := [some (.inl a1)]) (stk' := []) (h' := h) 2 (fun _ _ => rfl) (q_tsI c5 rfl) rfl ?_
            have hz := Option.some.inj HF
            subst hz
            exact q_rtn 2 (fun _ _ => rfl)
          · rw [if_neg c5] at HF
            by_cases c6 : a1 = 5
            · rw [if_pos c6] at HF
              refine q_sw (o1 := 82) (pcx := 1) (pc' := 83) (loc' := [some (.inl a1)]) (stk' := []) (h' := h) 2 (fun _ _ => rfl) (q_tsI c6 rfl) rfl ?_
              have hz := Option.some.inj HF
              subst hz
              exact q_rtn 2 (fun _ _ => rfl)
            · rw [if_neg c6] at HF
              by_cases c7 : a1 = 6
              · rw [if_pos c7] at HF
                refine q_sw (o1 := 85) (pcx := 1) (pc' := 86) (loc' := [some (.inl a1)]) (stk' := []) (h' := h) 2 (fun _ _ => rfl) (q_tsI c7 rfl) rfl ?_
                have hz := Option.some.inj HF
                subst hz
                exact q_rtn 2 (fun _ _ => rfl)
              · rw [if_neg c7] at HF
                by_cases c8 : a1 = 7
                · rw [if_pos c8] at HF
                  refine q_sw (o1 := 88) (pcx := 1) (pc' := 89) (loc' := [some (.inl a1)]) (stk' := []) (h' := h) 2 (fun _ _ => rfl) (q_tsI c8 rfl) rfl ?_
                  have hz := Option.some.inj HF
                  subst hz
                  exact q_rtn 2 (fun _ _ => rfl)
                · rw [if_neg c8] at HF
                  by_cases c9 : a1 = 8
                  · rw [if_pos c9] at HF
                    refine q_sw (o1 := 91) (pcx := 1) (pc' := 92) (loc' := [some (.inl a1)]) (stk' := []) (h' := h) 2 (fun _ _ => rfl) (q_tsI c9 rfl) rfl ?_
                    have hz := Option.some.inj HF
                    subst hz
                    exact q_rtn 2 (fun _ _ => rfl)
                  · rw [if_neg c9] at HF
                    by_cases c10 : a1 = 9
                    · rw [if_pos c10] at HF
                      refine q_sw (o1 := 94) (pcx := 1) (pc' := 95) (loc' := [some (.inl a1)]) (stk' := []) (h' := h) 2 (fun _ _ => rfl) (q_tsI c10 rfl) rfl ?_
                      have hz := Option.some.inj HF
                      subst hz
                      exact q_rtn 2 (fun _ _ => rfl)
                    · rw [if_neg c10] at HF
                      by_cases c11 : a1 = 10
                      · rw [if_pos c11] at HF
                        refine q_sw (o1 := 97) (pcx := 1) (pc' := 98) (loc' := [some (.inl a1)]) (stk' := []) (h' := h) 2 (fun _ _ => rfl) (q_tsI c11 rfl) rfl ?_
                        have hz := Option.some.inj HF
                        subst hz
                        exact q_rtn 2 (fun _ _ => rfl)
                      · rw [if_neg c11] at HF
                        by_cases c12 : a1 = 11
                        · rw [if_pos c12] at HF
                          refine q_sw (o1 := 100) (pcx := 1) (pc' := 101) (loc' := [some (.inl a1)]) (stk' := []) (h' := h) 2 (fun _ _ => rfl) (q_tsI c12 rfl) rfl ?_
                          have hz := Option.some.inj HF
                          subst hz
                          exact q_rtn 2 (fun _ _ => rfl)
                        · rw [if_neg c12] at HF
                          by_cases c13 : a1 = 12
                          · rw [if_pos c13] at HF
                            refine q_sw (o1 := 103) (pcx := 1) (pc' := 104) (loc' := [some (.inl a1)]) (stk' := []) (h' := h) 2 (fun _ _ => rfl) (q_tsI c13 rfl) rfl ?_
                            have hz := Option.some.inj HF
                            subst hz
                            exact q_rtn 2 (fun _ _ => rfl)
                          · rw [if_neg c13] at HF
                            refine q_sw (o1 := 106) (pcx := 1) (pc' := 107) (loc' := [some (.inl a1)]) (stk' := []) (h' := h) 2 (fun _ _ => rfl) (q_tsD (a := a1) (lo := 0) (hi := 12) (by have z0 := q_neI c1 (a := 0) rfl; have z1 := q_neI c2 (a := 1) rfl; have z2 := q_neI c3 (a := 2) rfl; have z3 := q_neI c4 (a := 3) rfl; have z4 := q_neI c5 (a := 4) rfl; have z5 := q_neI c6 (a := 5) rfl; have z6 := q_neI c7 (a := 6) rfl; have z7 := q_neI c8 (a := 7) rfl; have z8 := q_neI c9 (a := 8) rfl; have z9 := q_neI c10 (a := 9) rfl; have z10 := q_neI c11 (a := 10) rfl; have z11 := q_neI c12 (a := 11) rfl; have z12 := q_neI c13 (a := 12) rfl; omega)) rfl ?_
                            have hz := Option.some.inj HF
                            subst hz
                            exact q_rtn 2 (fun _ _ => rfl)
def St_hasRow (k : Nat) (a1 : Int32) (h : q_H) : Option Int32 :=
  if a1 < 0 then (some ((0 : Int32))) else (if (h.1 0 7 k 0) ≤ a1 then (some ((0 : Int32))) else (some ((1 : Int32))))
set_option maxRecDepth 100000 in
set_option maxHeartbeats 4000000 in
theorem eSt_hasRow {d : Nat} (hd : 1 ≤ d) {k : Nat} {a1 : Int32} {h : q_H} {r : Int32} (HF : St_hasRow k a1 h = some r) : q_T d 144 [.inr (.inr (0, k, 0)), .inl a1] h (some (.inl r), h) := by
  obtain ⟨d, rfl⟩ : ∃ d', d = d' + 1 := ⟨d - 1, by omega⟩
  refine q_ent q_K144 rfl rfl rfl ?_
  unfold St_hasRow at HF
  refine q_br (P := a1 < 0) (pcT := 16) (pcF := 4) (loc' := [some (.inr (.inr (0, k, 0))), some (.inl a1)]) (stk' := []) (h' := h) 2 (fun _ _ => rfl) (fun c2 => ?_) (fun c2 => ?_)
  · rw [if_pos c2] at HF
    have hz := Option.some.inj HF
    subst hz
    exact q_rtn 2 (fun _ _ => rfl)
  · rw [if_neg c2] at HF
    refine q_br (P := (h.1 0 7 k 0) ≤ a1) (pcT := 16) (pcF := 12) (loc' := [some (.inr (.inr (0, k, 0))), some (.inl a1)]) (stk' := []) (h' := h) 4 (fun _ _ => rfl) (fun c1 => ?_) (fun c1 => ?_)
    · rw [if_pos c1] at HF
      have hz := Option.some.inj HF
      subst hz
      exact q_rtn 2 (fun _ _ => rfl)
    · rw [if_neg c1] at HF
      have hz := Option.some.inj HF
      subst hz
      exact q_rtn 3 (fun _ _ => rfl)
def St_isAhead (k : Nat) (a1 : Int32) (a2 : Int32) (k3 : Nat) (i3 : Nat) (h : q_H) : Option Int32 :=
  if a1 < (h.1 3 3 k3 i3) then (some ((1 : Int32))) else (if ¬ a1 = (h.1 3 3 k3 i3) then (some ((0 : Int32))) else (if (h.1 3 2 k3 i3) ≤ a2 then (some ((0 : Int32))) else (some ((1 : Int32)))))
set_option maxRecDepth 100000 in
set_option maxHeartbeats 4000000 in
theorem eSt_isAhead {d : Nat} (hd : 1 ≤ d) {k : Nat} {a1 : Int32} {a2 : Int32} {k3 : Nat} {i3 : Nat} {h : q_H} {r : Int32} (HF : St_isAhead k a1 a2 k3 i3 h = some r) : q_T d 180 [.inr (.inr (0, k, 0)), .inl a1, .inl a2, .inr (.inr (3, k3, i3))] h (some (.inl r), h) := by
  obtain ⟨d, rfl⟩ : ∃ d', d = d' + 1 := ⟨d - 1, by omega⟩
  refine q_ent q_K180 rfl rfl rfl ?_
  unfold St_isAhead at HF
  refine q_br (P := a1 < (h.1 3 3 k3 i3)) (pcT := 24) (pcF := 8) (loc' := [some (.inr (.inr (0, k, 0))), some (.inl a1), some (.inl a2), some (.inr (.inr (3, k3, i3)))]) (stk' := []) (h' := h) 4 (fun _ _ => rfl) (fun c3 => ?_) (fun c3 => ?_)
  · rw [if_pos c3] at HF
    have hz := Option.some.inj HF
    subst hz
    exact q_rtn 3 (fun _ _ => rfl)
  · rw [if_neg c3] at HF
    refine q_br (P := ¬ a1 = (h.1 3 3 k3 i3)) (pcT := 28) (pcF := 16) (loc' := [some (.inr (.inr (0, k, 0))), some (.inl a1), some (.inl a2), some (.inr (.inr (3, k3, i3)))]) (stk' := []) (h' := h) 4 (fun _ _ => rfl) (fun c2 => ?_) (fun c2 => ?_)
    · rw [if_pos c2] at HF
      have hz := Option.some.inj HF
      subst hz
      exact q_rtn 2 (fun _ _ => rfl)
    · rw [if_neg c2] at HF
      refine q_br (P := (h.1 3 2 k3 i3) ≤ a2) (pcT := 28) (pcF := 24) (loc' := [some (.inr (.inr (0, k, 0))), some (.inl a1), some (.inl a2), some (.inr (.inr (3, k3, i3)))]) (stk' := []) (h' := h) 4 (fun _ _ => rfl) (fun c1 => ?_) (fun c1 => ?_)
      · rw [if_pos c1] at HF
        have hz := Option.some.inj HF
        subst hz
        exact q_rtn 2 (fun _ _ => rfl)
      · rw [if_neg c1] at HF
        have hz := Option.some.inj HF
        subst hz
        exact q_rtn 3 (fun _ _ => rfl)
def Mo_status  (h : q_H) : Option (Int32 × q_H) :=
  some ((((q_si h 30 7 7 0 (0 : Int32)).1 30 6 7 0), (q_si h 30 7 7 0 (0 : Int32))))
set_option maxRecDepth 100000 in
set_option maxHeartbeats 4000000 in
theorem eMo_status {d : Nat} (hd : 1 ≤ d)  {h : q_H} {r : (Int32 × q_H)} (HF : Mo_status  h = some r) : q_T d 181 [.inr (.inr (30, 7, 0))] h (some (.inl r.1), r.2) := by
  obtain ⟨d, rfl⟩ : ∃ d', d = d' + 1 := ⟨d - 1, by omega⟩
  refine q_ent q_K181 rfl rfl rfl ?_
  unfold Mo_status at HF
  have hz := Option.some.inj HF
  subst hz
  exact q_rtn 6 (fun _ _ => rfl)
def Mo_refuse (a1 : Int32) (h : q_H) : Option (Int32 × q_H) :=
  some (((-1 : Int32), (q_si h 30 6 7 0 a1)))
set_option maxRecDepth 100000 in
set_option maxHeartbeats 4000000 in
theorem eMo_refuse {d : Nat} (hd : 1 ≤ d) {a1 : Int32} {h : q_H} {r : (Int32 × q_H)} (HF : Mo_refuse a1 h = some r) : q_T d 182 [.inr (.inr (30, 7, 0)), .inl a1] h (some (.inl r.1), r.2) := by
  obtain ⟨d, rfl⟩ : ∃ d', d = d' + 1 := ⟨d - 1, by omega⟩
  refine q_ent q_K182 rfl rfl rfl ?_
  unfold Mo_refuse at HF
  have hz := Option.some.inj HF
  subst hz
  exact q_rtn 5 (fun _ _ => rfl)
def Mo_is (a1 : Int32) (h : q_H) : Option (Int32 × q_H) :=
  if ¬ a1 = 0 then (some (((0 : Int32), (q_si (q_si h 30 7 7 0 (0 : Int32)) 30 6 7 0 a1)))) else (some (((1 : Int32), (q_si (q_si h 30 7 7 0 (0 : Int32)) 30 6 7 0 a1))))
set_option maxRecDepth 100000 in
set_option maxHeartbeats 4000000 in
theorem eMo_is {d : Nat} (hd : 1 ≤ d) {a1 : Int32} {h : q_H} {r : (Int32 × q_H)} (HF : Mo_is a1 h = some r) : q_T d 183 [.inr (.inr (30, 7, 0)), .inl a1] h (some (.inl r.1), r.2) := by
  obtain ⟨d, rfl⟩ : ∃ d', d = d' + 1 := ⟨d - 1, by omega⟩
  refine q_ent q_K183 rfl rfl rfl ?_
  unfold Mo_is at HF
  refine q_br (P := ¬ a1 = 0) (pcT := 18) (pcF := 14) (loc' := [some (.inr (.inr (30, 7, 0))), some (.inl a1)]) (stk' := []) (h' := (q_si (q_si h 30 7 7 0 (0 : Int32)) 30 6 7 0 a1)) 8 (fun _ _ => rfl) (fun c1 => ?_) (fun c1 => ?_)
  · rw [if_pos c1] at HF
    have hz := Option.some.inj HF
    subst hz
    exact q_rtn 2 (fun _ _ => rfl)
  · rw [if_neg c1] at HF
    have hz := Option.some.inj HF
    subst hz
    exact q_rtn 3 (fun _ _ => rfl)
def Mo_isIn (a1 : Int32) (a2 : Int32) (a3 : Int32) (h : q_H) : Option Int32 :=
  if a1 < a2 then (some ((0 : Int32))) else (if a3 < a1 then (some ((0 : Int32))) else (some ((1 : Int32))))
set_option maxRecDepth 100000 in
set_option maxHeartbeats 4000000 in
theorem eMo_isIn {d : Nat} (hd : 1 ≤ d) {a1 : Int32} {a2 : Int32} {a3 : Int32} {h : q_H} {r : Int32} (HF : Mo_isIn a1 a2 a3 h = some r) : q_T d 184 [.inl a1, .inl a2, .inl a3] h (some (.inl r), h) := by
  obtain ⟨d, rfl⟩ : ∃ d', d = d' + 1 := ⟨d - 1, by omega⟩
  refine q_ent q_K184 rfl rfl rfl ?_
  unfold Mo_isIn at HF
  refine q_br (P := a1 < a2) (pcT := 14) (pcF := 5) (loc' := [some (.inl a1), some (.inl a2), some (.inl a3)]) (stk' := []) (h' := h) 3 (fun _ _ => rfl) (fun c2 => ?_) (fun c2 => ?_)
  · rw [if_pos c2] at HF
    have hz := Option.some.inj HF
    subst hz
    exact q_rtn 2 (fun _ _ => rfl)
  · rw [if_neg c2] at HF
    refine q_br (P := a3 < a1) (pcT := 14) (pcF := 10) (loc' := [some (.inl a1), some (.inl a2), some (.inl a3)]) (stk' := []) (h' := h) 3 (fun _ _ => rfl) (fun c1 => ?_) (fun c1 => ?_)
    · rw [if_pos c1] at HF
      have hz := Option.some.inj HF
      subst hz
      exact q_rtn 2 (fun _ _ => rfl)
    · rw [if_neg c1] at HF
      have hz := Option.some.inj HF
      subst hz
      exact q_rtn 3 (fun _ _ => rfl)
def Mo_clears  (h : q_H) : Option q_H :=
  (q_lp (fun s1 : Int32 × q_H => (if (1644 : Int32) ≤ s1.1 then (some (.inr ((q_si (q_si (q_si (q_si (q_si s1.2 31 0 7 0 (64 : Int32)) 31 0 7 1 (3 : Int32)) 31 0 7 2 (5 : Int32)) 31 0 7 4 (2 : Int32)) 31 0 7 1055 (1 : Int32))))) else (bif q_in s1.1 1644 then (some (.inl ((s1.1 + (1 : Int32)), (q_si s1.2 31 0 7 s1.1.toNatClampNeg (0 : Int32))))) else none) : Option ((Int32 × q_H) ⊕ q_H))) q_fu (((0 : Int32), h) : Int32 × q_H)).bind fun z8 => some z8
set_option maxRecDepth 100000 in
set_option maxHeartbeats 4000000 in
theorem eMo_clears {d : Nat} (hd : 1 ≤ d)  {h : q_H} {r : q_H} (HF : Mo_clears  h = some r) : q_T d 185 [.inr (.inr (30, 7, 0))] h (none, r) := by
  obtain ⟨d, rfl⟩ : ∃ d', d = d' + 1 := ⟨d - 1, by omega⟩
  refine q_ent q_K185 rfl rfl rfl ?_
  unfold Mo_clears at HF
  refine q_blk (pc' := 2) (loc' := [some (.inr (.inr (30, 7, 0))), some (.inl (0 : Int32))]) (stk' := []) (h' := h) 2 (fun _ _ => rfl) ?_
  obtain ⟨r6, hl7, HK4⟩ := q_bind HF
  refine q_lpE (E := fun s1 => q_E d q_K185 2 [some (.inr (.inr (30, 7, 0))), some (.inl s1.1)] [] s1.2 (none, r)) r6 (fun s1 z8 HF H12 H23 => ?_) _ _ hl7
  refine q_br (P := (1644 : Int32) ≤ s1.1) (pcT := 22) (pcF := 9) (loc' := [some (.inr (.inr (30, 7, 0))), some (.inl s1.1)]) (stk' := []) (h' := s1.2) 3 (fun _ _ => rfl) (fun c10 => ?_) (fun c10 => ?_)
  · rw [if_pos c10] at HF
    have hz := Option.some.inj HF
    subst hz
    replace HF := HK4
    rw [← H23 _ rfl] at HF
    have hz := Option.some.inj HF
    subst hz
    exact q_rtn 26 (fun _ _ => rfl)
  · rw [if_neg c10] at HF
    obtain ⟨g9, HF⟩ := q_gF HF
    refine q_gd (pc' := 16) (loc' := [some (.inr (.inr (30, 7, 0))), some (.inl s1.1)]) (stk' := []) (h' := (q_si s1.2 31 0 7 s1.1.toNatClampNeg (0 : Int32))) 5 (fun _ _ => rfl) g9 ?_
    refine q_blk (pc' := 2) (loc' := [some (.inr (.inr (30, 7, 0))), some (.inl (s1.1 + (1 : Int32)))]) (stk' := []) (h' := (q_si s1.2 31 0 7 s1.1.toNatClampNeg (0 : Int32))) 2 (fun _ _ => rfl) ?_
    have hz := Option.some.inj HF
    subst hz
    exact H12 ((s1.1 + (1 : Int32)), (q_si s1.2 31 0 7 s1.1.toNatClampNeg (0 : Int32))) rfl
def Mo_copy (t1 : Nat) (k1 : Nat) (t2 : Nat) (k2 : Nat) (h : q_H) : Option q_H :=
  (q_lp (fun s1 : Int32 × q_H => (if (1644 : Int32) ≤ s1.1 then (some (.inr (s1.2))) else (bif (Nat.beq (q_at t1) 0 && q_in s1.1 (q_al t1)) then (bif (Nat.beq (q_at t2) 0 && q_in s1.1 (q_al t2)) then (some (.inl ((s1.1 + (1 : Int32)), (q_si s1.2 t2 0 k2 s1.1.toNatClampNeg (s1.2.1 t1 0 k1 s1.1.toNatClampNeg))))) else none) else none) : Option ((Int32 × q_H) ⊕ q_H))) q_fu (((0 : Int32), h) : Int32 × q_H)).bind fun z8 => some z8
set_option maxRecDepth 100000 in
set_option maxHeartbeats 4000000 in
theorem eMo_copy {d : Nat} (hd : 1 ≤ d) {t1 : Nat} {k1 : Nat} {t2 : Nat} {k2 : Nat} {h : q_H} {r : q_H} (HF : Mo_copy t1 k1 t2 k2 h = some r) : q_T d 186 [.inr (.inr (t1, k1, 0)), .inr (.inr (t2, k2, 0))] h (none, r) := by
  obtain ⟨d, rfl⟩ : ∃ d', d = d' + 1 := ⟨d - 1, by omega⟩
  refine q_ent q_K186 rfl rfl rfl ?_
  unfold Mo_copy at HF
  refine q_blk (pc' := 2) (loc' := [some (.inr (.inr (t1, k1, 0))), some (.inr (.inr (t2, k2, 0))), some (.inl (0 : Int32))]) (stk' := []) (h' := h) 2 (fun _ _ => rfl) ?_
  obtain ⟨r6, hl7, HK4⟩ := q_bind HF
  refine q_lpE (E := fun s1 => q_E d q_K186 2 [some (.inr (.inr (t1, k1, 0))), some (.inr (.inr (t2, k2, 0))), some (.inl s1.1)] [] s1.2 (none, r)) r6 (fun s1 z8 HF H12 H23 => ?_) _ _ hl7
  refine q_br (P := (1644 : Int32) ≤ s1.1) (pcT := 21) (pcF := 9) (loc' := [some (.inr (.inr (t1, k1, 0))), some (.inr (.inr (t2, k2, 0))), some (.inl s1.1)]) (stk' := []) (h' := s1.2) 3 (fun _ _ => rfl) (fun c11 => ?_) (fun c11 => ?_)
  · rw [if_pos c11] at HF
    have hz := Option.some.inj HF
    subst hz
    replace HF := HK4
    rw [← H23 _ rfl] at HF
    have hz := Option.some.inj HF
    subst hz
    exact q_rtn 1 (fun _ _ => rfl)
  · rw [if_neg c11] at HF
    obtain ⟨g10, HF⟩ := q_gF HF
    rw [Bool.and_eq_true] at g10
    refine q_gd2 (pc' := 14) (loc' := [some (.inr (.inr (t1, k1, 0))), some (.inr (.inr (t2, k2, 0))), some (.inl s1.1)]) (stk' := [.inl (s1.2.1 t1 0 k1 s1.1.toNatClampNeg), .inl s1.1, .inr (.inr (t2, k2, 0))]) (h' := s1.2) 5 (fun _ _ => rfl) g10.1 g10.2 ?_
    obtain ⟨g9, HF⟩ := q_gF HF
    rw [Bool.and_eq_true] at g9
    refine q_gd2 (pc' := 15) (loc' := [some (.inr (.inr (t1, k1, 0))), some (.inr (.inr (t2, k2, 0))), some (.inl s1.1)]) (stk' := []) (h' := (q_si s1.2 t2 0 k2 s1.1.toNatClampNeg (s1.2.1 t1 0 k1 s1.1.toNatClampNeg))) 1 (fun _ _ => rfl) g9.1 g9.2 ?_
    refine q_blk (pc' := 2) (loc' := [some (.inr (.inr (t1, k1, 0))), some (.inr (.inr (t2, k2, 0))), some (.inl (s1.1 + (1 : Int32)))]) (stk' := []) (h' := (q_si s1.2 t2 0 k2 s1.1.toNatClampNeg (s1.2.1 t1 0 k1 s1.1.toNatClampNeg))) 2 (fun _ _ => rfl) ?_
    have hz := Option.some.inj HF
    subst hz
    exact H12 ((s1.1 + (1 : Int32)), (q_si s1.2 t2 0 k2 s1.1.toNatClampNeg (s1.2.1 t1 0 k1 s1.1.toNatClampNeg))) rfl
def Mo_of (a1 : Int32) (a2 : Int32) (h : q_H) : Option Int32 :=
  bif q_in (((32 : Int32) + ((13 : Int32) * a1)) + a2) 1644 then (some ((h.1 31 0 7 (((32 : Int32) + ((13 : Int32) * a1)) + a2).toNatClampNeg))) else none
set_option maxRecDepth 100000 in
set_option maxHeartbeats 4000000 in
theorem eMo_of {d : Nat} (hd : 1 ≤ d) {a1 : Int32} {a2 : Int32} {h : q_H} {r : Int32} (HF : Mo_of a1 a2 h = some r) : q_T d 187 [.inr (.inr (30, 7, 0)), .inl a1, .inl a2] h (some (.inl r), h) := by
  obtain ⟨d, rfl⟩ : ∃ d', d = d' + 1 := ⟨d - 1, by omega⟩
  refine q_ent q_K187 rfl rfl rfl ?_
  unfold Mo_of at HF
  obtain ⟨g1, HF⟩ := q_gF HF
  refine q_gd (pc' := 14) (loc' := [some (.inr (.inr (30, 7, 0))), some (.inl a1), some (.inl a2)]) (stk' := [.inl (h.1 31 0 7 (((32 : Int32) + ((13 : Int32) * a1)) + a2).toNatClampNeg)]) (h' := h) 10 (fun _ _ => rfl) g1 ?_
  have hz := Option.some.inj HF
  subst hz
  exact q_rtn 1 (fun _ _ => rfl)
def Mo_sets (a1 : Int32) (a2 : Int32) (a3 : Int32) (h : q_H) : Option q_H :=
  bif q_in (((32 : Int32) + ((13 : Int32) * a1)) + a2) 1644 then (some ((q_si h 31 0 7 (((32 : Int32) + ((13 : Int32) * a1)) + a2).toNatClampNeg a3))) else none
set_option maxRecDepth 100000 in
set_option maxHeartbeats 4000000 in
theorem eMo_sets {d : Nat} (hd : 1 ≤ d) {a1 : Int32} {a2 : Int32} {a3 : Int32} {h : q_H} {r : q_H} (HF : Mo_sets a1 a2 a3 h = some r) : q_T d 188 [.inr (.inr (30, 7, 0)), .inl a1, .inl a2, .inl a3] h (none, r) := by
  obtain ⟨d, rfl⟩ : ∃ d', d = d' + 1 := ⟨d - 1, by omega⟩
  refine q_ent q_K188 rfl rfl rfl ?_
  unfold Mo_sets at HF
  obtain ⟨g1, HF⟩ := q_gF HF
  refine q_gd (pc' := 15) (loc' := [some (.inr (.inr (30, 7, 0))), some (.inl a1), some (.inl a2), some (.inl a3)]) (stk' := []) (h' := (q_si h 31 0 7 (((32 : Int32) + ((13 : Int32) * a1)) + a2).toNatClampNeg a3)) 11 (fun _ _ => rfl) g1 ?_
  have hz := Option.some.inj HF
  subst hz
  exact q_rtn 1 (fun _ _ => rfl)
def Mo_isSlot (a1 : Int32) (h : q_H) : Option Int32 :=
  bif q_in ((17 : Int32) + (a1 / (10 : Int32))) 1644 then (if (h.1 31 0 7 ((17 : Int32) + (a1 / (10 : Int32))).toNatClampNeg) ≤ (a1 - a1 / (10 : Int32) * (10 : Int32)) then (some ((0 : Int32))) else (some ((1 : Int32)))) else none
set_option maxRecDepth 100000 in
set_option maxHeartbeats 4000000 in
theorem eMo_isSlot {d : Nat} (hd : 1 ≤ d) {a1 : Int32} {h : q_H} {r : Int32} (HF : Mo_isSlot a1 h = some r) : q_T d 190 [.inr (.inr (30, 7, 0)), .inl a1] h (some (.inl r), h) := by
  obtain ⟨d, rfl⟩ : ∃ d', d = d' + 1 := ⟨d - 1, by omega⟩
  refine q_ent q_K190 rfl rfl rfl ?_
  unfold Mo_isSlot at HF
  obtain ⟨g2, HF⟩ := q_gF HF
  refine q_gd (pc' := 16) (loc' := [some (.inr (.inr (30, 7, 0))), some (.inl a1)]) (stk' := [.inl (h.1 31 0 7 ((17 : Int32) + (a1 / (10 : Int32))).toNatClampNeg), .inl (a1 - a1 / (10 : Int32) * (10 : Int32))]) (h' := h) 11 (fun _ _ => rfl) g2 ?_
  refine q_br (P := (h.1 31 0 7 ((17 : Int32) + (a1 / (10 : Int32))).toNatClampNeg) ≤ (a1 - a1 / (10 : Int32) * (10 : Int32))) (pcT := 23) (pcF := 19) (loc' := [some (.inr (.inr (30, 7, 0))), some (.inl a1)]) (stk' := []) (h' := h) 1 (fun _ _ => rfl) (fun c1 => ?_) (fun c1 => ?_)
  · rw [if_pos c1] at HF
    have hz := Option.some.inj HF
    subst hz
    exact q_rtn 2 (fun _ _ => rfl)
  · rw [if_neg c1] at HF
    have hz := Option.some.inj HF
    subst hz
    exact q_rtn 3 (fun _ _ => rfl)
def Mo_stateOf (a1 : Int32) (h : q_H) : Option Int32 :=
  bif q_in ((1052 : Int32) + ((3 : Int32) * a1)) 1644 then (some ((h.1 31 0 7 ((1052 : Int32) + ((3 : Int32) * a1)).toNatClampNeg))) else none
set_option maxRecDepth 100000 in
set_option maxHeartbeats 4000000 in
theorem eMo_stateOf {d : Nat} (hd : 1 ≤ d) {a1 : Int32} {h : q_H} {r : Int32} (HF : Mo_stateOf a1 h = some r) : q_T d 196 [.inr (.inr (30, 7, 0)), .inl a1] h (some (.inl r), h) := by
  obtain ⟨d, rfl⟩ : ∃ d', d = d' + 1 := ⟨d - 1, by omega⟩
  refine q_ent q_K196 rfl rfl rfl ?_
  unfold Mo_stateOf at HF
  obtain ⟨g1, HF⟩ := q_gF HF
  refine q_gd (pc' := 12) (loc' := [some (.inr (.inr (30, 7, 0))), some (.inl a1)]) (stk' := [.inl (h.1 31 0 7 ((1052 : Int32) + ((3 : Int32) * a1)).toNatClampNeg)]) (h' := h) 8 (fun _ _ => rfl) g1 ?_
  have hz := Option.some.inj HF
  subst hz
  exact q_rtn 1 (fun _ _ => rfl)
def Mo_noted (a1 : Int32) (a2 : Int32) (h : q_H) : Option Int32 :=
  Option.bind (α := Int32) (if a2 ≤ (30 : Int32) then (some ((1 : Int32))) else (some ((2 : Int32)))) (fun p6 => bif q_in (((1052 : Int32) + ((3 : Int32) * a1)) + p6) 1644 then (Option.bind (α := Int32) (if a2 ≤ (30 : Int32) then (some ((a2 - (1 : Int32)))) else (some ((a2 - (31 : Int32))))) (fun p12 => if ¬ (((h.1 31 0 7 (((1052 : Int32) + ((3 : Int32) * a1)) + p6).toNatClampNeg) >>> (p12 &&& 31)) &&& (1 : Int32)) = (1 : Int32) then (some ((0 : Int32))) else (some ((1 : Int32))))) else none)
set_option maxRecDepth 100000 in
set_option maxHeartbeats 4000000 in
theorem eMo_noted {d : Nat} (hd : 1 ≤ d) {a1 : Int32} {a2 : Int32} {h : q_H} {r : Int32} (HF : Mo_noted a1 a2 h = some r) : q_T d 199 [.inr (.inr (30, 7, 0)), .inl a1, .inl a2] h (some (.inl r), h) := by
  obtain ⟨d, rfl⟩ : ∃ d', d = d' + 1 := ⟨d - 1, by omega⟩
  refine q_ent q_K199 rfl rfl rfl ?_
  unfold Mo_noted at HF
  obtain ⟨z1, HA2, HK3⟩ := q_bind HF
  have hP4 : ∀ p6 : Int32, (bif q_in (((1052 : Int32) + ((3 : Int32) * a1)) + p6) 1644 then (Option.bind (α := Int32) (if a2 ≤ (30 : Int32) then (some ((a2 - (1 : Int32)))) else (some ((a2 - (31 : Int32))))) (fun p12 => if ¬ (((h.1 31 0 7 (((1052 : Int32) + ((3 : Int32) * a1)) + p6).toNatClampNeg) >>> (p12 &&& 31)) &&& (1 : Int32)) = (1 : Int32) then (some ((0 : Int32))) else (some ((1 : Int32))))) else none : Option Int32) = some r → q_E d q_K199 22 [some (.inr (.inr (30, 7, 0))), some (.inl a1), some (.inl a2)] [.inl p6, .inl ((1052 : Int32) + ((3 : Int32) * a1)), .inr (.inr (31, 7, 0))] h (some (.inl r), h) := by
    intro p6 HF
    obtain ⟨g15, HF⟩ := q_gF HF
    refine q_gd (pc' := 24) (loc' := [some (.inr (.inr (30, 7, 0))), some (.inl a1), some (.inl a2)]) (stk' := [.inl (h.1 31 0 7 (((1052 : Int32) + ((3 : Int32) * a1)) + p6).toNatClampNeg)]) (h' := h) 2 (fun _ _ => rfl) g15 ?_
    obtain ⟨z7, HA8, HK9⟩ := q_bind HF
    have hP10 : ∀ p12 : Int32, (if ¬ (((h.1 31 0 7 (((1052 : Int32) + ((3 : Int32) * a1)) + p6).toNatClampNeg) >>> (p12 &&& 31)) &&& (1 : Int32)) = (1 : Int32) then (some ((0 : Int32))) else (some ((1 : Int32))) : Option Int32) = some r → q_E d q_K199 40 [some (.inr (.inr (30, 7, 0))), some (.inl a1), some (.inl a2)] [.inl p12, .inl (h.1 31 0 7 (((1052 : Int32) + ((3 : Int32) * a1)) + p6).toNatClampNeg)] h (some (.inl r), h) := by
      intro p12 HF
      refine q_br (P := ¬ (((h.1 31 0 7 (((1052 : Int32) + ((3 : Int32) * a1)) + p6).toNatClampNeg) >>> (p12 &&& 31)) &&& (1 : Int32)) = (1 : Int32)) (pcT := 51) (pcF := 47) (loc' := [some (.inr (.inr (30, 7, 0))), some (.inl a1), some (.inl a2)]) (stk' := []) (h' := h) 5 (fun _ _ => rfl) (fun c13 => ?_) (fun c13 => ?_)
      · rw [if_pos c13] at HF
        have hz := Option.some.inj HF
        subst hz
        exact q_rtn 2 (fun _ _ => rfl)
      · rw [if_neg c13] at HF
        have hz := Option.some.inj HF
        subst hz
        exact q_rtn 3 (fun _ _ => rfl)
    replace HF := HA8
    refine q_br (P := a2 ≤ (30 : Int32)) (pcT := 37) (pcF := 30) (loc' := [some (.inr (.inr (30, 7, 0))), some (.inl a1), some (.inl a2)]) (stk' := [.inl (h.1 31 0 7 (((1052 : Int32) + ((3 : Int32) * a1)) + p6).toNatClampNeg)]) (h' := h) 3 (fun _ _ => rfl) (fun c11 => ?_) (fun c11 => ?_)
    · rw [if_pos c11] at HF
      refine q_blk (pc' := 40) (loc' := [some (.inr (.inr (30, 7, 0))), some (.inl a1), some (.inl a2)]) (stk' := [.inl (a2 - (1 : Int32)), .inl (h.1 31 0 7 (((1052 : Int32) + ((3 : Int32) * a1)) + p6).toNatClampNeg)]) (h' := h) 3 (fun _ _ => rfl) ?_
      have hz := Option.some.inj HF
      subst hz
      exact hP10 (a2 - (1 : Int32)) HK9
    · rw [if_neg c11] at HF
      refine q_blk (pc' := 40) (loc' := [some (.inr (.inr (30, 7, 0))), some (.inl a1), some (.inl a2)]) (stk' := [.inl (a2 - (31 : Int32)), .inl (h.1 31 0 7 (((1052 : Int32) + ((3 : Int32) * a1)) + p6).toNatClampNeg)]) (h' := h) 4 (fun _ _ => rfl) ?_
      have hz := Option.some.inj HF
      subst hz
      exact hP10 (a2 - (31 : Int32)) HK9
  replace HF := HA2
  refine q_br (P := a2 ≤ (30 : Int32)) (pcT := 21) (pcF := 17) (loc' := [some (.inr (.inr (30, 7, 0))), some (.inl a1), some (.inl a2)]) (stk' := [.inl ((1052 : Int32) + ((3 : Int32) * a1)), .inr (.inr (31, 7, 0))]) (h' := h) 10 (fun _ _ => rfl) (fun c5 => ?_) (fun c5 => ?_)
  · rw [if_pos c5] at HF
    refine q_blk (pc' := 22) (loc' := [some (.inr (.inr (30, 7, 0))), some (.inl a1), some (.inl a2)]) (stk' := [.inl (1 : Int32), .inl ((1052 : Int32) + ((3 : Int32) * a1)), .inr (.inr (31, 7, 0))]) (h' := h) 1 (fun _ _ => rfl) ?_
    have hz := Option.some.inj HF
    subst hz
    exact hP4 (1 : Int32) HK3
  · rw [if_neg c5] at HF
    refine q_blk (pc' := 22) (loc' := [some (.inr (.inr (30, 7, 0))), some (.inl a1), some (.inl a2)]) (stk' := [.inl (2 : Int32), .inl ((1052 : Int32) + ((3 : Int32) * a1)), .inr (.inr (31, 7, 0))]) (h' := h) 2 (fun _ _ => rfl) ?_
    have hz := Option.some.inj HF
    subst hz
    exact hP4 (2 : Int32) HK3
def Mo_isWaiting (a1 : Int32) (h : q_H) : Option Int32 :=
  bif q_in ((1583 : Int32) + a1) 1644 then (if (h.1 31 0 7 ((1583 : Int32) + a1).toNatClampNeg) ≤ 0 then (some ((0 : Int32))) else (some ((1 : Int32)))) else none
set_option maxRecDepth 100000 in
set_option maxHeartbeats 4000000 in
theorem eMo_isWaiting {d : Nat} (hd : 1 ≤ d) {a1 : Int32} {h : q_H} {r : Int32} (HF : Mo_isWaiting a1 h = some r) : q_T d 201 [.inr (.inr (30, 7, 0)), .inl a1] h (some (.inl r), h) := by
  obtain ⟨d, rfl⟩ : ∃ d', d = d' + 1 := ⟨d - 1, by omega⟩
  refine q_ent q_K201 rfl rfl rfl ?_
  unfold Mo_isWaiting at HF
  obtain ⟨g2, HF⟩ := q_gF HF
  refine q_gd (pc' := 10) (loc' := [some (.inr (.inr (30, 7, 0))), some (.inl a1)]) (stk' := [.inl (h.1 31 0 7 ((1583 : Int32) + a1).toNatClampNeg)]) (h' := h) 6 (fun _ _ => rfl) g2 ?_
  refine q_br (P := (h.1 31 0 7 ((1583 : Int32) + a1).toNatClampNeg) ≤ 0) (pcT := 17) (pcF := 13) (loc' := [some (.inr (.inr (30, 7, 0))), some (.inl a1)]) (stk' := []) (h' := h) 1 (fun _ _ => rfl) (fun c1 => ?_) (fun c1 => ?_)
  · rw [if_pos c1] at HF
    have hz := Option.some.inj HF
    subst hz
    exact q_rtn 2 (fun _ _ => rfl)
  · rw [if_neg c1] at HF
    have hz := Option.some.inj HF
    subst hz
    exact q_rtn 3 (fun _ _ => rfl)
def Mo_tellsOf (a1 : Int32) (a2 : Int32) (h : q_H) : Option q_H :=
  (q_lp (fun s1 : Int32 × q_H => (if s1.1 ≤ (1 : Int32) then (some (.inr (s1.2))) else (bif q_in (((1235 : Int32) + s1.1) - (2 : Int32)) 1644 then (bif q_in ((1235 : Int32) + s1.1) 1644 then (some (.inl ((s1.1 + (-1 : Int32)), (q_si s1.2 31 0 7 ((1235 : Int32) + s1.1).toNatClampNeg (s1.2.1 31 0 7 (((1235 : Int32) + s1.1) - (2 : Int32)).toNatClampNeg))))) else none) else none) : Option ((Int32 × q_H) ⊕ (q_H)))) q_fu (((47 : Int32), h) : Int32 × q_H)).bind fun p12 => if (24 : Int32) ≤ ((q_si (q_si p12 31 0 7 1235 a1) 31 0 7 1236 a2).1 31 0 7 6) then (some ((q_si (q_si (q_si p12 31 0 7 1235 a1) 31 0 7 1236 a2) 31 0 7 6 (24 : Int32)))) else (some ((q_si (q_si (q_si p12 31 0 7 1235 a1) 31 0 7 1236 a2) 31 0 7 6 (((q_si (q_si p12 31 0 7 1235 a1) 31 0 7 1236 a2).1 31 0 7 6) + (1 : Int32)))))
set_option maxRecDepth 100000 in
set_option maxHeartbeats 4000000 in
theorem eMo_tellsOf {d : Nat} (hd : 1 ≤ d) {a1 : Int32} {a2 : Int32} {h : q_H} {r : q_H} (HF : Mo_tellsOf a1 a2 h = some r) : q_T d 212 [.inr (.inr (30, 7, 0)), .inl a1, .inl a2] h (none, r) := by
  obtain ⟨d, rfl⟩ : ∃ d', d = d' + 1 := ⟨d - 1, by omega⟩
  refine q_ent q_K212 rfl rfl rfl ?_
  unfold Mo_tellsOf at HF
  refine q_blk (pc' := 3) (loc' := [some (.inr (.inr (30, 7, 0))), some (.inl a1), some (.inl a2), some (.inl (47 : Int32))]) (stk' := []) (h' := h) 2 (fun _ _ => rfl) ?_
  obtain ⟨r6, hl7, HK4⟩ := q_bind HF
  have hP5 : ∀ p12 : q_H, (if (24 : Int32) ≤ ((q_si (q_si p12 31 0 7 1235 a1) 31 0 7 1236 a2).1 31 0 7 6) then (some ((q_si (q_si (q_si p12 31 0 7 1235 a1) 31 0 7 1236 a2) 31 0 7 6 (24 : Int32)))) else (some ((q_si (q_si (q_si p12 31 0 7 1235 a1) 31 0 7 1236 a2) 31 0 7 6 (((q_si (q_si p12 31 0 7 1235 a1) 31 0 7 1236 a2).1 31 0 7 6) + (1 : Int32))))) : Option q_H) = some r → q_E d q_K212 36 [some (.inr (.inr (30, 7, 0))), some (.inl a1), some (.inl a2), none] [] p12 (none, r) := by
    intro p12 HF
    refine q_br (P := (24 : Int32) ≤ ((q_si (q_si p12 31 0 7 1235 a1) 31 0 7 1236 a2).1 31 0 7 6)) (pcT := 84) (pcF := 72) (loc' := [some (.inr (.inr (30, 7, 0))), some (.inl a1), some (.inl a2), none]) (stk' := [.inl (6 : Int32), .inr (.inr (31, 7, 0))]) (h' := (q_si (q_si p12 31 0 7 1235 a1) 31 0 7 1236 a2)) 19 (fun _ _ => rfl) (fun c13 => ?_) (fun c13 => ?_)
    · rw [if_pos c13] at HF
      have hz := Option.some.inj HF
      subst hz
      exact q_rtn 3 (fun _ _ => rfl)
    · rw [if_neg c13] at HF
      have hz := Option.some.inj HF
      subst hz
      exact q_rtn 9 (fun _ _ => rfl)
  refine q_lpE (E := fun s1 => q_E d q_K212 3 [some (.inr (.inr (30, 7, 0))), some (.inl a1), some (.inl a2), some (.inl s1.1)] [] s1.2 (none, r)) r6 (fun s1 z8 HF H12 H23 => ?_) _ _ hl7
  refine q_br (P := s1.1 ≤ (1 : Int32)) (pcT := 36) (pcF := 8) (loc' := [some (.inr (.inr (30, 7, 0))), some (.inl a1), some (.inl a2), some (.inl s1.1)]) (stk' := []) (h' := s1.2) 3 (fun _ _ => rfl) (fun c11 => ?_) (fun c11 => ?_)
  · rw [if_pos c11] at HF
    have hz := Option.some.inj HF
    subst hz
    rw [← H23 _ rfl] at HK4
    exact q_wk (loc := [some (.inr (.inr (30, 7, 0))), some (.inl a1), some (.inl a2), none]) ⟨Or.inl rfl, ⟨Or.inl rfl, ⟨Or.inl rfl, ⟨Or.inr ⟨rfl, fun _ h => by cases h⟩, trivial⟩⟩⟩⟩ (hP5 (s1.2) HK4)
  · rw [if_neg c11] at HF
    obtain ⟨g10, HF⟩ := q_gF HF
    refine q_gd (pc' := 29) (loc' := [some (.inr (.inr (30, 7, 0))), some (.inl a1), some (.inl a2), some (.inl s1.1)]) (stk' := [.inl (s1.2.1 31 0 7 (((1235 : Int32) + s1.1) - (2 : Int32)).toNatClampNeg), .inl ((1235 : Int32) + s1.1), .inr (.inr (31, 7, 0))]) (h' := s1.2) 13 (fun _ _ => rfl) g10 ?_
    obtain ⟨g9, HF⟩ := q_gF HF
    refine q_gd (pc' := 30) (loc' := [some (.inr (.inr (30, 7, 0))), some (.inl a1), some (.inl a2), some (.inl s1.1)]) (stk' := []) (h' := (q_si s1.2 31 0 7 ((1235 : Int32) + s1.1).toNatClampNeg (s1.2.1 31 0 7 (((1235 : Int32) + s1.1) - (2 : Int32)).toNatClampNeg))) 1 (fun _ _ => rfl) g9 ?_
    refine q_blk (pc' := 3) (loc' := [some (.inr (.inr (30, 7, 0))), some (.inl a1), some (.inl a2), some (.inl (s1.1 + (-1 : Int32)))]) (stk' := []) (h' := (q_si s1.2 31 0 7 ((1235 : Int32) + s1.1).toNatClampNeg (s1.2.1 31 0 7 (((1235 : Int32) + s1.1) - (2 : Int32)).toNatClampNeg))) 2 (fun _ _ => rfl) ?_
    have hz := Option.some.inj HF
    subst hz
    exact H12 ((s1.1 + (-1 : Int32)), (q_si s1.2 31 0 7 ((1235 : Int32) + s1.1).toNatClampNeg (s1.2.1 31 0 7 (((1235 : Int32) + s1.1) - (2 : Int32)).toNatClampNeg))) rfl
def Mo_entryOf (a1 : Int32) (a2 : Int32) (h : q_H) : Option Int32 :=
  bif q_in (((812 : Int32) + ((4 : Int32) * a1)) + a2) 1644 then (some ((h.1 31 0 7 (((812 : Int32) + ((4 : Int32) * a1)) + a2).toNatClampNeg))) else none
set_option maxRecDepth 100000 in
set_option maxHeartbeats 4000000 in
theorem eMo_entryOf {d : Nat} (hd : 1 ≤ d) {a1 : Int32} {a2 : Int32} {h : q_H} {r : Int32} (HF : Mo_entryOf a1 a2 h = some r) : q_T d 216 [.inr (.inr (30, 7, 0)), .inl a1, .inl a2] h (some (.inl r), h) := by
  obtain ⟨d, rfl⟩ : ∃ d', d = d' + 1 := ⟨d - 1, by omega⟩
  refine q_ent q_K216 rfl rfl rfl ?_
  unfold Mo_entryOf at HF
  obtain ⟨g1, HF⟩ := q_gF HF
  refine q_gd (pc' := 14) (loc' := [some (.inr (.inr (30, 7, 0))), some (.inl a1), some (.inl a2)]) (stk' := [.inl (h.1 31 0 7 (((812 : Int32) + ((4 : Int32) * a1)) + a2).toNatClampNeg)]) (h' := h) 10 (fun _ _ => rfl) g1 ?_
  have hz := Option.some.inj HF
  subst hz
  exact q_rtn 1 (fun _ _ => rfl)
def Mo_oldOf (a1 : Int32) (a2 : Int32) (h : q_H) : Option Int32 :=
  bif q_in (((32 : Int32) + ((13 : Int32) * a1)) + a2) 1644 then (some ((h.1 32 0 7 (((32 : Int32) + ((13 : Int32) * a1)) + a2).toNatClampNeg))) else none
set_option maxRecDepth 100000 in
set_option maxHeartbeats 4000000 in
theorem eMo_oldOf {d : Nat} (hd : 1 ≤ d) {a1 : Int32} {a2 : Int32} {h : q_H} {r : Int32} (HF : Mo_oldOf a1 a2 h = some r) : q_T d 245 [.inr (.inr (30, 7, 0)), .inl a1, .inl a2] h (some (.inl r), h) := by
  obtain ⟨d, rfl⟩ : ∃ d', d = d' + 1 := ⟨d - 1, by omega⟩
  refine q_ent q_K245 rfl rfl rfl ?_
  unfold Mo_oldOf at HF
  obtain ⟨g1, HF⟩ := q_gF HF
  refine q_gd (pc' := 14) (loc' := [some (.inr (.inr (30, 7, 0))), some (.inl a1), some (.inl a2)]) (stk' := [.inl (h.1 32 0 7 (((32 : Int32) + ((13 : Int32) * a1)) + a2).toNatClampNeg)]) (h' := h) 10 (fun _ _ => rfl) g1 ?_
  have hz := Option.some.inj HF
  subst hz
  exact q_rtn 1 (fun _ _ => rfl)
