def fStateOf (k : Nat) (t : Int32) (h : q_H) : Option Int32 :=
  if t < 1 then some (-1) else if h.1 6 4 k 0 ≤ t then some (-1) else if (61 : Int32) ≤ t then some (-1) else bif q_in t 61 then some (h.1 7 0 k t.toNatClampNeg) else none
theorem eStateOf {d k : Nat} {t : Int32} {h : q_H} {r : Int32} (HF : fStateOf k t h = some r) : q_T (d + 1) 106 [.inr (.inr (6, k, 0)), .inl t] h (some (.inl r), h) := by
  refine q_ent q_K106 rfl rfl rfl ?_
  unfold fStateOf at HF
  refine q_br (P := t < 1) (pcT := 31) (pcF := 5) (loc' := [some (.inr (.inr (6, k, 0))), some (.inl t)]) (stk' := []) (h' := h) 3 (fun _ _ => rfl) (fun c1 => ?_) (fun c1 => ?_)
  · rw [if_pos c1] at HF
    cases HF
    exact q_rtn 2 (fun _ _ => rfl)
  · rw [if_neg c1] at HF
    refine q_br (P := h.1 6 4 k 0 ≤ t) (pcT := 31) (pcF := 13) (loc' := [some (.inr (.inr (6, k, 0))), some (.inl t)]) (stk' := []) (h' := h) 4 (fun _ _ => rfl) (fun c1 => ?_) (fun c1 => ?_)
    · rw [if_pos c1] at HF
      cases HF
      exact q_rtn 2 (fun _ _ => rfl)
    · rw [if_neg c1] at HF
      refine q_br (P := (61 : Int32) ≤ t) (pcT := 31) (pcF := 22) (loc' := [some (.inr (.inr (6, k, 0))), some (.inl t)]) (stk' := []) (h' := h) 5 (fun _ _ => rfl) (fun c1 => ?_) (fun c1 => ?_)
      · rw [if_pos c1] at HF
        cases HF
        exact q_rtn 2 (fun _ _ => rfl)
      · rw [if_neg c1] at HF
        cases hg : q_in t 61 with
        | false => rw [hg] at HF; cases HF
        | true =>
          rw [hg] at HF
          refine q_gd (pc' := 28) (loc' := [some (.inr (.inr (6, k, 0))), some (.inl t)]) (stk' := [.inl (h.1 7 0 k t.toNatClampNeg)]) (h' := h) 4 (fun _ _ => rfl) hg ?_
          cases HF
          exact q_rtn 2 (fun _ _ => rfl)
