/-! arrays -/
section q_SA
variable {p : Program} {l : Launch} {e : Env} {R : Room} {s : State} {m : MethodId} {args : Array Value} {below : List Frame} {meth : Method} {c : Code} {Q : State → Prop}
variable {cc : ByteArray} {own nL : Nat} {D : va_G} {dom : List q_R} {ad : q_R → Nat} {cA : Nat → ClassId} {tys : List (ClassId × FieldType)} {A : Nat → Prop}
variable {h : q_H} {H : Heap} {locs : List Loc} {ls : Array Slot} {pc t k i : Nat} {rest : List Value} {j : Int32}
theorem q_ea0 (h0 : q_at t ≤ 1) : q_ea ad h t k = .inl (fun j => h.1 t 0 k j) := by
  unfold q_ea
  rw [show Nat.ble (q_at t) 1 = true from Nat.ble_eq_true_of_le h0]
  rfl
theorem q_ea2 (h0 : q_at t = 2) : q_ea ad h t k = .inr (.inl (fun j => h.2 t 0 k j)) := by
  unfold q_ea
  rw [h0]
  rfl
theorem q_ea3 (h0 : q_at t = 3 ∨ q_at t = 4) : q_ea ad h t k = .inr (.inr (.inr (.inr (fun j => some (ad (q_ra t k j)))))) := by
  unfold q_ea
  rcases h0 with h0 | h0 <;> rw [h0] <;> rfl
theorem q_arr (hC : q_Cx dom ad cA tys A) (hr : (t, k, i) ∈ dom) (ht : ¬ q_at t = 9) : i = 0 ∧ (∃ t0 : Nat, tys[t0]? = some (cA (q_at t), q_ty (q_at t))) ∧ ∃ q0 : Nat, dom[q0]? = some (t, k, i) ∧ ∀ h : q_H, (q_ws dom ad cA h)[q0]? = some (ad (t, k, i), .inl (cA (q_at t), q_al t, q_ea ad h t k)) := by
  obtain ⟨-, -, -, c4, -, -⟩ := hC
  obtain ⟨-, h2⟩ := c4 _ hr
  obtain ⟨h3, -, h4⟩ := h2 (q_at_fl ht)
  obtain ⟨q0, hq⟩ := List.getElem?_of_mem hr
  refine ⟨h3, h4, q0, hq, fun h => ?_⟩
  unfold q_ws
  rw [List.getElem?_map, hq]
  simp only [Option.map_some, q_ce_a (q_at_fl ht)]
theorem q_s_iald (hF : q_FX p s m args c cc own nL) (hC : q_Cx dom ad cA tys A) (hK : va_K D vwCl tys s) (hP : va_P D vwCl (q_ws dom ad cA h) H) (hr : (t, k, i) ∈ dom) (h0 : q_at t = 0) (hin : q_in j (q_al t) = true) (hdg : decode cc pc = .ok (.iaload, 1))
    (kk : W p l e R s m args below meth c H locs 0 0 Q (F0 m (pc + 1) ls (.int (h.1 t 0 k j.toNatClampNeg) :: rest))) : W p l e R s m args below meth c H locs 0 0 Q (F0 m pc ls (.int j :: .ref (ad (t, k, i)) :: rest)) := by
  obtain ⟨-, ⟨t0, ht0⟩, q0, -, hq⟩ := q_arr hC hr (by omega)
  have h2 := hq h
  rw [q_ea0 (by omega)] at h2
  rw [h0] at ht0 h2
  exact va_iald hF.1 hF.2.1 hK hP q0 t0 h2 ht0 (q_in_vp hin) hdg kk
theorem q_s_bald (hF : q_FX p s m args c cc own nL) (hC : q_Cx dom ad cA tys A) (hK : va_K D vwCl tys s) (hP : va_P D vwCl (q_ws dom ad cA h) H) (hr : (t, k, i) ∈ dom) (h0 : q_at t = 1) (hin : q_in j (q_al t) = true) (hdg : decode cc pc = .ok (.baload, 1))
    (kk : W p l e R s m args below meth c H locs 0 0 Q (F0 m (pc + 1) ls (.int (h.1 t 0 k j.toNatClampNeg) :: rest))) : W p l e R s m args below meth c H locs 0 0 Q (F0 m pc ls (.int j :: .ref (ad (t, k, i)) :: rest)) := by
  obtain ⟨-, ⟨t0, ht0⟩, q0, -, hq⟩ := q_arr hC hr (by omega)
  have h2 := hq h
  rw [q_ea0 (by omega)] at h2
  rw [h0] at ht0 h2
  exact va_bald hF.1 hF.2.1 hK hP q0 t0 h2 ht0 (q_in_vp hin) hdg kk
theorem q_s_lald (hF : q_FX p s m args c cc own nL) (hC : q_Cx dom ad cA tys A) (hK : va_K D vwCl tys s) (hP : va_P D vwCl (q_ws dom ad cA h) H) (hr : (t, k, i) ∈ dom) (h0 : q_at t = 2) (hin : q_in j (q_al t) = true) (hdg : decode cc pc = .ok (.laload, 1))
    (kk : W p l e R s m args below meth c H locs 0 0 Q (F0 m (pc + 1) ls (.long (h.2 t 0 k j.toNatClampNeg) :: rest))) : W p l e R s m args below meth c H locs 0 0 Q (F0 m pc ls (.int j :: .ref (ad (t, k, i)) :: rest)) := by
  obtain ⟨-, ⟨t0, ht0⟩, q0, -, hq⟩ := q_arr hC hr (by omega)
  have h2 := hq h
  rw [q_ea2 h0] at h2
  rw [h0] at ht0 h2
  exact va_lald hF.1 hF.2.1 hK hP q0 t0 h2 ht0 (q_in_vp hin) hdg kk
theorem q_s_aald (hF : q_FX p s m args c cc own nL) (hC : q_Cx dom ad cA tys A) (hK : va_K D vwCl tys s) (hP : va_P D vwCl (q_ws dom ad cA h) H) (hr : (t, k, i) ∈ dom) (h0 : q_at t = 3 ∨ q_at t = 4) (hin : q_in j (q_al t) = true) (hdg : decode cc pc = .ok (.aaload, 1))
    (kk : W p l e R s m args below meth c H locs 0 0 Q (F0 m (pc + 1) ls (.ref (ad (q_ra t k j.toNatClampNeg)) :: rest))) : W p l e R s m args below meth c H locs 0 0 Q (F0 m pc ls (.int j :: .ref (ad (t, k, i)) :: rest)) := by
  obtain ⟨-, ⟨t0, ht0⟩, q0, -, hq⟩ := q_arr hC hr (by omega)
  have h2 := hq h
  rw [q_ea3 h0] at h2
  rcases h0 with h0 | h0
  · rw [h0] at ht0 h2
    exact va_aldq hF.1 hF.2.1 hK hP q0 t0 h2 ht0 (q_in_vp hin) hdg kk
  · rw [h0] at ht0 h2
    exact va_aldq hF.1 hF.2.1 hK hP q0 t0 h2 ht0 (q_in_vp hin) hdg kk
theorem q_s_alen (hF : q_FX p s m args c cc own nL) (hC : q_Cx dom ad cA tys A) (hK : va_K D vwCl tys s) (hP : va_P D vwCl (q_ws dom ad cA h) H) (hr : (t, k, i) ∈ dom) (h0 : ¬ q_at t = 9) (hdg : decode cc pc = .ok (.arraylength, 1))
    (kk : W p l e R s m args below meth c H locs 0 0 Q (F0 m (pc + 1) ls (.int (Int32.ofNat (q_al t)) :: rest))) : W p l e R s m args below meth c H locs 0 0 Q (F0 m pc ls (.ref (ad (t, k, i)) :: rest)) := by
  obtain ⟨-, ⟨t0, ht0⟩, q0, -, hq⟩ := q_arr hC hr h0
  exact va_alen hF.1 hF.2.1 hK hP q0 t0 (hq h) ht0 rfl hdg kk
theorem q_zero (hC : q_Cx dom ad cA tys A) : ∀ r ∈ dom, (q_fl r.1).isEmpty = true → r.2.2 = 0 := fun r hr h => ((hC.2.2.2.1 r hr).2 h).1
theorem q_cell_a {x : Int32} {jj : Nat} (h0 : q_at t ≤ 1) : q_ce ad cA (q_si h t 0 k jj x) (t, k, 0) = .inl (cA (q_at t), q_al t, .inl (upd (fun j => h.1 t 0 k j) jj x)) := by
  rw [q_ce_a (q_at_fl (by omega)), q_ea0 h0]
  congr 4
  funext z
  unfold q_si upd
  simp only [true_and]
theorem q_cell_l {x : Int64} {jj : Nat} (h0 : q_at t = 2) : q_ce ad cA (q_sl h t 0 k jj x) (t, k, 0) = .inl (cA (q_at t), q_al t, .inr (.inl (vp_updL (fun j => h.2 t 0 k j) jj x))) := by
  rw [q_ce_a (q_at_fl (by omega)), q_ea2 h0]
  congr 5
  funext z
  unfold q_sl vp_updL
  simp only [true_and]
theorem q_s_iast {x : Int32} (hF : q_FX p s m args c cc own nL) (hC : q_Cx dom ad cA tys A) (hK : va_K D vwCl tys s) (hP : va_P D vwCl (q_ws dom ad cA h) H) (hS : va_S A s.heap H locs) (hr : (t, k, i) ∈ dom) (h0 : q_at t = 0) (hin : q_in j (q_al t) = true) (hdg : decode cc pc = .ok (.iastore, 1))
    (kk : ∀ (H1 : Heap) (locs1 : List Loc), va_P D vwCl (q_ws dom ad cA (q_si h t 0 k j.toNatClampNeg x)) H1 → va_S A s.heap H1 locs1 → W p l e R s m args below meth c H1 locs1 0 0 Q (F0 m (pc + 1) ls rest)) : W p l e R s m args below meth c H locs 0 0 Q (F0 m pc ls (.int x :: .int j :: .ref (ad (t, k, i)) :: rest)) := by
  obtain ⟨hi, ⟨t0, ht0⟩, q0, hd, hq⟩ := q_arr hC hr (by omega)
  subst hi
  have h2 := hq h
  rw [q_ea0 (by omega)] at h2
  rw [h0] at ht0 h2
  refine va_iast hF.1 hF.2.1 hK hP (q_hD hC h) hS q0 t0 h2 ht0 (q_in_vp hin) hdg (fun H1 locs1 hP1 _ hS1 => ?_)
  rw [q_ws_set hC.2.1 hd (by rw [q_cell_a (by omega), h0]) (q_ce_si_a (q_zero hC) (q_at_fl (by omega)))] at hP1
  exact kk H1 locs1 hP1 hS1
theorem q_s_bast {x : Int32} (hF : q_FX p s m args c cc own nL) (hC : q_Cx dom ad cA tys A) (hK : va_K D vwCl tys s) (hP : va_P D vwCl (q_ws dom ad cA h) H) (hS : va_S A s.heap H locs) (hr : (t, k, i) ∈ dom) (h0 : q_at t = 1) (hin : q_in j (q_al t) = true) (hdg : decode cc pc = .ok (.bastore, 1))
    (kk : ∀ (H1 : Heap) (locs1 : List Loc), va_P D vwCl (q_ws dom ad cA (q_si h t 0 k j.toNatClampNeg x.toInt8.toInt32)) H1 → va_S A s.heap H1 locs1 → W p l e R s m args below meth c H1 locs1 0 0 Q (F0 m (pc + 1) ls rest)) : W p l e R s m args below meth c H locs 0 0 Q (F0 m pc ls (.int x :: .int j :: .ref (ad (t, k, i)) :: rest)) := by
  obtain ⟨hi, ⟨t0, ht0⟩, q0, hd, hq⟩ := q_arr hC hr (by omega)
  subst hi
  have h2 := hq h
  rw [q_ea0 (by omega)] at h2
  rw [h0] at ht0 h2
  refine va_bast hF.1 hF.2.1 hK hP (q_hD hC h) hS q0 t0 h2 ht0 (q_in_vp hin) hdg (fun H1 locs1 hP1 _ hS1 => ?_)
  rw [vp_nar_byte, q_ws_set hC.2.1 hd (by rw [q_cell_a (by omega), h0]) (q_ce_si_a (q_zero hC) (q_at_fl (by omega)))] at hP1
  exact kk H1 locs1 hP1 hS1
theorem q_s_last {x : Int64} (hF : q_FX p s m args c cc own nL) (hC : q_Cx dom ad cA tys A) (hK : va_K D vwCl tys s) (hP : va_P D vwCl (q_ws dom ad cA h) H) (hS : va_S A s.heap H locs) (hr : (t, k, i) ∈ dom) (h0 : q_at t = 2) (hin : q_in j (q_al t) = true) (hdg : decode cc pc = .ok (.lastore, 1))
    (kk : ∀ (H1 : Heap) (locs1 : List Loc), va_P D vwCl (q_ws dom ad cA (q_sl h t 0 k j.toNatClampNeg x)) H1 → va_S A s.heap H1 locs1 → W p l e R s m args below meth c H1 locs1 0 0 Q (F0 m (pc + 1) ls rest)) : W p l e R s m args below meth c H locs 0 0 Q (F0 m pc ls (.long x :: .int j :: .ref (ad (t, k, i)) :: rest)) := by
  obtain ⟨hi, ⟨t0, ht0⟩, q0, hd, hq⟩ := q_arr hC hr (by omega)
  subst hi
  have h2 := hq h
  rw [q_ea2 h0] at h2
  rw [h0] at ht0 h2
  refine va_last hF.1 hF.2.1 hK hP (q_hD hC h) hS q0 t0 h2 ht0 (q_in_vp hin) hdg (fun H1 locs1 hP1 _ hS1 => ?_)
  rw [q_ws_set hC.2.1 hd (by rw [q_cell_l h0, h0]) (q_ce_sl_a (q_zero hC) (q_at_fl (by omega)))] at hP1
  exact kk H1 locs1 hP1 hS1
end q_SA
