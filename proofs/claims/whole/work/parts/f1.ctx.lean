set_option maxRecDepth 100000 in
theorem cw_ol6 : Cond.methodLink RX6 3 objectInit ∈ lw_tblG := q_g1 (i := 31) rfl rfl
theorem dX6_init_0 : decode cX6_init 0 = .ok (.aload_n 0, 1) := by decide +kernel
theorem dX6_init_1 : decode cX6_init 1 = .ok (.invokespecial 3, 3) := by decide +kernel
theorem dX6_init_4 : decode cX6_init 4 = .ok (.aload_n 0, 1) := by decide +kernel
theorem dX6_init_5 : decode cX6_init 5 = .ok (.sipush 700, 3) := by decide +kernel
theorem dX6_init_8 : decode cX6_init 8 = .ok (.newarray .int, 2) := by decide +kernel
theorem dX6_init_10 : decode cX6_init 10 = .ok (.putfield 9, 3) := by decide +kernel
theorem dX6_init_13 : decode cX6_init 13 = .ok (.aload_n 0, 1) := by decide +kernel
theorem dX6_init_14 : decode cX6_init 14 = .ok (.iconst 5, 1) := by decide +kernel
theorem dX6_init_15 : decode cX6_init 15 = .ok (.newarray .int, 2) := by decide +kernel
theorem dX6_init_17 : decode cX6_init 17 = .ok (.putfield 15, 3) := by decide +kernel
theorem dX6_init_20 : decode cX6_init 20 = .ok (.aload_n 0, 1) := by decide +kernel
theorem dX6_init_21 : decode cX6_init 21 = .ok (.iconst (-1), 1) := by decide +kernel
theorem dX6_init_22 : decode cX6_init 22 = .ok (.putfield 18, 3) := by decide +kernel
theorem dX6_init_25 : decode cX6_init 25 = .ok (.return_, 1) := by decide +kernel
set_option maxRecDepth 100000 in
theorem cw_f6_9 : Cond.fieldLink RX6 9 "RowPruner$Text" "tape" "[I" ∈ lw_tblG := q_g1 (i := 32) rfl rfl
set_option maxRecDepth 100000 in
theorem cw_f6_15 : Cond.fieldLink RX6 15 "RowPruner$Text" "numbers" "[I" ∈ lw_tblG := q_g1 (i := 44) rfl rfl
set_option maxRecDepth 100000 in
theorem cw_f6_18 : Cond.fieldLink RX6 18 "RowPruner$Text" "faultPlace" "I" ∈ lw_tblG := q_g1 (i := 53) rfl rfl
set_option maxHeartbeats 4000000 in
set_option maxRecDepth 100000 in
theorem c_i6 {l : Launch} {D : va_G} {cA : Nat → ClassId} {tys : List (ClassId × FieldType)} {X : State → Prop} (ht0 : tys[0]? = some (cA 0, .int)) (z sz k : Nat) (hI : q_H) (hz : ∀ t, 26 ≤ t → t ≤ 27 → ∀ f i, hI.1 t f k i = 0) (h25 : ∀ f, f ≠ 16 → hI.1 25 f k 0 = 0) (h16 : hI.1 25 16 k 0 = -1) :
    Met l yX6_init (Cond.code yX6_init cX6_init 1 none :: lw_tblG) { frames := 1, cells := 2, slots := 705, locals := 12 } (va_Pc [.ref z] (c_Pre D tys X z sz 25)) (c_QC D cA hI (25, k, 0) [(25, k, 0), (26, k, 0), (27, k, 0)] z sz) 2 705 (c_fr z sz) := by
  refine Met.ofW (cc := cX6_init) (maxL := 1) (ret := none) (by decide +kernel) rfl ?_
  intro p e s m args below meth c s₁ B hml hv
  obtain ⟨rfl, hsz, hP0, hK, hXs⟩ := hv
  have hx := B.exec
  have hb := B.bytes
  have hr := B.returns
  have hts0 := atoms_spec (ws := Cond.code yX6_init cX6_init 1 none :: lw_tblG) B.pre
  have hts : ∀ w ∈ lw_tblG, w.before [Value.ref z].toArray s = true := fun w hw => hts0 w (List.mem_cons_of_mem _ hw)
  have hown : s.vm.findClass RX6 = some m.cls := findClass_of_methodNamed B.named
  have hlk := B.notSynchronized
  have hin : meth.name = "<init>" := (name_of_methodNamed B.named B.method).1
  subst hsz
  have hP : va_P D vwCl [(z, .inr (6, [.null, .int 0, .int 0, .int 0, .int 0, .int 0, .int 0, .int 0, .int 0, .null, .int 0, .int 0, .int 0, .int 0, .int 0, .int 0, .int 0]))] s.heap := hP0
  have hD : va_D (c_fr z s.heap.size) [(z, .inr (6, [.null, .int 0, .int 0, .int 0, .int 0, .int 0, .int 0, .int 0, .int 0, .null, .int 0, .int 0, .int 0, .int 0, .int 0, .int 0, .int 0]))] := c_D1 _
  have hA : ∀ q : Nat, s.heap.size ≤ q → c_fr z s.heap.size q := fun q h => Or.inr h
  have hS : va_S (c_fr z s.heap.size) s.heap s.heap [] := va_S.rf
  have hl := lv_entry [.ref z] (n := 1) (Nat.le_of_ble_eq_true rfl)
  rw [lg_entry_eq]
  generalize (lg_sl ([.ref z]) ++ List.replicate (1 - (lg_sl ([.ref z])).length) Slot.unset).toArray = ls at hl ⊢
  have h0 := hl.2.2 (0, .ref z) (by simp [lv_args])
  refine lv_aload_n hx hb dX6_init_0 rfl h0 ?_
  refine W.objInit hx hb hown (hts _ cw_ol6) (hts _ cw_oi) (hts _ cw_oc) rfl (by rw [hml]; exact hl.1) rfl dX6_init_1 (Nat.le_of_ble_eq_true rfl) (Nat.le_of_ble_eq_true rfl) ?_
  refine W.eq (g2 := F0 m 4 ls []) rfl ?_
  refine lv_aload_n hx hb dX6_init_4 rfl h0 ?_
  refine lv_sipush hx hb dX6_init_5 (v := 700) (by decide) ?_
  refine va_newa (atype := .int) hx hb (hts _ cw_ai) rfl hK hP hD hS hA (N' := 700) (a0 := (700, .inl (fun _ => 0))) (fun cA => rfl) (by decide) (by decide) (Nat.le_of_ble_eq_true rfl) (Nat.le_of_ble_eq_true rfl) (Nat.le_of_ble_eq_true rfl) dX6_init_8 (fun q1 c1 H1 hK1 hP1 hD1 hS1 => ?_)
  obtain rfl := c_cA hK1 ht0
  clear hK1 hP hD hS
  have hP : va_P D vwCl [(z, .inr (6, [.null, .int 0, .int 0, .int 0, .int 0, .int 0, .int 0, .int 0, .int 0, .null, .int 0, .int 0, .int 0, .int 0, .int 0, .int 0, .int 0])), (q1, .inl (cA 0, 700, .inl (fun _ => 0)))] H1 := hP1
  have hD : va_D (c_fr z s.heap.size) [(z, .inr (6, [.null, .int 0, .int 0, .int 0, .int 0, .int 0, .int 0, .int 0, .int 0, .null, .int 0, .int 0, .int 0, .int 0, .int 0, .int 0, .int 0])), (q1, .inl (cA 0, 700, .inl (fun _ => 0)))] := hD1
  have hS := hS1
  clear hP1 hD1 hS1
  refine va_putF (C := RX6) (T := TX6) (N := 17) (own := RX6) (ref := "RowPruner$Text") (ci := 6) hx hb hts (q_tagW 25 (by decide)) tyX6 tyX6_ok nmX6 hown hK hP hD hS 0 rfl rfl 0 (by decide) (hts _ cw_f6_9) (fun _ h => h) rfl hin rfl (ty := .array .int) (by decide +kernel) rfl rfl (Nat.le_of_ble_eq_true rfl) dX6_init_10 (fun H2 locs2 hP1 hD1 hS1 => ?_)
  clear hP hD hS
  have hP : va_P D vwCl [(z, .inr (6, [.ref q1, .int 0, .int 0, .int 0, .int 0, .int 0, .int 0, .int 0, .int 0, .null, .int 0, .int 0, .int 0, .int 0, .int 0, .int 0, .int 0])), (q1, .inl (cA 0, 700, .inl (fun _ => 0)))] H2 := hP1
  have hD : va_D (c_fr z s.heap.size) [(z, .inr (6, [.ref q1, .int 0, .int 0, .int 0, .int 0, .int 0, .int 0, .int 0, .int 0, .null, .int 0, .int 0, .int 0, .int 0, .int 0, .int 0, .int 0])), (q1, .inl (cA 0, 700, .inl (fun _ => 0)))] := hD1
  have hS := hS1
  clear hP1 hD1 hS1
  refine lv_aload_n hx hb dX6_init_13 rfl h0 ?_
  refine lv_iconst hx hb dX6_init_14 (v := 5) (by decide) ?_
  refine va_newa (atype := .int) hx hb (hts _ cw_ai) rfl hK hP hD hS hA (N' := 5) (a0 := (5, .inl (fun _ => 0))) (fun cA => rfl) (by decide) (by decide) (Nat.le_of_ble_eq_true rfl) (Nat.le_of_ble_eq_true rfl) (Nat.le_of_ble_eq_true rfl) dX6_init_15 (fun q2 c1 H1 hK1 hP1 hD1 hS1 => ?_)
  obtain rfl := c_cA hK1 ht0
  clear hK1 hP hD hS
  have hP : va_P D vwCl [(z, .inr (6, [.ref q1, .int 0, .int 0, .int 0, .int 0, .int 0, .int 0, .int 0, .int 0, .null, .int 0, .int 0, .int 0, .int 0, .int 0, .int 0, .int 0])), (q1, .inl (cA 0, 700, .inl (fun _ => 0))), (q2, .inl (cA 0, 5, .inl (fun _ => 0)))] H1 := hP1
  have hD : va_D (c_fr z s.heap.size) [(z, .inr (6, [.ref q1, .int 0, .int 0, .int 0, .int 0, .int 0, .int 0, .int 0, .int 0, .null, .int 0, .int 0, .int 0, .int 0, .int 0, .int 0, .int 0])), (q1, .inl (cA 0, 700, .inl (fun _ => 0))), (q2, .inl (cA 0, 5, .inl (fun _ => 0)))] := hD1
  have hS := hS1
  clear hP1 hD1 hS1
  refine va_putF (C := RX6) (T := TX6) (N := 17) (own := RX6) (ref := "RowPruner$Text") (ci := 6) hx hb hts (q_tagW 25 (by decide)) tyX6 tyX6_ok nmX6 hown hK hP hD hS 0 rfl rfl 9 (by decide) (hts _ cw_f6_15) (fun _ h => h) rfl hin rfl (ty := .array .int) (by decide +kernel) rfl rfl (Nat.le_of_ble_eq_true rfl) dX6_init_17 (fun H2 locs2 hP1 hD1 hS1 => ?_)
  clear hP hD hS
  have hP : va_P D vwCl [(z, .inr (6, [.ref q1, .int 0, .int 0, .int 0, .int 0, .int 0, .int 0, .int 0, .int 0, .ref q2, .int 0, .int 0, .int 0, .int 0, .int 0, .int 0, .int 0])), (q1, .inl (cA 0, 700, .inl (fun _ => 0))), (q2, .inl (cA 0, 5, .inl (fun _ => 0)))] H2 := hP1
  have hD : va_D (c_fr z s.heap.size) [(z, .inr (6, [.ref q1, .int 0, .int 0, .int 0, .int 0, .int 0, .int 0, .int 0, .int 0, .ref q2, .int 0, .int 0, .int 0, .int 0, .int 0, .int 0, .int 0])), (q1, .inl (cA 0, 700, .inl (fun _ => 0))), (q2, .inl (cA 0, 5, .inl (fun _ => 0)))] := hD1
  have hS := hS1
  clear hP1 hD1 hS1
  refine lv_aload_n hx hb dX6_init_20 rfl h0 ?_
  refine lv_iconst hx hb dX6_init_21 (v := (-1)) (by decide) ?_
  refine va_put (C := RX6) (T := TX6) (N := 17) (own := RX6) (ref := "RowPruner$Text") (ci := 6) hx hb hts (q_tagW 25 (by decide)) tyX6 tyX6_ok nmX6 hown hK hP hD hS 0 rfl rfl 16 (by decide) (hts _ cw_f6_18) (fun _ h => h) rfl (ty := .int) (by decide +kernel) rfl rfl (Nat.le_of_ble_eq_true rfl) dX6_init_22 (fun H2 locs2 hP1 hD1 hS1 => ?_)
  clear hP hD hS
  have hP : va_P D vwCl [(z, .inr (6, [.ref q1, .int 0, .int 0, .int 0, .int 0, .int 0, .int 0, .int 0, .int 0, .ref q2, .int 0, .int 0, .int 0, .int 0, .int 0, .int 0, .int (-1)])), (q1, .inl (cA 0, 700, .inl (fun _ => 0))), (q2, .inl (cA 0, 5, .inl (fun _ => 0)))] H2 := hP1
  have hD : va_D (c_fr z s.heap.size) [(z, .inr (6, [.ref q1, .int 0, .int 0, .int 0, .int 0, .int 0, .int 0, .int 0, .int 0, .ref q2, .int 0, .int 0, .int 0, .int 0, .int 0, .int 0, .int (-1)])), (q1, .inl (cA 0, 700, .inl (fun _ => 0))), (q2, .inl (cA 0, 5, .inl (fun _ => 0)))] := hD1
  have hS := hS1
  clear hP1 hD1 hS1
  obtain ⟨g1, g2, g3⟩ := c_fin (self := (25, k, 0)) (dom := [(25, k, 0), (26, k, 0), (27, k, 0)]) (ad := fun r => bif Nat.beq r.1 25 then z else bif Nat.beq r.1 26 then q1 else q2) (cA := cA) (hI := hI) (by
    show [(z, Sum.inr (6, [Value.ref q1, Value.int (hI.1 25 1 k 0), Value.int (hI.1 25 2 k 0), Value.int (hI.1 25 3 k 0), Value.int (hI.1 25 4 k 0), Value.int (hI.1 25 5 k 0), Value.int (hI.1 25 6 k 0), Value.int (hI.1 25 7 k 0), Value.int (hI.1 25 8 k 0), Value.ref q2, Value.int (hI.1 25 10 k 0), Value.int (hI.1 25 11 k 0), Value.int (hI.1 25 12 k 0), Value.int (hI.1 25 13 k 0), Value.int (hI.1 25 14 k 0), Value.int (hI.1 25 15 k 0), Value.int (hI.1 25 16 k 0)])), (q1, Sum.inl (cA 0, 700, Sum.inl (fun j => hI.1 26 0 k j))), (q2, Sum.inl (cA 0, 5, Sum.inl (fun j => hI.1 27 0 k j)))] = _
    simp only [h25 1 (by decide), h25 2 (by decide), h25 3 (by decide), h25 4 (by decide), h25 5 (by decide), h25 6 (by decide), h25 7 (by decide), h25 8 (by decide), h25 10 (by decide), h25 11 (by decide), h25 12 (by decide), h25 13 (by decide), h25 14 (by decide), h25 15 (by decide), h16, hz 26 (by decide) (by decide), hz 27 (by decide) (by decide)]) hP hD List.mem_cons_self rfl
  exact W.vret hx hb hr (fun t ht _ => ⟨⟨rfl, _, rfl, g1, g2, by rw [ht]; exact g3⟩, hS.F ht⟩) hS.2.2 dX6_init_25 hlk
