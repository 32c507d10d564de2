theorem c_D1 {z sz : Nat} (x : va_E) : va_D (c_fr z sz) [(z, x)] := ⟨fun i j p q hi hj _ => by
    have h1 := (List.getElem?_eq_some_iff.mp hi).1
    have h2 := (List.getElem?_eq_some_iff.mp hj).1
    simp at h1 h2
    omega, fun k q hk => by
    have h1 := (List.getElem?_eq_some_iff.mp hk).1
    simp at h1
    subst h1
    cases hk
    exact Or.inl rfl⟩
set_option maxRecDepth 100000 in
theorem cw_ol1 : Cond.methodLink RX1 3 objectInit ∈ lw_tblG := q_g1 (i := 233) rfl rfl
theorem dX1_init_0 : decode cX1_init 0 = .ok (.aload_n 0, 1) := by decide +kernel
theorem dX1_init_1 : decode cX1_init 1 = .ok (.invokespecial 3, 3) := by decide +kernel
theorem dX1_init_4 : decode cX1_init 4 = .ok (.aload_n 0, 1) := by decide +kernel
theorem dX1_init_5 : decode cX1_init 5 = .ok (.bipush 60, 2) := by decide +kernel
theorem dX1_init_7 : decode cX1_init 7 = .ok (.newarray .int, 2) := by decide +kernel
theorem dX1_init_9 : decode cX1_init 9 = .ok (.putfield 9, 3) := by decide +kernel
theorem dX1_init_12 : decode cX1_init 12 = .ok (.aload_n 0, 1) := by decide +kernel
theorem dX1_init_13 : decode cX1_init 13 = .ok (.bipush 60, 2) := by decide +kernel
theorem dX1_init_15 : decode cX1_init 15 = .ok (.newarray .int, 2) := by decide +kernel
theorem dX1_init_17 : decode cX1_init 17 = .ok (.putfield 15, 3) := by decide +kernel
theorem dX1_init_20 : decode cX1_init 20 = .ok (.aload_n 0, 1) := by decide +kernel
theorem dX1_init_21 : decode cX1_init 21 = .ok (.bipush 60, 2) := by decide +kernel
theorem dX1_init_23 : decode cX1_init 23 = .ok (.newarray .int, 2) := by decide +kernel
theorem dX1_init_25 : decode cX1_init 25 = .ok (.putfield 18, 3) := by decide +kernel
theorem dX1_init_28 : decode cX1_init 28 = .ok (.return_, 1) := by decide +kernel
set_option maxRecDepth 100000 in
theorem cw_f1_9 : Cond.fieldLink RX1 9 "RowPruner$Index" "keys" "[I" ∈ lw_tblG := q_g1 (i := 234) rfl rfl
set_option maxRecDepth 100000 in
theorem cw_f1_15 : Cond.fieldLink RX1 15 "RowPruner$Index" "places" "[I" ∈ lw_tblG := q_g1 (i := 235) rfl rfl
set_option maxRecDepth 100000 in
theorem cw_f1_18 : Cond.fieldLink RX1 18 "RowPruner$Index" "killed" "[I" ∈ lw_tblG := q_g1 (i := 236) rfl rfl
set_option maxHeartbeats 4000000 in
set_option maxRecDepth 100000 in
theorem c_i1 {l : Launch} {D : va_G} {cA : Nat → ClassId} {tys : List (ClassId × FieldType)} {X : State → Prop} (ht0 : tys[0]? = some (cA 0, .int)) (z sz k : Nat) (hI : q_H) (hz : ∀ t, 11 ≤ t → t ≤ 14 → ∀ f i, hI.1 t f k i = 0) :
    Met l yX1_init (Cond.code yX1_init cX1_init 1 none :: lw_tblG) { frames := 1, cells := 3, slots := 180, locals := 12 } (va_Pc [.ref z] (c_Pre D tys X z sz 11)) (c_QC D cA hI (11, k, 0) [(11, k, 0), (12, k, 0), (13, k, 0), (14, k, 0)] z sz) 3 180 (c_fr z sz) := by
  refine Met.ofW (cc := cX1_init) (maxL := 1) (ret := none) (by decide +kernel) rfl ?_
  intro p e s m args below meth c s₁ B hml hv
  obtain ⟨rfl, hsz, hP0, hK, hXs⟩ := hv
  have hx := B.exec
  have hb := B.bytes
  have hr := B.returns
  have hts0 := atoms_spec (ws := Cond.code yX1_init cX1_init 1 none :: lw_tblG) B.pre
  have hts : ∀ w ∈ lw_tblG, w.before [Value.ref z].toArray s = true := fun w hw => hts0 w (List.mem_cons_of_mem _ hw)
  have hown : s.vm.findClass RX1 = some m.cls := findClass_of_methodNamed B.named
  have hlk := B.notSynchronized
  have hin : meth.name = "<init>" := (name_of_methodNamed B.named B.method).1
  subst hsz
  have hP : va_P D vwCl [(z, .inr (1, [.null, .null, .null, .int 0]))] s.heap := hP0
  have hD : va_D (c_fr z s.heap.size) [(z, .inr (1, [.null, .null, .null, .int 0]))] := c_D1 _
  have hA : ∀ q : Nat, s.heap.size ≤ q → c_fr z s.heap.size q := fun q h => Or.inr h
  have hS : va_S (c_fr z s.heap.size) s.heap s.heap [] := va_S.rf
  have hl := lv_entry [.ref z] (n := 1) (Nat.le_of_ble_eq_true rfl)
  rw [lg_entry_eq]
  generalize (lg_sl ([.ref z]) ++ List.replicate (1 - (lg_sl ([.ref z])).length) Slot.unset).toArray = ls at hl ⊢
  have h0 := hl.2.2 (0, .ref z) (by simp [lv_args])
  refine lv_aload_n hx hb dX1_init_0 rfl h0 ?_
  refine W.objInit hx hb hown (hts _ cw_ol1) (hts _ cw_oi) (hts _ cw_oc) rfl (by rw [hml]; exact hl.1) rfl dX1_init_1 (Nat.le_of_ble_eq_true rfl) (Nat.le_of_ble_eq_true rfl) ?_
  refine W.eq (g2 := F0 m 4 ls []) rfl ?_
  refine lv_aload_n hx hb dX1_init_4 rfl h0 ?_
  refine lv_bipush hx hb dX1_init_5 (v := 60) (by decide) ?_
  refine va_newa (atype := .int) hx hb (hts _ cw_ai) rfl hK hP hD hS hA (N' := 60) (a0 := (60, .inl (fun _ => 0))) (fun cA => rfl) (by decide) (by decide) (Nat.le_of_ble_eq_true rfl) (Nat.le_of_ble_eq_true rfl) (Nat.le_of_ble_eq_true rfl) dX1_init_7 (fun q1 c1 H1 hK1 hP1 hD1 hS1 => ?_)
  obtain rfl := c_cA hK1 ht0
  clear hK1 hP hD hS
  have hP : va_P D vwCl [(z, .inr (1, [.null, .null, .null, .int 0])), (q1, .inl (cA 0, 60, .inl (fun _ => 0)))] H1 := hP1
  have hD : va_D (c_fr z s.heap.size) [(z, .inr (1, [.null, .null, .null, .int 0])), (q1, .inl (cA 0, 60, .inl (fun _ => 0)))] := hD1
  have hS := hS1
  clear hP1 hD1 hS1
  refine va_putF (C := RX1) (T := TX1) (N := 4) (own := RX1) (ref := "RowPruner$Index") (ci := 1) hx hb hts (q_tagW 11 (by decide)) tyX1 tyX1_ok nmX1 hown hK hP hD hS 0 rfl rfl 0 (by decide) (hts _ cw_f1_9) (fun _ h => h) rfl hin rfl (ty := .array .int) (by decide +kernel) rfl rfl (Nat.le_of_ble_eq_true rfl) dX1_init_9 (fun H2 locs2 hP1 hD1 hS1 => ?_)
  clear hP hD hS
  have hP : va_P D vwCl [(z, .inr (1, [.ref q1, .null, .null, .int 0])), (q1, .inl (cA 0, 60, .inl (fun _ => 0)))] H2 := hP1
  have hD : va_D (c_fr z s.heap.size) [(z, .inr (1, [.ref q1, .null, .null, .int 0])), (q1, .inl (cA 0, 60, .inl (fun _ => 0)))] := hD1
  have hS := hS1
  clear hP1 hD1 hS1
  refine lv_aload_n hx hb dX1_init_12 rfl h0 ?_
  refine lv_bipush hx hb dX1_init_13 (v := 60) (by decide) ?_
  refine va_newa (atype := .int) hx hb (hts _ cw_ai) rfl hK hP hD hS hA (N' := 60) (a0 := (60, .inl (fun _ => 0))) (fun cA => rfl) (by decide) (by decide) (Nat.le_of_ble_eq_true rfl) (Nat.le_of_ble_eq_true rfl) (Nat.le_of_ble_eq_true rfl) dX1_init_15 (fun q2 c1 H1 hK1 hP1 hD1 hS1 => ?_)
  obtain rfl := c_cA hK1 ht0
  clear hK1 hP hD hS
  have hP : va_P D vwCl [(z, .inr (1, [.ref q1, .null, .null, .int 0])), (q1, .inl (cA 0, 60, .inl (fun _ => 0))), (q2, .inl (cA 0, 60, .inl (fun _ => 0)))] H1 := hP1
  have hD : va_D (c_fr z s.heap.size) [(z, .inr (1, [.ref q1, .null, .null, .int 0])), (q1, .inl (cA 0, 60, .inl (fun _ => 0))), (q2, .inl (cA 0, 60, .inl (fun _ => 0)))] := hD1
  have hS := hS1
  clear hP1 hD1 hS1
  refine va_putF (C := RX1) (T := TX1) (N := 4) (own := RX1) (ref := "RowPruner$Index") (ci := 1) hx hb hts (q_tagW 11 (by decide)) tyX1 tyX1_ok nmX1 hown hK hP hD hS 0 rfl rfl 1 (by decide) (hts _ cw_f1_15) (fun _ h => h) rfl hin rfl (ty := .array .int) (by decide +kernel) rfl rfl (Nat.le_of_ble_eq_true rfl) dX1_init_17 (fun H2 locs2 hP1 hD1 hS1 => ?_)
  clear hP hD hS
  have hP : va_P D vwCl [(z, .inr (1, [.ref q1, .ref q2, .null, .int 0])), (q1, .inl (cA 0, 60, .inl (fun _ => 0))), (q2, .inl (cA 0, 60, .inl (fun _ => 0)))] H2 := hP1
  have hD : va_D (c_fr z s.heap.size) [(z, .inr (1, [.ref q1, .ref q2, .null, .int 0])), (q1, .inl (cA 0, 60, .inl (fun _ => 0))), (q2, .inl (cA 0, 60, .inl (fun _ => 0)))] := hD1
  have hS := hS1
  clear hP1 hD1 hS1
  refine lv_aload_n hx hb dX1_init_20 rfl h0 ?_
  refine lv_bipush hx hb dX1_init_21 (v := 60) (by decide) ?_
  refine va_newa (atype := .int) hx hb (hts _ cw_ai) rfl hK hP hD hS hA (N' := 60) (a0 := (60, .inl (fun _ => 0))) (fun cA => rfl) (by decide) (by decide) (Nat.le_of_ble_eq_true rfl) (Nat.le_of_ble_eq_true rfl) (Nat.le_of_ble_eq_true rfl) dX1_init_23 (fun q3 c1 H1 hK1 hP1 hD1 hS1 => ?_)
  obtain rfl := c_cA hK1 ht0
  clear hK1 hP hD hS
  have hP : va_P D vwCl [(z, .inr (1, [.ref q1, .ref q2, .null, .int 0])), (q1, .inl (cA 0, 60, .inl (fun _ => 0))), (q2, .inl (cA 0, 60, .inl (fun _ => 0))), (q3, .inl (cA 0, 60, .inl (fun _ => 0)))] H1 := hP1
  have hD : va_D (c_fr z s.heap.size) [(z, .inr (1, [.ref q1, .ref q2, .null, .int 0])), (q1, .inl (cA 0, 60, .inl (fun _ => 0))), (q2, .inl (cA 0, 60, .inl (fun _ => 0))), (q3, .inl (cA 0, 60, .inl (fun _ => 0)))] := hD1
  have hS := hS1
  clear hP1 hD1 hS1
  refine va_putF (C := RX1) (T := TX1) (N := 4) (own := RX1) (ref := "RowPruner$Index") (ci := 1) hx hb hts (q_tagW 11 (by decide)) tyX1 tyX1_ok nmX1 hown hK hP hD hS 0 rfl rfl 2 (by decide) (hts _ cw_f1_18) (fun _ h => h) rfl hin rfl (ty := .array .int) (by decide +kernel) rfl rfl (Nat.le_of_ble_eq_true rfl) dX1_init_25 (fun H2 locs2 hP1 hD1 hS1 => ?_)
  clear hP hD hS
  have hP : va_P D vwCl [(z, .inr (1, [.ref q1, .ref q2, .ref q3, .int 0])), (q1, .inl (cA 0, 60, .inl (fun _ => 0))), (q2, .inl (cA 0, 60, .inl (fun _ => 0))), (q3, .inl (cA 0, 60, .inl (fun _ => 0)))] H2 := hP1
  have hD : va_D (c_fr z s.heap.size) [(z, .inr (1, [.ref q1, .ref q2, .ref q3, .int 0])), (q1, .inl (cA 0, 60, .inl (fun _ => 0))), (q2, .inl (cA 0, 60, .inl (fun _ => 0))), (q3, .inl (cA 0, 60, .inl (fun _ => 0)))] := hD1
  have hS := hS1
  clear hP1 hD1 hS1
  obtain ⟨g1, g2, g3⟩ := c_fin (self := (11, k, 0)) (dom := [(11, k, 0), (12, k, 0), (13, k, 0), (14, k, 0)]) (ad := fun r => bif Nat.beq r.1 11 then z else bif Nat.beq r.1 12 then q1 else bif Nat.beq r.1 13 then q2 else q3) (cA := cA) (hI := hI) (by
    show [(z, Sum.inr (1, [Value.ref q1, Value.ref q2, Value.ref q3, Value.int (hI.1 11 3 k 0)])), (q1, Sum.inl (cA 0, 60, Sum.inl (fun j => hI.1 12 0 k j))), (q2, Sum.inl (cA 0, 60, Sum.inl (fun j => hI.1 13 0 k j))), (q3, Sum.inl (cA 0, 60, Sum.inl (fun j => hI.1 14 0 k j)))] = _
    simp only [hz 11 (by decide) (by decide), hz 12 (by decide) (by decide), hz 13 (by decide) (by decide), hz 14 (by decide) (by decide)]) hP hD List.mem_cons_self rfl
  exact W.vret hx hb hr (fun t ht _ => ⟨⟨rfl, _, rfl, g1, g2, by rw [ht]; exact g3⟩, hS.F ht⟩) hS.2.2 dX1_init_28 hlk
set_option maxRecDepth 100000 in
theorem cw_ol2 : Cond.methodLink RX2 3 objectInit ∈ lw_tblG := q_g2 (i := 14) rfl rfl
theorem dX2_init_0 : decode cX2_init 0 = .ok (.aload_n 0, 1) := by decide +kernel
theorem dX2_init_1 : decode cX2_init 1 = .ok (.invokespecial 3, 3) := by decide +kernel
theorem dX2_init_4 : decode cX2_init 4 = .ok (.aload_n 0, 1) := by decide +kernel
theorem dX2_init_5 : decode cX2_init 5 = .ok (.bipush 24, 2) := by decide +kernel
theorem dX2_init_7 : decode cX2_init 7 = .ok (.newarray .int, 2) := by decide +kernel
theorem dX2_init_9 : decode cX2_init 9 = .ok (.putfield 9, 3) := by decide +kernel
theorem dX2_init_12 : decode cX2_init 12 = .ok (.aload_n 0, 1) := by decide +kernel
theorem dX2_init_13 : decode cX2_init 13 = .ok (.bipush 24, 2) := by decide +kernel
theorem dX2_init_15 : decode cX2_init 15 = .ok (.newarray .int, 2) := by decide +kernel
theorem dX2_init_17 : decode cX2_init 17 = .ok (.putfield 15, 3) := by decide +kernel
theorem dX2_init_20 : decode cX2_init 20 = .ok (.aload_n 0, 1) := by decide +kernel
theorem dX2_init_21 : decode cX2_init 21 = .ok (.bipush 8, 2) := by decide +kernel
theorem dX2_init_23 : decode cX2_init 23 = .ok (.newarray .int, 2) := by decide +kernel
theorem dX2_init_25 : decode cX2_init 25 = .ok (.putfield 18, 3) := by decide +kernel
theorem dX2_init_28 : decode cX2_init 28 = .ok (.return_, 1) := by decide +kernel
set_option maxRecDepth 100000 in
theorem cw_f2_9 : Cond.fieldLink RX2 9 "RowPruner$Log" "kinds" "[I" ∈ lw_tblG := q_g2 (i := 15) rfl rfl
set_option maxRecDepth 100000 in
theorem cw_f2_15 : Cond.fieldLink RX2 15 "RowPruner$Log" "numbers" "[I" ∈ lw_tblG := q_g2 (i := 16) rfl rfl
set_option maxRecDepth 100000 in
theorem cw_f2_18 : Cond.fieldLink RX2 18 "RowPruner$Log" "counted" "[I" ∈ lw_tblG := q_g2 (i := 17) rfl rfl
set_option maxHeartbeats 4000000 in
set_option maxRecDepth 100000 in
theorem c_i2 {l : Launch} {D : va_G} {cA : Nat → ClassId} {tys : List (ClassId × FieldType)} {X : State → Prop} (ht0 : tys[0]? = some (cA 0, .int)) (z sz k : Nat) (hI : q_H) (hz : ∀ t, 15 ≤ t → t ≤ 18 → ∀ f i, hI.1 t f k i = 0) :
    Met l yX2_init (Cond.code yX2_init cX2_init 1 none :: lw_tblG) { frames := 1, cells := 3, slots := 56, locals := 12 } (va_Pc [.ref z] (c_Pre D tys X z sz 15)) (c_QC D cA hI (15, k, 0) [(15, k, 0), (16, k, 0), (17, k, 0), (18, k, 0)] z sz) 3 56 (c_fr z sz) := by
  refine Met.ofW (cc := cX2_init) (maxL := 1) (ret := none) (by decide +kernel) rfl ?_
  intro p e s m args below meth c s₁ B hml hv
  obtain ⟨rfl, hsz, hP0, hK, hXs⟩ := hv
  have hx := B.exec
  have hb := B.bytes
  have hr := B.returns
  have hts0 := atoms_spec (ws := Cond.code yX2_init cX2_init 1 none :: lw_tblG) B.pre
  have hts : ∀ w ∈ lw_tblG, w.before [Value.ref z].toArray s = true := fun w hw => hts0 w (List.mem_cons_of_mem _ hw)
  have hown : s.vm.findClass RX2 = some m.cls := findClass_of_methodNamed B.named
  have hlk := B.notSynchronized
  have hin : meth.name = "<init>" := (name_of_methodNamed B.named B.method).1
  subst hsz
  have hP : va_P D vwCl [(z, .inr (2, [.null, .null, .null, .int 0]))] s.heap := hP0
  have hD : va_D (c_fr z s.heap.size) [(z, .inr (2, [.null, .null, .null, .int 0]))] := c_D1 _
  have hA : ∀ q : Nat, s.heap.size ≤ q → c_fr z s.heap.size q := fun q h => Or.inr h
  have hS : va_S (c_fr z s.heap.size) s.heap s.heap [] := va_S.rf
  have hl := lv_entry [.ref z] (n := 1) (Nat.le_of_ble_eq_true rfl)
  rw [lg_entry_eq]
  generalize (lg_sl ([.ref z]) ++ List.replicate (1 - (lg_sl ([.ref z])).length) Slot.unset).toArray = ls at hl ⊢
  have h0 := hl.2.2 (0, .ref z) (by simp [lv_args])
  refine lv_aload_n hx hb dX2_init_0 rfl h0 ?_
  refine W.objInit hx hb hown (hts _ cw_ol2) (hts _ cw_oi) (hts _ cw_oc) rfl (by rw [hml]; exact hl.1) rfl dX2_init_1 (Nat.le_of_ble_eq_true rfl) (Nat.le_of_ble_eq_true rfl) ?_
  refine W.eq (g2 := F0 m 4 ls []) rfl ?_
  refine lv_aload_n hx hb dX2_init_4 rfl h0 ?_
  refine lv_bipush hx hb dX2_init_5 (v := 24) (by decide) ?_
  refine va_newa (atype := .int) hx hb (hts _ cw_ai) rfl hK hP hD hS hA (N' := 24) (a0 := (24, .inl (fun _ => 0))) (fun cA => rfl) (by decide) (by decide) (Nat.le_of_ble_eq_true rfl) (Nat.le_of_ble_eq_true rfl) (Nat.le_of_ble_eq_true rfl) dX2_init_7 (fun q1 c1 H1 hK1 hP1 hD1 hS1 => ?_)
  obtain rfl := c_cA hK1 ht0
  clear hK1 hP hD hS
  have hP : va_P D vwCl [(z, .inr (2, [.null, .null, .null, .int 0])), (q1, .inl (cA 0, 24, .inl (fun _ => 0)))] H1 := hP1
  have hD : va_D (c_fr z s.heap.size) [(z, .inr (2, [.null, .null, .null, .int 0])), (q1, .inl (cA 0, 24, .inl (fun _ => 0)))] := hD1
  have hS := hS1
  clear hP1 hD1 hS1
  refine va_putF (C := RX2) (T := TX2) (N := 4) (own := RX2) (ref := "RowPruner$Log") (ci := 2) hx hb hts (q_tagW 15 (by decide)) tyX2 tyX2_ok nmX2 hown hK hP hD hS 0 rfl rfl 0 (by decide) (hts _ cw_f2_9) (fun _ h => h) rfl hin rfl (ty := .array .int) (by decide +kernel) rfl rfl (Nat.le_of_ble_eq_true rfl) dX2_init_9 (fun H2 locs2 hP1 hD1 hS1 => ?_)
  clear hP hD hS
  have hP : va_P D vwCl [(z, .inr (2, [.ref q1, .null, .null, .int 0])), (q1, .inl (cA 0, 24, .inl (fun _ => 0)))] H2 := hP1
  have hD : va_D (c_fr z s.heap.size) [(z, .inr (2, [.ref q1, .null, .null, .int 0])), (q1, .inl (cA 0, 24, .inl (fun _ => 0)))] := hD1
  have hS := hS1
  clear hP1 hD1 hS1
  refine lv_aload_n hx hb dX2_init_12 rfl h0 ?_
  refine lv_bipush hx hb dX2_init_13 (v := 24) (by decide) ?_
  refine va_newa (atype := .int) hx hb (hts _ cw_ai) rfl hK hP hD hS hA (N' := 24) (a0 := (24, .inl (fun _ => 0))) (fun cA => rfl) (by decide) (by decide) (Nat.le_of_ble_eq_true rfl) (Nat.le_of_ble_eq_true rfl) (Nat.le_of_ble_eq_true rfl) dX2_init_15 (fun q2 c1 H1 hK1 hP1 hD1 hS1 => ?_)
  obtain rfl := c_cA hK1 ht0
  clear hK1 hP hD hS
  have hP : va_P D vwCl [(z, .inr (2, [.ref q1, .null, .null, .int 0])), (q1, .inl (cA 0, 24, .inl (fun _ => 0))), (q2, .inl (cA 0, 24, .inl (fun _ => 0)))] H1 := hP1
  have hD : va_D (c_fr z s.heap.size) [(z, .inr (2, [.ref q1, .null, .null, .int 0])), (q1, .inl (cA 0, 24, .inl (fun _ => 0))), (q2, .inl (cA 0, 24, .inl (fun _ => 0)))] := hD1
  have hS := hS1
  clear hP1 hD1 hS1
  refine va_putF (C := RX2) (T := TX2) (N := 4) (own := RX2) (ref := "RowPruner$Log") (ci := 2) hx hb hts (q_tagW 15 (by decide)) tyX2 tyX2_ok nmX2 hown hK hP hD hS 0 rfl rfl 1 (by decide) (hts _ cw_f2_15) (fun _ h => h) rfl hin rfl (ty := .array .int) (by decide +kernel) rfl rfl (Nat.le_of_ble_eq_true rfl) dX2_init_17 (fun H2 locs2 hP1 hD1 hS1 => ?_)
  clear hP hD hS
  have hP : va_P D vwCl [(z, .inr (2, [.ref q1, .ref q2, .null, .int 0])), (q1, .inl (cA 0, 24, .inl (fun _ => 0))), (q2, .inl (cA 0, 24, .inl (fun _ => 0)))] H2 := hP1
  have hD : va_D (c_fr z s.heap.size) [(z, .inr (2, [.ref q1, .ref q2, .null, .int 0])), (q1, .inl (cA 0, 24, .inl (fun _ => 0))), (q2, .inl (cA 0, 24, .inl (fun _ => 0)))] := hD1
  have hS := hS1
  clear hP1 hD1 hS1
  refine lv_aload_n hx hb dX2_init_20 rfl h0 ?_
  refine lv_bipush hx hb dX2_init_21 (v := 8) (by decide) ?_
  refine va_newa (atype := .int) hx hb (hts _ cw_ai) rfl hK hP hD hS hA (N' := 8) (a0 := (8, .inl (fun _ => 0))) (fun cA => rfl) (by decide) (by decide) (Nat.le_of_ble_eq_true rfl) (Nat.le_of_ble_eq_true rfl) (Nat.le_of_ble_eq_true rfl) dX2_init_23 (fun q3 c1 H1 hK1 hP1 hD1 hS1 => ?_)
  obtain rfl := c_cA hK1 ht0
  clear hK1 hP hD hS
  have hP : va_P D vwCl [(z, .inr (2, [.ref q1, .ref q2, .null, .int 0])), (q1, .inl (cA 0, 24, .inl (fun _ => 0))), (q2, .inl (cA 0, 24, .inl (fun _ => 0))), (q3, .inl (cA 0, 8, .inl (fun _ => 0)))] H1 := hP1
  have hD : va_D (c_fr z s.heap.size) [(z, .inr (2, [.ref q1, .ref q2, .null, .int 0])), (q1, .inl (cA 0, 24, .inl (fun _ => 0))), (q2, .inl (cA 0, 24, .inl (fun _ => 0))), (q3, .inl (cA 0, 8, .inl (fun _ => 0)))] := hD1
  have hS := hS1
  clear hP1 hD1 hS1
  refine va_putF (C := RX2) (T := TX2) (N := 4) (own := RX2) (ref := "RowPruner$Log") (ci := 2) hx hb hts (q_tagW 15 (by decide)) tyX2 tyX2_ok nmX2 hown hK hP hD hS 0 rfl rfl 2 (by decide) (hts _ cw_f2_18) (fun _ h => h) rfl hin rfl (ty := .array .int) (by decide +kernel) rfl rfl (Nat.le_of_ble_eq_true rfl) dX2_init_25 (fun H2 locs2 hP1 hD1 hS1 => ?_)
  clear hP hD hS
  have hP : va_P D vwCl [(z, .inr (2, [.ref q1, .ref q2, .ref q3, .int 0])), (q1, .inl (cA 0, 24, .inl (fun _ => 0))), (q2, .inl (cA 0, 24, .inl (fun _ => 0))), (q3, .inl (cA 0, 8, .inl (fun _ => 0)))] H2 := hP1
  have hD : va_D (c_fr z s.heap.size) [(z, .inr (2, [.ref q1, .ref q2, .ref q3, .int 0])), (q1, .inl (cA 0, 24, .inl (fun _ => 0))), (q2, .inl (cA 0, 24, .inl (fun _ => 0))), (q3, .inl (cA 0, 8, .inl (fun _ => 0)))] := hD1
  have hS := hS1
  clear hP1 hD1 hS1
  obtain ⟨g1, g2, g3⟩ := c_fin (self := (15, k, 0)) (dom := [(15, k, 0), (16, k, 0), (17, k, 0), (18, k, 0)]) (ad := fun r => bif Nat.beq r.1 15 then z else bif Nat.beq r.1 16 then q1 else bif Nat.beq r.1 17 then q2 else q3) (cA := cA) (hI := hI) (by
    show [(z, Sum.inr (2, [Value.ref q1, Value.ref q2, Value.ref q3, Value.int (hI.1 15 3 k 0)])), (q1, Sum.inl (cA 0, 24, Sum.inl (fun j => hI.1 16 0 k j))), (q2, Sum.inl (cA 0, 24, Sum.inl (fun j => hI.1 17 0 k j))), (q3, Sum.inl (cA 0, 8, Sum.inl (fun j => hI.1 18 0 k j)))] = _
    simp only [hz 15 (by decide) (by decide), hz 16 (by decide) (by decide), hz 17 (by decide) (by decide), hz 18 (by decide) (by decide)]) hP hD List.mem_cons_self rfl
  exact W.vret hx hb hr (fun t ht _ => ⟨⟨rfl, _, rfl, g1, g2, by rw [ht]; exact g3⟩, hS.F ht⟩) hS.2.2 dX2_init_28 hlk
