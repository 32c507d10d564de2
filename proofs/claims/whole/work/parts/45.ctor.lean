set_option maxRecDepth 100000 in
theorem cw_oi : Cond.instanceMethod objectInit ∈ lw_tblG := q_g1 (i := 24) rfl rfl
set_option maxRecDepth 100000 in
theorem cw_ai : Cond.arrayClass .int ∈ lw_tblG := q_g1 (i := 90) rfl rfl
set_option maxRecDepth 100000 in
theorem cw_oc : Cond.code objectInit ⟨#[0xb1]⟩ 1 none ∈ lw_tblG := q_g1 (i := 25) rfl rfl
set_option maxRecDepth 100000 in
theorem cw_ol0 : Cond.methodLink RX0 3 objectInit ∈ lw_tblG := q_g2 (i := 34) rfl rfl
set_option maxRecDepth 100000 in
theorem cw_f0_9 : Cond.fieldLink RX0 9 "RowPruner$Found" "rows" "[I" ∈ lw_tblG := q_g2 (i := 35) rfl rfl
set_option maxRecDepth 100000 in
theorem cw_f0_15 : Cond.fieldLink RX0 15 "RowPruner$Found" "values" "[I" ∈ lw_tblG := q_g2 (i := 36) rfl rfl
set_option maxRecDepth 100000 in
theorem cw_f0_18 : Cond.fieldLink RX0 18 "RowPruner$Found" "places" "[I" ∈ lw_tblG := q_g2 (i := 37) rfl rfl
set_option maxRecDepth 100000 in
theorem cw_f0_21 : Cond.fieldLink RX0 21 "RowPruner$Found" "aheads" "[I" ∈ lw_tblG := q_g2 (i := 38) rfl rfl
theorem dX0_init_0 : decode cX0_init 0 = .ok (.aload_n 0, 1) := by decide +kernel
theorem dX0_init_1 : decode cX0_init 1 = .ok (.invokespecial 3, 3) := by decide +kernel
theorem dX0_init_4 : decode cX0_init 4 = .ok (.aload_n 0, 1) := by decide +kernel
theorem dX0_init_5 : decode cX0_init 5 = .ok (.bipush 60, 2) := by decide +kernel
theorem dX0_init_7 : decode cX0_init 7 = .ok (.newarray .int, 2) := by decide +kernel
theorem dX0_init_9 : decode cX0_init 9 = .ok (.putfield 9, 3) := by decide +kernel
theorem dX0_init_12 : decode cX0_init 12 = .ok (.aload_n 0, 1) := by decide +kernel
theorem dX0_init_13 : decode cX0_init 13 = .ok (.bipush 60, 2) := by decide +kernel
theorem dX0_init_15 : decode cX0_init 15 = .ok (.newarray .int, 2) := by decide +kernel
theorem dX0_init_17 : decode cX0_init 17 = .ok (.putfield 15, 3) := by decide +kernel
theorem dX0_init_20 : decode cX0_init 20 = .ok (.aload_n 0, 1) := by decide +kernel
theorem dX0_init_21 : decode cX0_init 21 = .ok (.bipush 60, 2) := by decide +kernel
theorem dX0_init_23 : decode cX0_init 23 = .ok (.newarray .int, 2) := by decide +kernel
theorem dX0_init_25 : decode cX0_init 25 = .ok (.putfield 18, 3) := by decide +kernel
theorem dX0_init_28 : decode cX0_init 28 = .ok (.aload_n 0, 1) := by decide +kernel
theorem dX0_init_29 : decode cX0_init 29 = .ok (.bipush 60, 2) := by decide +kernel
theorem dX0_init_31 : decode cX0_init 31 = .ok (.newarray .int, 2) := by decide +kernel
theorem dX0_init_33 : decode cX0_init 33 = .ok (.putfield 21, 3) := by decide +kernel
theorem dX0_init_36 : decode cX0_init 36 = .ok (.return_, 1) := by decide +kernel
def c_df (t : Nat) : List Value := (q_fl t).map (fun c => bif Nat.ble c 1 then .int 0 else bif Nat.beq c 2 then .long 0 else .null)
def c_fr (z sz : Nat) : Nat → Prop := fun q => q = z ∨ sz ≤ q
def c_Pre (D : va_G) (tys : List (ClassId × FieldType)) (X : State → Prop) (z sz t : Nat) : State → Prop := fun U => U.heap.size = sz ∧ va_P D vwCl [(z, .inr (q_ci t, c_df t))] U.heap ∧ va_K D vwCl tys U ∧ X U
def c_QC (D : va_G) (cA : Nat → ClassId) (hI : q_H) (self : q_R) (dom : List q_R) (z sz : Nat) : Array Value → State → Outcome → State → Prop := fun _ st oc t =>
  (oc = .returned none ∧ ∃ ad : q_R → Nat, ad self = z ∧ (∀ r ∈ dom, ∀ r' ∈ dom, ad r = ad r' → r = r') ∧ (∀ r ∈ dom, r = self ∨ sz ≤ ad r) ∧ c_w D dom ad cA hI t.heap) ∧ va_F (c_fr z sz) st t
theorem c_fin {D : va_G} {dom : List q_R} {ad : q_R → Nat} {cA : Nat → ClassId} {hI : q_H} {ws : va_W} {H : Heap} {z sz : Nat} {self : q_R} (he : q_ws dom ad cA hI = ws) (hP : va_P D vwCl ws H) (hD : va_D (c_fr z sz) ws) (hs : self ∈ dom) (hz : ad self = z) :
    (∀ r ∈ dom, ∀ r' ∈ dom, ad r = ad r' → r = r') ∧ (∀ r ∈ dom, r = self ∨ sz ≤ ad r) ∧ c_w D dom ad cA hI H := by
  subst he
  have inj : ∀ r ∈ dom, ∀ r' ∈ dom, ad r = ad r' → r = r' := by
    intro r hr r' hr' e
    obtain ⟨i, hi, hi2⟩ := q_ws_at (ad := ad) (cA := cA) (h := hI) hr
    obtain ⟨j, hj, hj2⟩ := q_ws_at (ad := ad) (cA := cA) (h := hI) hr'
    have hij := hD.1 i j _ _ hi2 hj2 e
    subst hij
    exact Option.some.inj (hi.symm.trans hj)
  refine ⟨inj, fun r hr => ?_, c_w_P.mpr hP⟩
  obtain ⟨i, hi, hi2⟩ := q_ws_at (ad := ad) (cA := cA) (h := hI) hr
  rcases hD.2 i _ hi2 with h | h
  · exact Or.inl (inj r hr self hs (h.trans hz.symm))
  · exact Or.inr h
set_option maxHeartbeats 4000000 in
set_option maxRecDepth 100000 in
theorem c_i0 {l : Launch} {D : va_G} {cA : Nat → ClassId} {tys : List (ClassId × FieldType)} {X : State → Prop} (ht0 : tys[0]? = some (cA 0, .int)) (z sz k : Nat) (hI : q_H) (hz : ∀ t, 19 ≤ t → t ≤ 23 → ∀ f i, hI.1 t f k i = 0) :
    Met l yX0_init (Cond.code yX0_init cX0_init 1 none :: lw_tblG) { frames := 1, cells := 4, slots := 240, locals := 12 } (va_Pc [.ref z] (c_Pre D tys X z sz 19)) (c_QC D cA hI (19, k, 0) [(19, k, 0), (20, k, 0), (21, k, 0), (22, k, 0), (23, k, 0)] z sz) 4 240 (c_fr z sz) := by
  refine Met.ofW (cc := cX0_init) (maxL := 1) (ret := none) (by decide +kernel) rfl ?_
  intro p e s m args below meth c s₁ B hml hv
  obtain ⟨rfl, hsz, hP0, hK, hXs⟩ := hv
  have hx := B.exec
  have hb := B.bytes
  have hr := B.returns
  have hts0 := atoms_spec (ws := Cond.code yX0_init cX0_init 1 none :: lw_tblG) B.pre
  have hts : ∀ w ∈ lw_tblG, w.before [Value.ref z].toArray s = true := fun w hw => hts0 w (List.mem_cons_of_mem _ hw)
  have hown : s.vm.findClass RX0 = some m.cls := findClass_of_methodNamed B.named
  have hlk := B.notSynchronized
  have hin : meth.name = "<init>" := (name_of_methodNamed B.named B.method).1
  subst hsz
  have hP : va_P D vwCl [(z, .inr (0, [.null, .null, .null, .null, .int 0]))] s.heap := hP0
  have hzl : z < s.heap.size := (hP 0 _ rfl).lt
  have hD : va_D (c_fr z s.heap.size) [(z, .inr (0, [.null, .null, .null, .null, .int 0]))] := ⟨fun i j p q hi hj _ => by
    have h1 := (List.getElem?_eq_some_iff.mp hi).1
    have h2 := (List.getElem?_eq_some_iff.mp hj).1
    simp at h1 h2
    omega, fun k q hk => by
    have h1 := (List.getElem?_eq_some_iff.mp hk).1
    simp at h1
    subst h1
    cases hk
    exact Or.inl rfl⟩
  have hA : ∀ q : Nat, s.heap.size ≤ q → c_fr z s.heap.size q := fun q h => Or.inr h
  have hS : va_S (c_fr z s.heap.size) s.heap s.heap [] := va_S.rf
  have hl := lv_entry [.ref z] (n := 1) (Nat.le_of_ble_eq_true rfl)
  rw [lg_entry_eq]
  generalize (lg_sl ([.ref z]) ++ List.replicate (1 - (lg_sl ([.ref z])).length) Slot.unset).toArray = ls at hl ⊢
  have h0 := hl.2.2 (0, .ref z) (by simp [lv_args])
  refine lv_aload_n hx hb dX0_init_0 rfl h0 ?_
  refine W.objInit hx hb hown (hts _ cw_ol0) (hts _ cw_oi) (hts _ cw_oc) rfl (by rw [hml]; exact hl.1) rfl dX0_init_1 (Nat.le_of_ble_eq_true rfl) (Nat.le_of_ble_eq_true rfl) ?_
  refine W.eq (g2 := F0 m 4 ls []) rfl ?_
  refine lv_aload_n hx hb dX0_init_4 rfl h0 ?_
  refine lv_bipush hx hb dX0_init_5 (v := 60) (by decide) ?_
  refine va_newa (atype := .int) hx hb (hts _ cw_ai) rfl hK hP hD hS hA (N' := 60) (a0 := (60, .inl (fun _ => 0))) (fun cA => rfl) (by decide) (by decide) (Nat.le_of_ble_eq_true rfl) (Nat.le_of_ble_eq_true rfl) (Nat.le_of_ble_eq_true rfl) dX0_init_7 (fun q1 c1 H1 hK1 hP1 hD1 hS1 => ?_)
  obtain rfl := c_cA hK1 ht0
  clear hK1 hP hD hS
  have hP : va_P D vwCl [(z, .inr (0, [.null, .null, .null, .null, .int 0])), (q1, .inl (cA 0, 60, .inl (fun _ => 0)))] H1 := hP1
  have hD : va_D (c_fr z s.heap.size) [(z, .inr (0, [.null, .null, .null, .null, .int 0])), (q1, .inl (cA 0, 60, .inl (fun _ => 0)))] := hD1
  have hS := hS1
  clear hP1 hD1 hS1
  refine va_putF (C := RX0) (T := TX0) (N := 5) (own := RX0) (ref := "RowPruner$Found") (ci := 0) hx hb hts (q_tagW 19 (by decide)) tyX0 tyX0_ok nmX0 hown hK hP hD hS 0 rfl rfl 0 (by decide) (hts _ cw_f0_9) (fun _ h => h) rfl hin rfl (ty := .array .int) (by decide +kernel) rfl rfl (Nat.le_of_ble_eq_true rfl) dX0_init_9 (fun H2 locs2 hP1 hD1 hS1 => ?_)
  clear hP hD hS
  have hP : va_P D vwCl [(z, .inr (0, [.ref q1, .null, .null, .null, .int 0])), (q1, .inl (cA 0, 60, .inl (fun _ => 0)))] H2 := hP1
  have hD : va_D (c_fr z s.heap.size) [(z, .inr (0, [.ref q1, .null, .null, .null, .int 0])), (q1, .inl (cA 0, 60, .inl (fun _ => 0)))] := hD1
  have hS := hS1
  clear hP1 hD1 hS1
  refine lv_aload_n hx hb dX0_init_12 rfl h0 ?_
  refine lv_bipush hx hb dX0_init_13 (v := 60) (by decide) ?_
  refine va_newa (atype := .int) hx hb (hts _ cw_ai) rfl hK hP hD hS hA (N' := 60) (a0 := (60, .inl (fun _ => 0))) (fun cA => rfl) (by decide) (by decide) (Nat.le_of_ble_eq_true rfl) (Nat.le_of_ble_eq_true rfl) (Nat.le_of_ble_eq_true rfl) dX0_init_15 (fun q2 c1 H1 hK1 hP1 hD1 hS1 => ?_)
  obtain rfl := c_cA hK1 ht0
  clear hK1 hP hD hS
  have hP : va_P D vwCl [(z, .inr (0, [.ref q1, .null, .null, .null, .int 0])), (q1, .inl (cA 0, 60, .inl (fun _ => 0))), (q2, .inl (cA 0, 60, .inl (fun _ => 0)))] H1 := hP1
  have hD : va_D (c_fr z s.heap.size) [(z, .inr (0, [.ref q1, .null, .null, .null, .int 0])), (q1, .inl (cA 0, 60, .inl (fun _ => 0))), (q2, .inl (cA 0, 60, .inl (fun _ => 0)))] := hD1
  have hS := hS1
  clear hP1 hD1 hS1
  refine va_putF (C := RX0) (T := TX0) (N := 5) (own := RX0) (ref := "RowPruner$Found") (ci := 0) hx hb hts (q_tagW 19 (by decide)) tyX0 tyX0_ok nmX0 hown hK hP hD hS 0 rfl rfl 1 (by decide) (hts _ cw_f0_15) (fun _ h => h) rfl hin rfl (ty := .array .int) (by decide +kernel) rfl rfl (Nat.le_of_ble_eq_true rfl) dX0_init_17 (fun H2 locs2 hP1 hD1 hS1 => ?_)
  clear hP hD hS
  have hP : va_P D vwCl [(z, .inr (0, [.ref q1, .ref q2, .null, .null, .int 0])), (q1, .inl (cA 0, 60, .inl (fun _ => 0))), (q2, .inl (cA 0, 60, .inl (fun _ => 0)))] H2 := hP1
  have hD : va_D (c_fr z s.heap.size) [(z, .inr (0, [.ref q1, .ref q2, .null, .null, .int 0])), (q1, .inl (cA 0, 60, .inl (fun _ => 0))), (q2, .inl (cA 0, 60, .inl (fun _ => 0)))] := hD1
  have hS := hS1
  clear hP1 hD1 hS1
  refine lv_aload_n hx hb dX0_init_20 rfl h0 ?_
  refine lv_bipush hx hb dX0_init_21 (v := 60) (by decide) ?_
  refine va_newa (atype := .int) hx hb (hts _ cw_ai) rfl hK hP hD hS hA (N' := 60) (a0 := (60, .inl (fun _ => 0))) (fun cA => rfl) (by decide) (by decide) (Nat.le_of_ble_eq_true rfl) (Nat.le_of_ble_eq_true rfl) (Nat.le_of_ble_eq_true rfl) dX0_init_23 (fun q3 c1 H1 hK1 hP1 hD1 hS1 => ?_)
  obtain rfl := c_cA hK1 ht0
  clear hK1 hP hD hS
  have hP : va_P D vwCl [(z, .inr (0, [.ref q1, .ref q2, .null, .null, .int 0])), (q1, .inl (cA 0, 60, .inl (fun _ => 0))), (q2, .inl (cA 0, 60, .inl (fun _ => 0))), (q3, .inl (cA 0, 60, .inl (fun _ => 0)))] H1 := hP1
  have hD : va_D (c_fr z s.heap.size) [(z, .inr (0, [.ref q1, .ref q2, .null, .null, .int 0])), (q1, .inl (cA 0, 60, .inl (fun _ => 0))), (q2, .inl (cA 0, 60, .inl (fun _ => 0))), (q3, .inl (cA 0, 60, .inl (fun _ => 0)))] := hD1
  have hS := hS1
  clear hP1 hD1 hS1
  refine va_putF (C := RX0) (T := TX0) (N := 5) (own := RX0) (ref := "RowPruner$Found") (ci := 0) hx hb hts (q_tagW 19 (by decide)) tyX0 tyX0_ok nmX0 hown hK hP hD hS 0 rfl rfl 2 (by decide) (hts _ cw_f0_18) (fun _ h => h) rfl hin rfl (ty := .array .int) (by decide +kernel) rfl rfl (Nat.le_of_ble_eq_true rfl) dX0_init_25 (fun H2 locs2 hP1 hD1 hS1 => ?_)
  clear hP hD hS
  have hP : va_P D vwCl [(z, .inr (0, [.ref q1, .ref q2, .ref q3, .null, .int 0])), (q1, .inl (cA 0, 60, .inl (fun _ => 0))), (q2, .inl (cA 0, 60, .inl (fun _ => 0))), (q3, .inl (cA 0, 60, .inl (fun _ => 0)))] H2 := hP1
  have hD : va_D (c_fr z s.heap.size) [(z, .inr (0, [.ref q1, .ref q2, .ref q3, .null, .int 0])), (q1, .inl (cA 0, 60, .inl (fun _ => 0))), (q2, .inl (cA 0, 60, .inl (fun _ => 0))), (q3, .inl (cA 0, 60, .inl (fun _ => 0)))] := hD1
  have hS := hS1
  clear hP1 hD1 hS1
  refine lv_aload_n hx hb dX0_init_28 rfl h0 ?_
  refine lv_bipush hx hb dX0_init_29 (v := 60) (by decide) ?_
  refine va_newa (atype := .int) hx hb (hts _ cw_ai) rfl hK hP hD hS hA (N' := 60) (a0 := (60, .inl (fun _ => 0))) (fun cA => rfl) (by decide) (by decide) (Nat.le_of_ble_eq_true rfl) (Nat.le_of_ble_eq_true rfl) (Nat.le_of_ble_eq_true rfl) dX0_init_31 (fun q4 c1 H1 hK1 hP1 hD1 hS1 => ?_)
  obtain rfl := c_cA hK1 ht0
  clear hK1 hP hD hS
  have hP : va_P D vwCl [(z, .inr (0, [.ref q1, .ref q2, .ref q3, .null, .int 0])), (q1, .inl (cA 0, 60, .inl (fun _ => 0))), (q2, .inl (cA 0, 60, .inl (fun _ => 0))), (q3, .inl (cA 0, 60, .inl (fun _ => 0))), (q4, .inl (cA 0, 60, .inl (fun _ => 0)))] H1 := hP1
  have hD : va_D (c_fr z s.heap.size) [(z, .inr (0, [.ref q1, .ref q2, .ref q3, .null, .int 0])), (q1, .inl (cA 0, 60, .inl (fun _ => 0))), (q2, .inl (cA 0, 60, .inl (fun _ => 0))), (q3, .inl (cA 0, 60, .inl (fun _ => 0))), (q4, .inl (cA 0, 60, .inl (fun _ => 0)))] := hD1
  have hS := hS1
  clear hP1 hD1 hS1
  refine va_putF (C := RX0) (T := TX0) (N := 5) (own := RX0) (ref := "RowPruner$Found") (ci := 0) hx hb hts (q_tagW 19 (by decide)) tyX0 tyX0_ok nmX0 hown hK hP hD hS 0 rfl rfl 3 (by decide) (hts _ cw_f0_21) (fun _ h => h) rfl hin rfl (ty := .array .int) (by decide +kernel) rfl rfl (Nat.le_of_ble_eq_true rfl) dX0_init_33 (fun H2 locs2 hP1 hD1 hS1 => ?_)
  clear hP hD hS
  have hP : va_P D vwCl [(z, .inr (0, [.ref q1, .ref q2, .ref q3, .ref q4, .int 0])), (q1, .inl (cA 0, 60, .inl (fun _ => 0))), (q2, .inl (cA 0, 60, .inl (fun _ => 0))), (q3, .inl (cA 0, 60, .inl (fun _ => 0))), (q4, .inl (cA 0, 60, .inl (fun _ => 0)))] H2 := hP1
  have hD : va_D (c_fr z s.heap.size) [(z, .inr (0, [.ref q1, .ref q2, .ref q3, .ref q4, .int 0])), (q1, .inl (cA 0, 60, .inl (fun _ => 0))), (q2, .inl (cA 0, 60, .inl (fun _ => 0))), (q3, .inl (cA 0, 60, .inl (fun _ => 0))), (q4, .inl (cA 0, 60, .inl (fun _ => 0)))] := hD1
  have hS := hS1
  clear hP1 hD1 hS1
  obtain ⟨g1, g2, g3⟩ := c_fin (self := (19, k, 0)) (dom := [(19, k, 0), (20, k, 0), (21, k, 0), (22, k, 0), (23, k, 0)]) (ad := fun r => bif Nat.beq r.1 19 then z else bif Nat.beq r.1 20 then q1 else bif Nat.beq r.1 21 then q2 else bif Nat.beq r.1 22 then q3 else q4) (cA := cA) (hI := hI) (by
    show [(z, Sum.inr (0, [Value.ref q1, Value.ref q2, Value.ref q3, Value.ref q4, Value.int (hI.1 19 4 k 0)])), (q1, Sum.inl (cA 0, 60, Sum.inl (fun j => hI.1 20 0 k j))), (q2, Sum.inl (cA 0, 60, Sum.inl (fun j => hI.1 21 0 k j))), (q3, Sum.inl (cA 0, 60, Sum.inl (fun j => hI.1 22 0 k j))), (q4, Sum.inl (cA 0, 60, Sum.inl (fun j => hI.1 23 0 k j)))] = _
    simp only [hz 19 (by decide) (by decide), hz 20 (by decide) (by decide), hz 21 (by decide) (by decide), hz 22 (by decide) (by decide), hz 23 (by decide) (by decide)]) hP hD List.mem_cons_self rfl
  exact W.vret hx hb hr (fun t ht _ => ⟨⟨rfl, _, rfl, g1, g2, by rw [ht]; exact g3⟩, hS.F ht⟩) hS.2.2 dX0_init_36 hlk
