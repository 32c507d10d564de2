/-! THE LAW'S START: both objects, the first heap, the loop -/
set_option maxRecDepth 100000 in
theorem nw_n1 : Cond.methodLinkNest RX8 11 yX6_init RX8 ∈ lw_tbl := q_u1 (i := 28) rfl
set_option maxRecDepth 100000 in
theorem nw_n2 : Cond.methodLinkNest RX8 18 yX5_init RX8 ∈ lw_tbl := q_u1 (i := 93) rfl
set_option maxRecDepth 100000 in
theorem nw_n3 : Cond.methodLinkNest RX5 27 yX1_init RX8 ∈ lw_tbl := q_u1 (i := 230) rfl
set_option maxRecDepth 100000 in
theorem nw_n4 : Cond.methodLinkNest RX5 34 yX2_init RX8 ∈ lw_tbl := q_u2 (i := 11) rfl
set_option maxRecDepth 100000 in
theorem nw_n5 : Cond.methodLinkNest RX5 41 yX0_init RX8 ∈ lw_tbl := q_u2 (i := 31) rfl
set_option maxRecDepth 100000 in
theorem nw_o1 : Cond.arrayOver (.object "RowPruner$Slot") ∈ lw_tbl := q_u1 (i := 104) rfl
set_option maxRecDepth 100000 in
theorem nw_o2 : Cond.arrayOver (.object "RowPruner$Store") ∈ lw_tbl := q_u2 (i := 89) rfl
set_option maxRecDepth 100000 in
theorem nw_lcl1 : Cond.classLink R_law 7 RX8 ∈ lw_tblG := q_g1 (i := 18) rfl rfl
set_option maxRecDepth 100000 in
theorem nw_lcl2 : Cond.classLink R_law 10 RX9 ∈ lw_tblG := q_g5 (i := 212) rfl rfl
set_option maxRecDepth 100000 in
theorem nw_lml1 : Cond.methodLink R_law 9 yX8_init ∈ lw_tblG := q_g1 (i := 20) rfl rfl
set_option maxRecDepth 100000 in
theorem nw_lml2 : Cond.methodLink R_law 12 yX9_init ∈ lw_tblG := q_g5 (i := 214) rfl rfl
def nw_dom : List q_R := ((24, 6, 0) :: nw_dR) ++ ((30, 7, 0) :: nw_dM)
set_option maxRecDepth 100000 in
theorem nw_dom_o : nw_dom.map (nw_ad 0 (fun _ => 0)) = List.range 521 := by decide +kernel
set_option maxRecDepth 100000 in
theorem nw_dom_1 : ∀ r ∈ nw_dom, r.1 < 60 ∧ ((q_fl r.1).isEmpty = true → r.2.2 = 0 ∧ q_at r.1 < 5) := by decide +kernel
set_option maxRecDepth 100000 in
theorem nw_dom_2 : ∀ r ∈ nw_dom, ∀ c ∈ q_fl r.1, 3 ≤ c → q_rf c r.2.1 ∈ nw_dom := by decide +kernel
set_option maxRecDepth 100000 in
theorem nw_dom_3 : ∀ r ∈ nw_dom, (q_at r.1 = 3 ∨ q_at r.1 = 4) → ∀ j, j < q_al r.1 → q_ra r.1 r.2.1 j ∈ nw_dom := by decide +kernel
theorem nw_ad_o {B : Nat} {adK : Nat → Nat} {r : q_R} (h : r.1 < 60) : nw_ad B adK r = B + nw_ad 0 (fun _ => 0) r := by
  obtain ⟨t, k, i⟩ := r
  have h : t < 60 := h
  have e : ∀ B adK, nw_ad B adK (t, k, i) = (if t = 60 then adK i else if 30 ≤ t then B + (479 + t) else if t = 28 then B + 256 else if 24 ≤ t then B + (t - 24) else nw_b B k + nw_of t i) := fun _ _ => rfl
  rw [e, e]
  unfold nw_b
  by_cases h0 : t = 60
  · omega
  rw [if_neg h0, if_neg h0]
  by_cases h1 : 30 ≤ t
  · rw [if_pos h1, if_pos h1]; omega
  rw [if_neg h1, if_neg h1]
  by_cases h2 : t = 28
  · rw [if_pos h2, if_pos h2]
  rw [if_neg h2, if_neg h2]
  by_cases h3 : 24 ≤ t
  · rw [if_pos h3, if_pos h3]; omega
  rw [if_neg h3, if_neg h3]
  omega
theorem nw_dom_i {i : Nat} {r : q_R} (h : nw_dom[i]? = some r) : nw_ad 0 (fun _ => 0) r = i := by
  have h1 : (nw_dom.map (nw_ad 0 (fun _ => 0)))[i]? = some (nw_ad 0 (fun _ => 0) r) := by rw [List.getElem?_map, h]; rfl
  rw [nw_dom_o] at h1
  have h2 : i < 521 := by
    have := (List.getElem?_eq_some_iff.mp h1).1
    rwa [List.length_range] at this
  rw [List.getElem?_range h2] at h1
  exact (Option.some.inj h1).symm
theorem nw_Cx {B : Nat} {adK : Nat → Nat} {cA : Nat → ClassId} : q_Cx nw_dom (nw_ad B adK) cA (nw_tys cA) (fun q => B ≤ q) := by
  refine ⟨fun r hr r' hr' e => ?_, fun i j r hi hj => ?_, fun r hr => ?_, fun r hr => ⟨?_, fun he => ⟨?_, ?_, ?_⟩⟩, fun r hr f c hf hc => nw_dom_2 r hr c (List.mem_of_getElem? hf) hc, nw_dom_3⟩
  · obtain ⟨i, hi⟩ := List.getElem?_of_mem hr
    obtain ⟨j, hj⟩ := List.getElem?_of_mem hr'
    rw [nw_ad_o (nw_dom_1 r hr).1, nw_ad_o (nw_dom_1 r' hr').1, nw_dom_i hi, nw_dom_i hj] at e
    have e : i = j := by omega
    rw [e] at hi
    exact Option.some.inj (hi.symm.trans hj)
  · exact (nw_dom_i hi).symm.trans (nw_dom_i hj)
  · rw [nw_ad_o (nw_dom_1 r hr).1]
    exact Nat.le_add_right _ _
  · have := (nw_dom_1 r hr).1
    omega
  · exact ((nw_dom_1 r hr).2 he).1
  · exact ((nw_dom_1 r hr).2 he).2
  · have := ((nw_dom_1 r hr).2 he).2
    rcases (show q_at r.1 = 0 ∨ q_at r.1 = 1 ∨ q_at r.1 = 2 ∨ q_at r.1 = 3 ∨ q_at r.1 = 4 by omega) with q | q | q | q | q <;> rw [q]
    · exact ⟨0, rfl⟩
    · exact ⟨1, rfl⟩
    · exact ⟨2, rfl⟩
    · exact ⟨3, rfl⟩
    · exact ⟨4, rfl⟩
theorem nw_Ka {args : Array Value} {s : State} {ty : FieldType} (hp : ∀ C, ty ≠ .object C) (h : (Cond.arrayClass ty).before args s = true) : ∃ c : ClassId, ArrOfT s c ty ∧ va_RA s c ty := by
  obtain ⟨c, k, comp, h1, h2, h3⟩ := Cond.arrayClass_spec h
  refine ⟨c, fun n z => ⟨fun k h => (by cases h), k, h2, comp, h3⟩, ?_⟩
  cases ty with
  | object C => exact absurd rfl (hp C)
  | _ => exact h1
theorem nw_Ko {args : Array Value} {s : State} {C : String} (h : (Cond.arrayOver (.object C)).before args s = true) : ∃ c : ClassId, ArrOfT s c (.object C) ∧ va_RA s c (.object C) := by
  obtain ⟨comp, c, k, h1, h2, h3, h4, h5⟩ := Cond.arrayOver_spec h
  exact ⟨c, fun n z => ⟨fun k h => (by cases h), k, h3, comp, h4⟩, k, comp, h3, h4, h1, h5⟩
set_option maxRecDepth 100000 in
theorem nw_Kn {args : Array Value} {s : State} (hts : ∀ w ∈ lw_tbl, w.before args s = true) : ∃ (D : va_G) (cA : Nat → ClassId), va_K D vwCl (nw_tys cA) s := by
  have htsG : ∀ w ∈ lw_tblG, w.before args s = true := fun w hw => hts w (List.mem_filter.mp hw).1
  obtain ⟨c0, i0, k0⟩ := u_known htsG (q_tagW 19 (by decide)) (htsG _ nw_inX0)
  obtain ⟨c1, i1, k1⟩ := u_known htsG (q_tagW 11 (by decide)) (htsG _ nw_inX1)
  obtain ⟨c2, i2, k2⟩ := u_known htsG (q_tagW 15 (by decide)) (htsG _ nw_inX2)
  obtain ⟨c3, i3, k3⟩ := u_known htsG (q_tagW 1 (by decide)) (htsG _ nw_inX3)
  obtain ⟨c4, i4, k4⟩ := u_known htsG (q_tagW 3 (by decide)) (htsG _ nw_inX4)
  obtain ⟨c5, i5, k5⟩ := u_known htsG (q_tagW 0 (by decide)) (htsG _ nw_inX5)
  obtain ⟨c6, i6, k6⟩ := u_known htsG (q_tagW 25 (by decide)) (htsG _ nw_inX6)
  obtain ⟨c7, i7, k7⟩ := u_known htsG (q_tagW 6 (by decide)) (htsG _ nw_inX7)
  obtain ⟨c8, i8, k8⟩ := u_known htsG (q_tagW 24 (by decide)) (htsG _ nw_inX8)
  obtain ⟨c9, i9, k9⟩ := u_known htsG (q_tagW 30 (by decide)) (htsG _ nw_inX9)
  obtain ⟨a0, p0, r0⟩ := nw_Ka (ty := .int) (fun C h => by cases h) (htsG _ cw_ai)
  obtain ⟨a1, p1, r1⟩ := nw_Ka (ty := .byte) (fun C h => by cases h) (htsG _ nw_ab)
  obtain ⟨a2, p2, r2⟩ := nw_Ka (ty := .long) (fun C h => by cases h) (htsG _ nw_al)
  obtain ⟨a3, p3, r3⟩ := nw_Ko (hts _ nw_o1)
  obtain ⟨a4, p4, r4⟩ := nw_Ko (hts _ nw_o2)
  refine ⟨(fun c => [c0, c1, c2, c3, c4, c5, c6, c7, c8, c9].getD c 0, fun c => [i0, i1, i2, i3, i4, i5, i6, i7, i8, i9].getD c i0), fun i => [a0, a1, a2, a3, a4].getD i 0, fun c q h => ?_, fun i q h => ?_⟩
  · have hc : c < 10 := (List.getElem?_eq_some_iff.mp h).1
    rcases (show c = 0 ∨ c = 1 ∨ c = 2 ∨ c = 3 ∨ c = 4 ∨ c = 5 ∨ c = 6 ∨ c = 7 ∨ c = 8 ∨ c = 9 by omega) with rfl | rfl | rfl | rfl | rfl | rfl | rfl | rfl | rfl | rfl
    · cases h; exact k0
    · cases h; exact k1
    · cases h; exact k2
    · cases h; exact k3
    · cases h; exact k4
    · cases h; exact k5
    · cases h; exact k6
    · cases h; exact k7
    · cases h; exact k8
    · cases h; exact k9
  · have hi : i < 5 := (List.getElem?_eq_some_iff.mp h).1
    rcases (show i = 0 ∨ i = 1 ∨ i = 2 ∨ i = 3 ∨ i = 4 by omega) with rfl | rfl | rfl | rfl | rfl
    · cases h; exact ⟨p0, r0⟩
    · cases h; exact ⟨p1, r1⟩
    · cases h; exact ⟨p2, r2⟩
    · cases h; exact ⟨p3, r3⟩
    · cases h; exact ⟨p4, r4⟩
theorem nw_Xs {args : Array Value} {s : State} (hts : ∀ w ∈ lw_tbl, w.before args s = true) (h : narrow_1.before args s = true) : ∃ adK adV : Nat → Nat, nw_X s.heap.size adK adV s := by
  obtain ⟨adK, adV, hX⟩ := lw_X_of (A := fun q => s.heap.size ≤ q) hts h (fun a h1 h2 => Nat.lt_irrefl _ (Nat.lt_of_lt_of_le h1 h2))
  have e : (fun i => nw_ad s.heap.size adK (60, 0, i)) = adK := by
    funext i
    exact if_pos rfl
  refine ⟨adK, adV, ?_, ⟨va_Nw.of rfl (hts _ nw_n1), va_Nw.of rfl (hts _ nw_n2), va_Nw.of rfl (hts _ nw_n3), va_Nw.of rfl (hts _ nw_n4), va_Nw.of rfl (hts _ nw_n5)⟩, va_AO.of (hts _ nw_o1), va_AO.of (hts _ nw_o2)⟩
  rw [e]
  exact hX
set_option maxHeartbeats 4000000 in
set_option maxRecDepth 100000 in
theorem whole_start {p : Program} {e : Env} {s : State} {m : MethodId} {below : List Frame} {meth : Method} {c : Code} (l : Launch) (hflags : l.flags = flags0) {b L : Nat} {xs : Nat → Int32} (hL : L ≤ 3072) (C0 : lw_At p s m meth c b L xs) : W p l e room_1 s m #[Value.ref b] below meth c s.heap [] 0 0 (lw_Z below #[Value.ref b] s) (entryFrame m ([Value.ref b] : List Value).toArray 4) := by
  obtain ⟨hx, hb, hrt, hml, hown, hts, hXs, hbl, hlocks, hgv⟩ := id C0
  have hnar : narrow_1.before #[Value.ref b] s = true := by
    rw [Cond.before_and, Bool.and_eq_true] at hgv
    exact hgv.2
  obtain ⟨D, cA, hK⟩ := nw_Kn hts
  obtain ⟨adK, adV, hX⟩ := nw_Xs hts hnar
  have htsG : ∀ w ∈ lw_tblG, w.before #[Value.ref b] s = true := fun w hw => hts w (List.mem_filter.mp hw).1
  have hl := lv_entry [.ref b] (n := 4) (Nat.le_of_ble_eq_true rfl)
  rw [lg_entry_eq]
  generalize (lg_sl ([.ref b]) ++ List.replicate (4 - (lg_sl ([.ref b])).length) Slot.unset).toArray = ls at hl ⊢
  have hl : lv_has ls 4 [(0, .ref b)] := hl
  have hS : va_S (fun q => s.heap.size ≤ q) s.heap s.heap [] := va_S.rf
  have a30 : nw_ad s.heap.size adK (30, 7, 0) = s.heap.size + (479 + 30) := nw_ad_md (by decide) (by decide)
  refine nw_obj (own := R_law) (T := TX8) (N := 7) (B := s.heap.size) (adK := adK) (adV := adV) (r := (24, 6, 0)) (dom := nw_dR) (n := 508) (ms := 10067) (y := yX8_init) nw_cX8 hx hb hml hown htsG hK hX (q_tagW 24 (by decide)) tyX8 tyX8_ok nw_lcl1 nw_inX8 nw_iiX8 rfl nw_fsX8 nw_coX8 nw_imX8 rfl nw_hnX8 nw_sig0 (Or.inl nw_lml1) (Nat.le_of_ble_eq_true rfl) (Nat.le_of_ble_eq_true rfl) (Nat.le_of_ble_eq_true rfl) (Nat.le_of_ble_eq_true rfl) hl.1 (Nat.le_of_ble_eq_true rfl) hS (fun q hq => hq) rfl (fun q hq => hq) dl_0 dl_3 dl_4 (fun H1 L1 w1 z1 o1 hS1 => ?_)
  refine lv_astore_n (lv' := [(1, .ref (nw_ad s.heap.size adK (24, 6, 0))), (0, .ref b)]) hx hb dl_7 rfl hl (by decide) rfl (fun ls hl => ?_)
  refine nw_obj (own := R_law) (T := TX9) (N := 29) (B := s.heap.size) (adK := adK) (adV := adV) (r := (30, 7, 0)) (dom := nw_dM) (n := 11) (ms := 12361) (y := yX9_init) nw_cX9 hx hb hml hown htsG hK hX (q_tagW 30 (by decide)) tyX9 tyX9_ok nw_lcl2 nw_inX9 nw_iiX9 rfl nw_fsX9 nw_coX9 nw_imX9 rfl nw_hnX9 nw_sig0 (Or.inl nw_lml2) (Nat.le_of_ble_eq_true rfl) (Nat.le_of_ble_eq_true rfl) (Nat.le_of_ble_eq_true rfl) (Nat.le_of_ble_eq_true rfl) hl.1 (Nat.le_of_ble_eq_true rfl) hS1 (fun q hq => hq) (by omega) (fun q hq => Nat.le_trans (by omega) hq) dl_8 dl_11 dl_12 (fun H2 L2 w2 z2 o2 hS2 => ?_)
  refine lv_astore_n (lv' := [(2, .ref (nw_ad s.heap.size adK (30, 7, 0))), (1, .ref (nw_ad s.heap.size adK (24, 6, 0))), (0, .ref b)]) hx hb dl_15 rfl hl (by decide) rfl (fun ls hl => ?_)
  refine lv_iconst (v := 0) hx hb dl_16 (by decide) ?_
  refine lv_istore_n (lv' := [(3, .int 0), (2, .ref (nw_ad s.heap.size adK (30, 7, 0))), (1, .ref (nw_ad s.heap.size adK (24, 6, 0))), (0, .ref b)]) hx hb dl_17 rfl hl (by decide) rfl (fun ls hl => ?_)
  have hw : c_w D nw_dom (nw_ad s.heap.size adK) cA z_h0 H2 := fun r hr => by
    rcases List.mem_append.mp hr with q | q
    · exact c_at_keep (w1 r q) (o2 _ (c_at_lt (w1 r q)))
    · exact w2 r q
  have C1 : lw_CX p l s m meth c b L xs D nw_dom (nw_ad s.heap.size adK) cA (nw_tys cA) (fun q => s.heap.size ≤ q) (lw_X (fun i => nw_ad s.heap.size adK (60, 0, i)) adV (fun q => s.heap.size ≤ q)) (0 + (1 + 508) + (1 + 11)) (0 + (7 + 10067) + (29 + 12361)) :=
    ⟨C0, hL, nw_Cx, hK, lw_X_XX, hX.1, lw_EXT, fun q hq => hq, List.mem_append_left _ List.mem_cons_self, List.mem_append_right _ List.mem_cons_self, by decide, by decide⟩
  exact lw_loop C1 (Rel := z_Rel) (fun n h r => z_mono r) z_S0 z_S1 z_S2 z_S3 z_S4 z_S5 z_S6 z_S7 z_S8 z_S9 z_S10 z_S11 z_S12 z_S13 z_S14 z_S15 z_S16 z_S17 z_S18 z_S19 z_S20 z_S21 z_S22 z_S23 z_S24 z_S25 z_S26 z_S27 z_S28 z_S29 z_S30 z_S31 z_S32 z_S33 z_S34 z_S35 z_S36 z_S37 z_S38 z_S39 (L + 6) 0 (by omega) (by omega) z_h0 H2 L2 ls z_Rel0 (c_w_P.mp hw) hS2 (lv_sub hl [3, 2, 1, 0] rfl)
