/-! RowPruner -/
theorem nw_b3 {B j : Nat} : nw_b B (3 + j) = B + (257 + 84 * j) := by
  unfold nw_b
  rw [if_pos (by omega)]
  omega
theorem nw_b02 {B : Nat} : nw_b B 0 = B + 4 ∧ nw_b B 1 = B + 88 ∧ nw_b B 2 = B + 172 := by
  unfold nw_b
  exact ⟨rfl, rfl, rfl⟩
theorem nw_gR {B k : Nat} {adK : Nat → Nat} : ∀ r ∈ (0, k, 0) :: nw_dS k, nw_ad B adK (24, 6, 0) < nw_ad B adK r := fun r hr => by
  have h1 := nw_kS r hr
  have h2 := (nw_rg (B := B) (adK := adK) h1.1 h1.2).1
  have h3 := @nw_b_le B k
  have h4 : nw_ad B adK (24, 6, 0) = B := rfl
  omega
set_option maxRecDepth 100000 in
theorem cw_ol8 : Cond.methodLink RX8 3 objectInit ∈ lw_tblG := q_g1 (i := 23) rfl rfl
theorem dX8_init_0 : decode cX8_init 0 = .ok (.aload_n 0, 1) := by decide +kernel
theorem dX8_init_1 : decode cX8_init 1 = .ok (.invokespecial 3, 3) := by decide +kernel
theorem dX8_init_4 : decode cX8_init 4 = .ok (.aload_n 0, 1) := by decide +kernel
theorem dX8_init_5 : decode cX8_init 5 = .ok (.new 9, 3) := by decide +kernel
theorem dX8_init_8 : decode cX8_init 8 = .ok (.dup, 1) := by decide +kernel
theorem dX8_init_9 : decode cX8_init 9 = .ok (.invokespecial 11, 3) := by decide +kernel
theorem dX8_init_12 : decode cX8_init 12 = .ok (.putfield 12, 3) := by decide +kernel
theorem dX8_init_15 : decode cX8_init 15 = .ok (.aload_n 0, 1) := by decide +kernel
theorem dX8_init_16 : decode cX8_init 16 = .ok (.new 16, 3) := by decide +kernel
theorem dX8_init_19 : decode cX8_init 19 = .ok (.dup, 1) := by decide +kernel
theorem dX8_init_20 : decode cX8_init 20 = .ok (.invokespecial 18, 3) := by decide +kernel
theorem dX8_init_23 : decode cX8_init 23 = .ok (.putfield 19, 3) := by decide +kernel
theorem dX8_init_26 : decode cX8_init 26 = .ok (.aload_n 0, 1) := by decide +kernel
theorem dX8_init_27 : decode cX8_init 27 = .ok (.new 16, 3) := by decide +kernel
theorem dX8_init_30 : decode cX8_init 30 = .ok (.dup, 1) := by decide +kernel
theorem dX8_init_31 : decode cX8_init 31 = .ok (.invokespecial 18, 3) := by decide +kernel
theorem dX8_init_34 : decode cX8_init 34 = .ok (.putfield 23, 3) := by decide +kernel
theorem dX8_init_37 : decode cX8_init 37 = .ok (.aload_n 0, 1) := by decide +kernel
theorem dX8_init_38 : decode cX8_init 38 = .ok (.new 16, 3) := by decide +kernel
theorem dX8_init_41 : decode cX8_init 41 = .ok (.dup, 1) := by decide +kernel
theorem dX8_init_42 : decode cX8_init 42 = .ok (.invokespecial 18, 3) := by decide +kernel
theorem dX8_init_45 : decode cX8_init 45 = .ok (.putfield 26, 3) := by decide +kernel
theorem dX8_init_48 : decode cX8_init 48 = .ok (.aload_n 0, 1) := by decide +kernel
theorem dX8_init_49 : decode cX8_init 49 = .ok (.iconst 3, 1) := by decide +kernel
theorem dX8_init_50 : decode cX8_init 50 = .ok (.anewarray 16, 3) := by decide +kernel
theorem dX8_init_53 : decode cX8_init 53 = .ok (.putfield 29, 3) := by decide +kernel
theorem dX8_init_56 : decode cX8_init 56 = .ok (.iconst 0, 1) := by decide +kernel
theorem dX8_init_57 : decode cX8_init 57 = .ok (.istore_n 1, 1) := by decide +kernel
theorem dX8_init_58 : decode cX8_init 58 = .ok (.iload_n 1, 1) := by decide +kernel
theorem dX8_init_59 : decode cX8_init 59 = .ok (.aload_n 0, 1) := by decide +kernel
theorem dX8_init_60 : decode cX8_init 60 = .ok (.getfield 29, 3) := by decide +kernel
theorem dX8_init_63 : decode cX8_init 63 = .ok (.arraylength, 1) := by decide +kernel
theorem dX8_init_64 : decode cX8_init 64 = .ok (.if_icmp .ge 22, 3) := by decide +kernel
theorem dX8_init_67 : decode cX8_init 67 = .ok (.aload_n 0, 1) := by decide +kernel
theorem dX8_init_68 : decode cX8_init 68 = .ok (.getfield 29, 3) := by decide +kernel
theorem dX8_init_71 : decode cX8_init 71 = .ok (.iload_n 1, 1) := by decide +kernel
theorem dX8_init_72 : decode cX8_init 72 = .ok (.new 16, 3) := by decide +kernel
theorem dX8_init_75 : decode cX8_init 75 = .ok (.dup, 1) := by decide +kernel
theorem dX8_init_76 : decode cX8_init 76 = .ok (.invokespecial 18, 3) := by decide +kernel
theorem dX8_init_79 : decode cX8_init 79 = .ok (.aastore, 1) := by decide +kernel
theorem dX8_init_80 : decode cX8_init 80 = .ok (.iinc 1 1, 3) := by decide +kernel
theorem dX8_init_83 : decode cX8_init 83 = .ok (.goto (-25), 3) := by decide +kernel
theorem dX8_init_86 : decode cX8_init 86 = .ok (.return_, 1) := by decide +kernel
set_option maxRecDepth 100000 in
theorem cw_f8_12 : Cond.fieldLink RX8 12 "RowPruner" "text" "LRowPruner$Text;" ∈ lw_tblG := q_g2 (i := 90) rfl rfl
set_option maxRecDepth 100000 in
theorem cw_f8_19 : Cond.fieldLink RX8 19 "RowPruner" "now" "LRowPruner$Store;" ∈ lw_tblG := q_g2 (i := 91) rfl rfl
set_option maxRecDepth 100000 in
theorem cw_f8_23 : Cond.fieldLink RX8 23 "RowPruner" "spare" "LRowPruner$Store;" ∈ lw_tblG := q_g2 (i := 92) rfl rfl
set_option maxRecDepth 100000 in
theorem cw_f8_26 : Cond.fieldLink RX8 26 "RowPruner" "before" "LRowPruner$Store;" ∈ lw_tblG := q_g2 (i := 93) rfl rfl
set_option maxRecDepth 100000 in
theorem cw_f8_29 : Cond.fieldLink RX8 29 "RowPruner" "marks" "[LRowPruner$Store;" ∈ lw_tblG := q_g2 (i := 94) rfl rfl
set_option maxRecDepth 100000 in
theorem nw_inX8 : Cond.instantiable RX8 7 ∈ lw_tblG := q_g1 (i := 19) rfl rfl
set_option maxRecDepth 100000 in
theorem nw_iiX8 : Cond.initialized RX8 ∈ lw_tblG := q_g1 (i := 1) rfl rfl
set_option maxRecDepth 100000 in
theorem nw_coX8 : Cond.code yX8_init cX8_init 2 none ∈ lw_tblG := q_g1 (i := 22) rfl rfl
set_option maxRecDepth 100000 in
theorem nw_imX8 : Cond.instanceMethod yX8_init ∈ lw_tblG := q_g1 (i := 21) rfl rfl
theorem nw_fsX8 : ∀ j, j < 7 → defaultValue (tyX8 j) = vp_V (c_df 24) j := fun j hj => by
  rcases (show j = 0 ∨ j = 1 ∨ j = 2 ∨ j = 3 ∨ j = 4 ∨ j = 5 ∨ j = 6 by omega) with rfl | rfl | rfl | rfl | rfl | rfl | rfl <;> rfl
theorem nw_hnX8 : yX8_init.cls ≠ "java/lang/invoke/MethodHandle" ∧ yX8_init.cls ≠ "java/lang/invoke/VarHandle" := by decide +kernel
set_option maxRecDepth 100000 in
theorem nw_clX8_9 : Cond.classLink RX8 9 RX6 ∈ lw_tblG := q_g1 (i := 26) rfl rfl
set_option maxRecDepth 100000 in
theorem nw_clX8_16 : Cond.classLink RX8 16 RX5 ∈ lw_tblG := q_g1 (i := 91) rfl rfl
def nw_dR : List q_R := ((((((25, 6, 0) :: [(26, 6, 0), (27, 6, 0)]) ++ (0, 0, 0) :: (nw_dS 0)) ++ (0, 1, 0) :: (nw_dS 1)) ++ (0, 2, 0) :: (nw_dS 2)) ++ [(28, 6, 0)]) ++ nw_rep (fun j => (0, 3 + j, 0) :: nw_dS (3 + j)) 3
set_option maxHeartbeats 4000000 in
set_option maxRecDepth 100000 in
theorem nw_cX8 {l : Launch} {D : va_G} {B : Nat} {adK : Nat → Nat} {cA : Nat → ClassId} {adV : Nat → Nat}  : nw_M l D B adK cA adV 5 yX8_init cX8_init 2 (24, 6, 0) nw_dR 508 10067 := by
  refine nw_met (by decide +kernel) (Nat.le_of_ble_eq_true rfl) rfl (fun p e s m below meth c ls hx hb hml hr hlk hown hin hts hP hl => ?_)
  obtain ⟨hsz, hO, hK, hX⟩ := hP
  have a24 : nw_ad B adK (24, 6, 0) = B := rfl
  have a25 : nw_ad B adK (25, 6, 0) = B + 1 := rfl
  have a26 : nw_ad B adK (26, 6, 0) = B + 2 := rfl
  have a27 : nw_ad B adK (27, 6, 0) = B + 3 := rfl
  have a28 : nw_ad B adK (28, 6, 0) = B + 256 := rfl
  obtain ⟨b0, b1, b2⟩ := @nw_b02 B
  have s0 : nw_ad B adK (0, 0, 0) = nw_b B 0 + 0 := nw_ad_st (by decide)
  have s1 : nw_ad B adK (0, 1, 0) = nw_b B 1 + 0 := nw_ad_st (by decide)
  have s2 : nw_ad B adK (0, 2, 0) = nw_b B 2 + 0 := nw_ad_st (by decide)
  have hz : B ≤ nw_ad B adK (24, 6, 0) := Nat.le_refl _
  have hI0 := nw_I0 (ad := nw_ad B adK) (cA := cA) (h := z_h0) hO hsz
  have hS0 : va_S (fun q => nw_ad B adK (24, 6, 0) ≤ q) s.heap s.heap [] := va_S.rf
  have hAz := Nat.le_refl (nw_ad B adK (24, 6, 0))
  have h0 := lv_at hl 0 rfl
  refine lv_aload_n hx hb dX8_init_0 rfl h0 ?_
  refine W.objInit hx hb hown (hts _ cw_ol8) (hts _ cw_oi) (hts _ cw_oc) rfl (by rw [hml]; exact hl.1) rfl dX8_init_1 (Nat.le_of_ble_eq_true rfl) (Nat.le_of_ble_eq_true rfl) ?_
  refine W.eq (g2 := F0 m 4 ls []) rfl ?_
  refine lv_aload_n hx hb dX8_init_4 rfl h0 ?_
  refine nw_obj (own := RX8) (T := TX6) (N := 17) (r := (25, 6, 0)) (dom := [(26, 6, 0), (27, 6, 0)]) (n := 2) (ms := 705) (y := yX6_init) nw_cX6 hx hb hml hown hts hK hX (q_tagW 25 (by decide)) tyX6 tyX6_ok nw_clX8_9 nw_inX6 nw_iiX6 rfl nw_fsX6 nw_coX6 nw_imX6 rfl nw_hnX6 nw_sig0 (Or.inr ⟨_, hX.2.1.1⟩) (Nat.le_of_ble_eq_true rfl) (Nat.le_of_ble_eq_true rfl) (Nat.le_of_ble_eq_true rfl) (Nat.le_of_ble_eq_true rfl) hl.1 (Nat.le_of_ble_eq_true rfl) hS0 (fun q hq => Nat.le_trans hz hq) (by have := hI0.2.2.2; omega) (fun q hq => Nat.le_trans (by have := hI0.2.2.2; omega) hq) dX8_init_5 dX8_init_8 dX8_init_9 (fun H1 L1 w1 z1 o1 hS1 => ?_)
  have hI1 : nw_I D (nw_ad B adK) cA z_h0 (nw_ad B adK (24, 6, 0)) 8 [.null, .null, .null, .null, .null, .int 0, .int 0] ((25, 6, 0) :: [(26, 6, 0), (27, 6, 0)]) 3 H1 := nw_Ix (j := 1 + 2) hI0 o1 z1 w1 (fun r hr => by
    simp only [List.mem_cons, List.not_mem_nil, or_false] at hr
    rcases hr with rfl | rfl | rfl <;> omega)
  refine nw_put (T := TX8) (N := 7) hx hb hts (q_tagW 24 (by decide)) tyX8 tyX8_ok nmX8 hown hK hin hI1.1 rfl 0 (by decide) (hts _ cw_f8_12) rfl (ty := .object "RowPruner$Text") (by decide +kernel) rfl rfl (Nat.le_of_ble_eq_true rfl) hS1 hAz dX8_init_12 (fun H2 L2 e2 z2 o2 hS2 => ?_)
  have hI2 : nw_I D (nw_ad B adK) cA z_h0 (nw_ad B adK (24, 6, 0)) 8 [.ref (nw_ad B adK (25, 6, 0)), .null, .null, .null, .null, .int 0, .int 0] ((25, 6, 0) :: [(26, 6, 0), (27, 6, 0)]) 3 H2 := nw_Ip hI1 e2 z2 o2
  refine lv_aload_n hx hb dX8_init_15 rfl h0 ?_
  refine nw_obj (own := RX8) (T := TX5) (N := 9) (r := (0, 0, 0)) (dom := (nw_dS 0)) (n := 83) (ms := 1548) (y := yX5_init) (nw_cX5 (by decide)) hx hb hml hown hts hK hX (q_tagW 0 (by decide)) tyX5 tyX5_ok nw_clX8_16 nw_inX5 nw_iiX5 rfl nw_fsX5 nw_coX5 nw_imX5 rfl nw_hnX5 nw_sig0 (Or.inr ⟨_, hX.2.1.2.1⟩) (Nat.le_of_ble_eq_true rfl) (Nat.le_of_ble_eq_true rfl) (Nat.le_of_ble_eq_true rfl) (Nat.le_of_ble_eq_true rfl) hl.1 (Nat.le_of_ble_eq_true rfl) hS2 (fun q hq => Nat.le_trans hz hq) (by have := hI2.2.2.2; omega) (fun q hq => Nat.le_trans (by have := hI2.2.2.2; omega) hq) dX8_init_16 dX8_init_19 dX8_init_20 (fun H3 L3 w3 z3 o3 hS3 => ?_)
  have hI3 : nw_I D (nw_ad B adK) cA z_h0 (nw_ad B adK (24, 6, 0)) 8 [.ref (nw_ad B adK (25, 6, 0)), .null, .null, .null, .null, .int 0, .int 0] (((25, 6, 0) :: [(26, 6, 0), (27, 6, 0)]) ++ (0, 0, 0) :: (nw_dS 0)) 87 H3 := nw_Ix (j := 1 + 83) hI2 o3 z3 w3 nw_gR
  refine nw_put (T := TX8) (N := 7) hx hb hts (q_tagW 24 (by decide)) tyX8 tyX8_ok nmX8 hown hK hin hI3.1 rfl 1 (by decide) (hts _ cw_f8_19) rfl (ty := .object "RowPruner$Store") (by decide +kernel) rfl rfl (Nat.le_of_ble_eq_true rfl) hS3 hAz dX8_init_23 (fun H4 L4 e4 z4 o4 hS4 => ?_)
  have hI4 : nw_I D (nw_ad B adK) cA z_h0 (nw_ad B adK (24, 6, 0)) 8 [.ref (nw_ad B adK (25, 6, 0)), .ref (nw_ad B adK (0, 0, 0)), .null, .null, .null, .int 0, .int 0] (((25, 6, 0) :: [(26, 6, 0), (27, 6, 0)]) ++ (0, 0, 0) :: (nw_dS 0)) 87 H4 := nw_Ip hI3 e4 z4 o4
  refine lv_aload_n hx hb dX8_init_26 rfl h0 ?_
  refine nw_obj (own := RX8) (T := TX5) (N := 9) (r := (0, 1, 0)) (dom := (nw_dS 1)) (n := 83) (ms := 1548) (y := yX5_init) (nw_cX5 (by decide)) hx hb hml hown hts hK hX (q_tagW 0 (by decide)) tyX5 tyX5_ok nw_clX8_16 nw_inX5 nw_iiX5 rfl nw_fsX5 nw_coX5 nw_imX5 rfl nw_hnX5 nw_sig0 (Or.inr ⟨_, hX.2.1.2.1⟩) (Nat.le_of_ble_eq_true rfl) (Nat.le_of_ble_eq_true rfl) (Nat.le_of_ble_eq_true rfl) (Nat.le_of_ble_eq_true rfl) hl.1 (Nat.le_of_ble_eq_true rfl) hS4 (fun q hq => Nat.le_trans hz hq) (by have := hI4.2.2.2; omega) (fun q hq => Nat.le_trans (by have := hI4.2.2.2; omega) hq) dX8_init_27 dX8_init_30 dX8_init_31 (fun H5 L5 w5 z5 o5 hS5 => ?_)
  have hI5 : nw_I D (nw_ad B adK) cA z_h0 (nw_ad B adK (24, 6, 0)) 8 [.ref (nw_ad B adK (25, 6, 0)), .ref (nw_ad B adK (0, 0, 0)), .null, .null, .null, .int 0, .int 0] ((((25, 6, 0) :: [(26, 6, 0), (27, 6, 0)]) ++ (0, 0, 0) :: (nw_dS 0)) ++ (0, 1, 0) :: (nw_dS 1)) 171 H5 := nw_Ix (j := 1 + 83) hI4 o5 z5 w5 nw_gR
  refine nw_put (T := TX8) (N := 7) hx hb hts (q_tagW 24 (by decide)) tyX8 tyX8_ok nmX8 hown hK hin hI5.1 rfl 2 (by decide) (hts _ cw_f8_23) rfl (ty := .object "RowPruner$Store") (by decide +kernel) rfl rfl (Nat.le_of_ble_eq_true rfl) hS5 hAz dX8_init_34 (fun H6 L6 e6 z6 o6 hS6 => ?_)
  have hI6 : nw_I D (nw_ad B adK) cA z_h0 (nw_ad B adK (24, 6, 0)) 8 [.ref (nw_ad B adK (25, 6, 0)), .ref (nw_ad B adK (0, 0, 0)), .ref (nw_ad B adK (0, 1, 0)), .null, .null, .int 0, .int 0] ((((25, 6, 0) :: [(26, 6, 0), (27, 6, 0)]) ++ (0, 0, 0) :: (nw_dS 0)) ++ (0, 1, 0) :: (nw_dS 1)) 171 H6 := nw_Ip hI5 e6 z6 o6
  refine lv_aload_n hx hb dX8_init_37 rfl h0 ?_
  refine nw_obj (own := RX8) (T := TX5) (N := 9) (r := (0, 2, 0)) (dom := (nw_dS 2)) (n := 83) (ms := 1548) (y := yX5_init) (nw_cX5 (by decide)) hx hb hml hown hts hK hX (q_tagW 0 (by decide)) tyX5 tyX5_ok nw_clX8_16 nw_inX5 nw_iiX5 rfl nw_fsX5 nw_coX5 nw_imX5 rfl nw_hnX5 nw_sig0 (Or.inr ⟨_, hX.2.1.2.1⟩) (Nat.le_of_ble_eq_true rfl) (Nat.le_of_ble_eq_true rfl) (Nat.le_of_ble_eq_true rfl) (Nat.le_of_ble_eq_true rfl) hl.1 (Nat.le_of_ble_eq_true rfl) hS6 (fun q hq => Nat.le_trans hz hq) (by have := hI6.2.2.2; omega) (fun q hq => Nat.le_trans (by have := hI6.2.2.2; omega) hq) dX8_init_38 dX8_init_41 dX8_init_42 (fun H7 L7 w7 z7 o7 hS7 => ?_)
  have hI7 : nw_I D (nw_ad B adK) cA z_h0 (nw_ad B adK (24, 6, 0)) 8 [.ref (nw_ad B adK (25, 6, 0)), .ref (nw_ad B adK (0, 0, 0)), .ref (nw_ad B adK (0, 1, 0)), .null, .null, .int 0, .int 0] (((((25, 6, 0) :: [(26, 6, 0), (27, 6, 0)]) ++ (0, 0, 0) :: (nw_dS 0)) ++ (0, 1, 0) :: (nw_dS 1)) ++ (0, 2, 0) :: (nw_dS 2)) 255 H7 := nw_Ix (j := 1 + 83) hI6 o7 z7 w7 nw_gR
  refine nw_put (T := TX8) (N := 7) hx hb hts (q_tagW 24 (by decide)) tyX8 tyX8_ok nmX8 hown hK hin hI7.1 rfl 3 (by decide) (hts _ cw_f8_26) rfl (ty := .object "RowPruner$Store") (by decide +kernel) rfl rfl (Nat.le_of_ble_eq_true rfl) hS7 hAz dX8_init_45 (fun H8 L8 e8 z8 o8 hS8 => ?_)
  have hI8 : nw_I D (nw_ad B adK) cA z_h0 (nw_ad B adK (24, 6, 0)) 8 [.ref (nw_ad B adK (25, 6, 0)), .ref (nw_ad B adK (0, 0, 0)), .ref (nw_ad B adK (0, 1, 0)), .ref (nw_ad B adK (0, 2, 0)), .null, .int 0, .int 0] (((((25, 6, 0) :: [(26, 6, 0), (27, 6, 0)]) ++ (0, 0, 0) :: (nw_dS 0)) ++ (0, 1, 0) :: (nw_dS 1)) ++ (0, 2, 0) :: (nw_dS 2)) 255 H8 := nw_Ip hI7 e8 z8 o8
  refine lv_aload_n hx hb dX8_init_48 rfl h0 ?_
  refine lv_iconst hx hb dX8_init_49 (v := 3) (by decide) ?_
  refine nw_newq (t0 := 4) (N := 3) (c0 := cA 4) (C := RX5) hx hb hown (hts _ nw_clX8_16) hX.2.2.2 hK rfl (by decide) (by decide) (Nat.le_of_ble_eq_true rfl) (Nat.le_of_ble_eq_true rfl) (Nat.le_of_ble_eq_true rfl) hS8 dX8_init_50 (fun H9 e9 z9 o9 hS9 => ?_)
  have es9 : H8.size = nw_ad B adK (28, 6, 0) := by have := hI8.2.2.2; omega
  rw [es9] at e9 ⊢
  have hI9 : nw_I D (nw_ad B adK) cA z_h0 (nw_ad B adK (24, 6, 0)) 8 [.ref (nw_ad B adK (25, 6, 0)), .ref (nw_ad B adK (0, 0, 0)), .ref (nw_ad B adK (0, 1, 0)), .ref (nw_ad B adK (0, 2, 0)), .null, .int 0, .int 0] ((((((25, 6, 0) :: [(26, 6, 0), (27, 6, 0)]) ++ (0, 0, 0) :: (nw_dS 0)) ++ (0, 1, 0) :: (nw_dS 1)) ++ (0, 2, 0) :: (nw_dS 2)) ++ []) 256 H9 := nw_Ix (d2 := []) (j := 1) hI8 o9 z9 (fun r hr => absurd hr List.not_mem_nil) (fun r hr => absurd hr List.not_mem_nil)
  rw [List.append_nil] at hI9
  have hR9 := e9
  refine nw_put (T := TX8) (N := 7) hx hb hts (q_tagW 24 (by decide)) tyX8 tyX8_ok nmX8 hown hK hin hI9.1 rfl 4 (by decide) (hts _ cw_f8_29) rfl (ty := .array (.object "RowPruner$Store")) (by decide +kernel) rfl rfl (Nat.le_of_ble_eq_true rfl) hS9 hAz dX8_init_53 (fun H10 L10 e10 z10 o10 hS10 => ?_)
  have hI10 : nw_I D (nw_ad B adK) cA z_h0 (nw_ad B adK (24, 6, 0)) 8 [.ref (nw_ad B adK (25, 6, 0)), .ref (nw_ad B adK (0, 0, 0)), .ref (nw_ad B adK (0, 1, 0)), .ref (nw_ad B adK (0, 2, 0)), .ref (nw_ad B adK (28, 6, 0)), .int 0, .int 0] (((((25, 6, 0) :: [(26, 6, 0), (27, 6, 0)]) ++ (0, 0, 0) :: (nw_dS 0)) ++ (0, 1, 0) :: (nw_dS 1)) ++ (0, 2, 0) :: (nw_dS 2)) 256 H10 := nw_Ip hI9 e10 z10 o10
  have hR10 := c_at_keep hR9 (o10 _ (show nw_ad B adK (28, 6, 0) ≠ nw_ad B adK (24, 6, 0) by omega))
  clear hI0 hI1 hI2 hI3 hI4 hI5 hI6 hI7 hI8 hI9 hS0 hS1 hS2 hS3 hS4 hS5 hS6 hS7 hS8 hS9 hR9
  have loop : ∀ (f i : Nat), i + f = 3 → ∀ (H : Heap) (locs : List Loc) (ls : Array Slot), nw_I D (nw_ad B adK) cA z_h0 (nw_ad B adK (24, 6, 0)) 8 [.ref (nw_ad B adK (25, 6, 0)), .ref (nw_ad B adK (0, 0, 0)), .ref (nw_ad B adK (0, 1, 0)), .ref (nw_ad B adK (0, 2, 0)), .ref (nw_ad B adK (28, 6, 0)), .int 0, .int 0] ((((((25, 6, 0) :: [(26, 6, 0), (27, 6, 0)]) ++ (0, 0, 0) :: (nw_dS 0)) ++ (0, 1, 0) :: (nw_dS 1)) ++ (0, 2, 0) :: (nw_dS 2)) ++ nw_rep (fun j => (0, 3 + j, 0) :: nw_dS (3 + j)) i) (256 + 84 * i) H → va_at D vwCl (nw_ad B adK (28, 6, 0), .inl (cA 4, 3, .inr (.inr (.inr (.inr (nw_fn (fun j => nw_ad B adK (0, 3 + j, 0)) i)))))) H → va_S (fun q => nw_ad B adK (24, 6, 0) ≤ q) s.heap H locs → lv_has ls 2 [(0, .ref (nw_ad B adK (24, 6, 0))), (1, .int (nI i))] →
      W p l e { frames := 5, cells := 508, slots := 10067, locals := 30 * 5 } s m [Value.ref (nw_ad B adK (24, 6, 0))].toArray below meth c H locs (256 + 84 * i) (5396 + 1557 * i) (MQ below (nw_Q D B adK cA (24, 6, 0) nw_dR 508) [Value.ref (nw_ad B adK (24, 6, 0))].toArray s 508 10067 (fun q => nw_ad B adK (24, 6, 0) ≤ q)) (F0 m 58 ls []) := by
    intro f
    induction f with
    | zero =>
      intro i hi H locs ls hI hR hS hl
      have hi : i = 3 := hi
      subst hi
      refine lv_iload_n hx hb dX8_init_58 rfl (lv_at hl 1 rfl) ?_
      refine lv_aload_n hx hb dX8_init_59 rfl (lv_at hl 0 rfl) ?_
      refine va_get (T := TX8) (N := 7) hx hb hts (q_tagW 24 (by decide)) hown hK (nw_P1 hI.1) 0 rfl rfl 4 (by decide) (hts _ cw_f8_29) (fun _ h => h) rfl dX8_init_60 ?_
      refine va_alen (v := 3) hx hb hK (nw_P1 hR) 0 4 rfl rfl (show Int32.ofNat 3 = 3 by decide) dX8_init_63 ?_
      refine lv_icmp_ge (tgt := 86) hx hb dX8_init_64 rfl (fun _ => ?_) (fun c => absurd (show (3 : Int32) ≤ nI 3 by decide) c)
      have hw : c_w D ((24, 6, 0) :: nw_dR) (nw_ad B adK) cA z_h0 H := fun x hx => by
        rcases List.mem_cons.mp hx with q | q
        · rw [q]; exact hI.1
        · rcases List.mem_append.mp q with q | q
          · rcases List.mem_append.mp q with q | q
            · exact hI.2.1 x (List.mem_append_left _ q)
            · rw [List.mem_singleton] at q
              rw [q]
              exact nw_rf hR (fun j hj => if_pos hj)
          · exact hI.2.1 x (List.mem_append_right _ q)
      exact W.vret hx hb hr (fun t ht _ => ⟨⟨rfl, by rw [ht]; exact hI.2.2.2, by rw [ht]; exact hw⟩, hS.F ht⟩) hS.2.2 dX8_init_86 hlk
    | succ f ih =>
      intro i hi H locs ls hI hR hS hl
      have hi2 : i < 3 := by omega
      have a3i : nw_ad B adK (0, 3 + i, 0) = nw_b B (3 + i) + 0 := nw_ad_st (by decide)
      have b3i := @nw_b3 B i
      refine lv_iload_n hx hb dX8_init_58 rfl (lv_at hl 1 rfl) ?_
      refine lv_aload_n hx hb dX8_init_59 rfl (lv_at hl 0 rfl) ?_
      refine va_get (T := TX8) (N := 7) hx hb hts (q_tagW 24 (by decide)) hown hK (nw_P1 hI.1) 0 rfl rfl 4 (by decide) (hts _ cw_f8_29) (fun _ h => h) rfl dX8_init_60 ?_
      refine va_alen (v := 3) hx hb hK (nw_P1 hR) 0 4 rfl rfl (show Int32.ofNat 3 = 3 by decide) dX8_init_63 ?_
      refine lv_icmp_ge (tgt := 86) hx hb dX8_init_64 rfl (fun c => absurd c (show ¬ (3 : Int32) ≤ nI i from nI_ge (b := 3) hi2 (by decide))) (fun _ => ?_)
      refine lv_aload_n hx hb dX8_init_67 rfl (lv_at hl 0 rfl) ?_
      refine va_get (T := TX8) (N := 7) hx hb hts (q_tagW 24 (by decide)) hown hK (nw_P1 hI.1) 0 rfl rfl 4 (by decide) (hts _ cw_f8_29) (fun _ h => h) rfl dX8_init_68 ?_
      refine lv_iload_n hx hb dX8_init_71 rfl (lv_at hl 1 rfl) ?_
      refine nw_obj (own := RX8) (T := TX5) (N := 9) (r := (0, 3 + i, 0)) (dom := (nw_dS (3 + i))) (n := 83) (ms := 1548) (y := yX5_init) (nw_cX5 (show 3 + i ≤ 5 by omega)) hx hb hml hown hts hK hX (q_tagW 0 (by decide)) tyX5 tyX5_ok nw_clX8_16 nw_inX5 nw_iiX5 rfl nw_fsX5 nw_coX5 nw_imX5 rfl nw_hnX5 nw_sig0 (Or.inr ⟨_, hX.2.1.2.1⟩) (Nat.le_of_ble_eq_true rfl) (Nat.le_of_ble_eq_true rfl) (show 256 + 84 * i + 1 + 83 ≤ 508 by omega) (show 5396 + 1557 * i + 9 + 1548 ≤ 10067 by omega) hl.1 (Nat.le_of_ble_eq_true rfl) hS (fun q hq => Nat.le_trans hz hq) (by have := hI.2.2.2; omega) (fun q hq => Nat.le_trans (by have := hI.2.2.2; omega) hq) dX8_init_72 dX8_init_75 dX8_init_76 (fun H1 L1 w1 z1 o1 hS1 => ?_)
      have hI1 := nw_Ix (j := 1 + 83) hI o1 z1 w1 nw_gR
      have hR1 := c_at_keep hR (o1 _ (c_at_lt hR))
      refine nw_ast (t0 := 4) (ci := 5) (r := (RX5, TX5, 9)) (vs := q_fv (nw_ad B adK) z_h0 0 (3 + i) 0) hx hb hK hR1 rfl (w1 _ List.mem_cons_self) rfl (vp_in_nI hi2 (by decide)) hS1 (show nw_ad B adK (24, 6, 0) ≤ nw_ad B adK (28, 6, 0) by omega) dX8_init_79 (fun H2 L2 e2 z2 o2 hS2 => ?_)
      rw [nI_clamp (show i < 2 ^ 31 by omega), nw_fn_s] at e2
      have hI2 : nw_I D (nw_ad B adK) cA z_h0 (nw_ad B adK (24, 6, 0)) 8 [.ref (nw_ad B adK (25, 6, 0)), .ref (nw_ad B adK (0, 0, 0)), .ref (nw_ad B adK (0, 1, 0)), .ref (nw_ad B adK (0, 2, 0)), .ref (nw_ad B adK (28, 6, 0)), .int 0, .int 0] ((((((25, 6, 0) :: [(26, 6, 0), (27, 6, 0)]) ++ (0, 0, 0) :: (nw_dS 0)) ++ (0, 1, 0) :: (nw_dS 1)) ++ (0, 2, 0) :: (nw_dS 2)) ++ nw_rep (fun j => (0, 3 + j, 0) :: nw_dS (3 + j)) (i + 1)) (256 + 84 * (i + 1)) H2 := by
        refine ⟨c_at_keep hI1.1 (o2 _ (show nw_ad B adK (24, 6, 0) ≠ nw_ad B adK (28, 6, 0) by omega)), fun r hr => ?_, fun r hr => ?_, ?_⟩
        · have hr1 : r ∈ ((((((25, 6, 0) :: [(26, 6, 0), (27, 6, 0)]) ++ (0, 0, 0) :: (nw_dS 0)) ++ (0, 1, 0) :: (nw_dS 1)) ++ (0, 2, 0) :: (nw_dS 2)) ++ nw_rep (fun j => (0, 3 + j, 0) :: nw_dS (3 + j)) i) ++ ((0, 3 + i, 0) :: nw_dS (3 + i)) := by rw [List.append_assoc]; exact hr
          exact c_at_keep (hI1.2.1 r hr1) (o2 _ (by
            rcases List.mem_append.mp hr1 with q | q
            · rcases List.mem_append.mp q with q | q
              · rcases List.mem_append.mp q with q | q
                · rcases List.mem_append.mp q with q | q
                  · rcases List.mem_append.mp q with q | q
                    · simp only [List.mem_cons, List.not_mem_nil, or_false] at q
                      rcases q with rfl | rfl | rfl <;> omega
                    · have q2 := nw_kS r q
                      have := nw_rg (B := B) (adK := adK) q2.1 q2.2
                      omega
                  · have q2 := nw_kS r q
                    have := nw_rg (B := B) (adK := adK) q2.1 q2.2
                    omega
                · have q2 := nw_kS r q
                  have := nw_rg (B := B) (adK := adK) q2.1 q2.2
                  omega
              · obtain ⟨j, h1, h2⟩ := nw_rep_m q
                have q2 := nw_kS r h2
                have := nw_rg (B := B) (adK := adK) q2.1 q2.2
                have := @nw_b3 B j
                omega
            · have q2 := nw_kS r q
              have := nw_rg (B := B) (adK := adK) q2.1 q2.2
              have := @nw_b3 B i
              omega))
        · exact hI1.2.2.1 r (by rw [List.append_assoc]; exact hr)
        · have := hI1.2.2.2
          omega
      refine lv_iinc (v := nI (i + 1)) (lv' := [(1, .int (nI (i + 1))), (0, .ref (nw_ad B adK (24, 6, 0)))]) hx hb dX8_init_80 hl (k := 1) rfl (nI_add i 1) (by decide) rfl (fun ls hl => ?_)
      refine lv_goto (tgt := 58) hx hb dX8_init_83 (by decide) ?_
      have go := ih (i + 1) (by omega) H2 L2 ls hI2 e2 hS2 (lv_sub hl [1, 0] rfl)
      rw [show 256 + 84 * (i + 1) = 256 + 84 * i + (1 + 83) by omega, show 5396 + 1557 * (i + 1) = 5396 + 1557 * i + (9 + 1548) by omega] at go
      exact go
  refine lv_iconst (v := 0) hx hb dX8_init_56 (by decide) ?_
  refine lv_istore_n (lv' := [(1, .int 0), (0, .ref (nw_ad B adK (24, 6, 0)))]) hx hb dX8_init_57 rfl hl (by decide) rfl (fun ls hl => ?_)
  exact loop 3 0 rfl H10 _ ls ⟨hI10.1, fun r hr => hI10.2.1 r (by rw [← List.append_nil ((((((25, 6, 0) :: [(26, 6, 0), (27, 6, 0)]) ++ (0, 0, 0) :: (nw_dS 0)) ++ (0, 1, 0) :: (nw_dS 1)) ++ (0, 2, 0) :: (nw_dS 2)))]; exact hr), fun r hr => hI10.2.2.1 r (by rw [← List.append_nil ((((((25, 6, 0) :: [(26, 6, 0), (27, 6, 0)]) ++ (0, 0, 0) :: (nw_dS 0)) ++ (0, 1, 0) :: (nw_dS 1)) ++ (0, 2, 0) :: (nw_dS 2)))]; exact hr), hI10.2.2.2⟩ (nw_rf hR10 (fun j hj => rfl)) hS10 (lv_sub hl [1, 0] rfl)
