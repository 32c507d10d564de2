/-! Store -/
theorem nw_of_r {t i : Nat} (h : t < 24) : nw_of t i ≤ 83 ∧ (1 ≤ t → 1 ≤ nw_of t i) := by
  unfold nw_of
  by_cases c : t = 3
  · rw [if_pos c]
    by_cases d : i < 60
    · rw [if_pos d]; omega
    · rw [if_neg d]; omega
  · rw [if_neg c]
    by_cases d : t ≤ 5
    · rw [if_pos d]; omega
    · rw [if_neg d]; omega
theorem nw_rg {B k : Nat} {adK : Nat → Nat} {r : q_R} (h : r.1 < 24) (hk : r.2.1 = k) : nw_b B k ≤ nw_ad B adK r ∧ nw_ad B adK r ≤ nw_b B k + 83 ∧ (1 ≤ r.1 → nw_b B k < nw_ad B adK r) := by
  obtain ⟨t, k', i⟩ := r
  have hk : k' = k := hk
  subst hk
  have h : t < 24 := h
  have := @nw_of_r t i h
  rw [nw_ad_st h]
  refine ⟨by omega, by omega, fun q => ?_⟩
  have := this.2 q
  omega
theorem nw_gt {B k : Nat} {adK : Nat → Nat} {r : q_R} (h : 1 ≤ r.1 ∧ r.1 < 24 ∧ r.2.1 = k) : nw_ad B adK (0, k, 0) < nw_ad B adK r := by
  have h1 := (nw_rg (B := B) (adK := adK) h.2.1 h.2.2).2.2 h.1
  have h2 : nw_ad B adK (0, k, 0) = nw_b B k + 0 := nw_ad_st (by decide)
  omega
theorem nw_kP {k : Nat} : ∀ r ∈ (1, k, 0) :: nw_dP k, 1 ≤ r.1 ∧ r.1 < 24 ∧ r.2.1 = k := by
  intro r hr
  rcases List.mem_cons.mp hr with q | q
  · subst q
    exact ⟨Nat.le_of_ble_eq_true rfl, Nat.le_of_ble_eq_true rfl, rfl⟩
  · rcases List.mem_append.mp q with q | q
    · simp only [List.mem_cons, List.not_mem_nil, or_false] at q
      rcases q with rfl | rfl | rfl | rfl <;> exact ⟨Nat.le_of_ble_eq_true rfl, Nat.le_of_ble_eq_true rfl, rfl⟩
    · obtain ⟨j, h1, h2⟩ := nw_rep_m q
      rw [List.mem_singleton] at h2
      subst h2
      exact ⟨Nat.le_of_ble_eq_true rfl, Nat.le_of_ble_eq_true rfl, rfl⟩
theorem nw_kT {k : Nat} : ∀ r ∈ ([(6, k, 0), (7, k, 0), (8, k, 0), (9, k, 0), (10, k, 0)] : List q_R), 1 ≤ r.1 ∧ r.1 < 24 ∧ r.2.1 = k := by
  intro r hr
  simp only [List.mem_cons, List.not_mem_nil, or_false] at hr
  rcases hr with rfl | rfl | rfl | rfl | rfl <;> exact ⟨Nat.le_of_ble_eq_true rfl, Nat.le_of_ble_eq_true rfl, rfl⟩
theorem nw_kI {k : Nat} : ∀ r ∈ ([(11, k, 0), (12, k, 0), (13, k, 0), (14, k, 0)] : List q_R), 1 ≤ r.1 ∧ r.1 < 24 ∧ r.2.1 = k := by
  intro r hr
  simp only [List.mem_cons, List.not_mem_nil, or_false] at hr
  rcases hr with rfl | rfl | rfl | rfl <;> exact ⟨Nat.le_of_ble_eq_true rfl, Nat.le_of_ble_eq_true rfl, rfl⟩
theorem nw_kL {k : Nat} : ∀ r ∈ ([(15, k, 0), (16, k, 0), (17, k, 0), (18, k, 0)] : List q_R), 1 ≤ r.1 ∧ r.1 < 24 ∧ r.2.1 = k := by
  intro r hr
  simp only [List.mem_cons, List.not_mem_nil, or_false] at hr
  rcases hr with rfl | rfl | rfl | rfl <;> exact ⟨Nat.le_of_ble_eq_true rfl, Nat.le_of_ble_eq_true rfl, rfl⟩
theorem nw_kF {k : Nat} : ∀ r ∈ ([(19, k, 0), (20, k, 0), (21, k, 0), (22, k, 0), (23, k, 0)] : List q_R), 1 ≤ r.1 ∧ r.1 < 24 ∧ r.2.1 = k := by
  intro r hr
  simp only [List.mem_cons, List.not_mem_nil, or_false] at hr
  rcases hr with rfl | rfl | rfl | rfl | rfl <;> exact ⟨Nat.le_of_ble_eq_true rfl, Nat.le_of_ble_eq_true rfl, rfl⟩
set_option maxRecDepth 100000 in
theorem cw_ol5 : Cond.methodLink RX5 3 objectInit ∈ lw_tblG := q_g1 (i := 96) rfl rfl
theorem dX5_init_0 : decode cX5_init 0 = .ok (.aload_n 0, 1) := by decide +kernel
theorem dX5_init_1 : decode cX5_init 1 = .ok (.invokespecial 3, 3) := by decide +kernel
theorem dX5_init_4 : decode cX5_init 4 = .ok (.aload_n 0, 1) := by decide +kernel
theorem dX5_init_5 : decode cX5_init 5 = .ok (.new 9, 3) := by decide +kernel
theorem dX5_init_8 : decode cX5_init 8 = .ok (.dup, 1) := by decide +kernel
theorem dX5_init_9 : decode cX5_init 9 = .ok (.invokespecial 11, 3) := by decide +kernel
theorem dX5_init_12 : decode cX5_init 12 = .ok (.putfield 12, 3) := by decide +kernel
theorem dX5_init_15 : decode cX5_init 15 = .ok (.aload_n 0, 1) := by decide +kernel
theorem dX5_init_16 : decode cX5_init 16 = .ok (.new 18, 3) := by decide +kernel
theorem dX5_init_19 : decode cX5_init 19 = .ok (.dup, 1) := by decide +kernel
theorem dX5_init_20 : decode cX5_init 20 = .ok (.invokespecial 20, 3) := by decide +kernel
theorem dX5_init_23 : decode cX5_init 23 = .ok (.putfield 21, 3) := by decide +kernel
theorem dX5_init_26 : decode cX5_init 26 = .ok (.aload_n 0, 1) := by decide +kernel
theorem dX5_init_27 : decode cX5_init 27 = .ok (.new 25, 3) := by decide +kernel
theorem dX5_init_30 : decode cX5_init 30 = .ok (.dup, 1) := by decide +kernel
theorem dX5_init_31 : decode cX5_init 31 = .ok (.invokespecial 27, 3) := by decide +kernel
theorem dX5_init_34 : decode cX5_init 34 = .ok (.putfield 28, 3) := by decide +kernel
theorem dX5_init_37 : decode cX5_init 37 = .ok (.aload_n 0, 1) := by decide +kernel
theorem dX5_init_38 : decode cX5_init 38 = .ok (.new 32, 3) := by decide +kernel
theorem dX5_init_41 : decode cX5_init 41 = .ok (.dup, 1) := by decide +kernel
theorem dX5_init_42 : decode cX5_init 42 = .ok (.invokespecial 34, 3) := by decide +kernel
theorem dX5_init_45 : decode cX5_init 45 = .ok (.putfield 35, 3) := by decide +kernel
theorem dX5_init_48 : decode cX5_init 48 = .ok (.aload_n 0, 1) := by decide +kernel
theorem dX5_init_49 : decode cX5_init 49 = .ok (.new 39, 3) := by decide +kernel
theorem dX5_init_52 : decode cX5_init 52 = .ok (.dup, 1) := by decide +kernel
theorem dX5_init_53 : decode cX5_init 53 = .ok (.invokespecial 41, 3) := by decide +kernel
theorem dX5_init_56 : decode cX5_init 56 = .ok (.putfield 42, 3) := by decide +kernel
theorem dX5_init_59 : decode cX5_init 59 = .ok (.aload_n 0, 1) := by decide +kernel
theorem dX5_init_60 : decode cX5_init 60 = .ok (.iconst 3, 1) := by decide +kernel
theorem dX5_init_61 : decode cX5_init 61 = .ok (.putfield 46, 3) := by decide +kernel
theorem dX5_init_64 : decode cX5_init 64 = .ok (.aload_n 0, 1) := by decide +kernel
theorem dX5_init_65 : decode cX5_init 65 = .ok (.iconst 5, 1) := by decide +kernel
theorem dX5_init_66 : decode cX5_init 66 = .ok (.putfield 50, 3) := by decide +kernel
theorem dX5_init_69 : decode cX5_init 69 = .ok (.return_, 1) := by decide +kernel
set_option maxRecDepth 100000 in
theorem cw_f5_12 : Cond.fieldLink RX5 12 "RowPruner$Store" "pages" "LRowPruner$Pages;" ∈ lw_tblG := q_g2 (i := 53) rfl rfl
set_option maxRecDepth 100000 in
theorem cw_f5_21 : Cond.fieldLink RX5 21 "RowPruner$Store" "txns" "LRowPruner$Txns;" ∈ lw_tblG := q_g2 (i := 55) rfl rfl
set_option maxRecDepth 100000 in
theorem cw_f5_28 : Cond.fieldLink RX5 28 "RowPruner$Store" "index" "LRowPruner$Index;" ∈ lw_tblG := q_g2 (i := 57) rfl rfl
set_option maxRecDepth 100000 in
theorem cw_f5_35 : Cond.fieldLink RX5 35 "RowPruner$Store" "log" "LRowPruner$Log;" ∈ lw_tblG := q_g2 (i := 59) rfl rfl
set_option maxRecDepth 100000 in
theorem cw_f5_42 : Cond.fieldLink RX5 42 "RowPruner$Store" "found" "LRowPruner$Found;" ∈ lw_tblG := q_g2 (i := 61) rfl rfl
set_option maxRecDepth 100000 in
theorem cw_f5_46 : Cond.fieldLink RX5 46 "RowPruner$Store" "batch" "I" ∈ lw_tblG := q_g2 (i := 63) rfl rfl
set_option maxRecDepth 100000 in
theorem cw_f5_50 : Cond.fieldLink RX5 50 "RowPruner$Store" "age" "I" ∈ lw_tblG := q_g2 (i := 65) rfl rfl
set_option maxRecDepth 100000 in
theorem nw_inX5 : Cond.instantiable RX5 9 ∈ lw_tblG := q_g1 (i := 92) rfl rfl
set_option maxRecDepth 100000 in
theorem nw_iiX5 : Cond.initialized RX5 ∈ lw_tblG := q_g1 (i := 3) rfl rfl
set_option maxRecDepth 100000 in
theorem nw_coX5 : Cond.code yX5_init cX5_init 1 none ∈ lw_tblG := q_g1 (i := 95) rfl rfl
set_option maxRecDepth 100000 in
theorem nw_imX5 : Cond.instanceMethod yX5_init ∈ lw_tblG := q_g1 (i := 94) rfl rfl
theorem nw_fsX5 : ∀ j, j < 9 → defaultValue (tyX5 j) = vp_V (c_df 0) j := fun j hj => by
  rcases (show j = 0 ∨ j = 1 ∨ j = 2 ∨ j = 3 ∨ j = 4 ∨ j = 5 ∨ j = 6 ∨ j = 7 ∨ j = 8 by omega) with rfl | rfl | rfl | rfl | rfl | rfl | rfl | rfl | rfl <;> rfl
theorem nw_hnX5 : yX5_init.cls ≠ "java/lang/invoke/MethodHandle" ∧ yX5_init.cls ≠ "java/lang/invoke/VarHandle" := by decide +kernel
set_option maxRecDepth 100000 in
theorem nw_clX5_9 : Cond.classLink RX5 9 RX3 ∈ lw_tblG := q_g1 (i := 97) rfl rfl
set_option maxRecDepth 100000 in
theorem nw_clX5_18 : Cond.classLink RX5 18 RX7 ∈ lw_tblG := q_g1 (i := 188) rfl rfl
set_option maxRecDepth 100000 in
theorem nw_clX5_25 : Cond.classLink RX5 25 RX1 ∈ lw_tblG := q_g1 (i := 228) rfl rfl
set_option maxRecDepth 100000 in
theorem nw_clX5_32 : Cond.classLink RX5 32 RX2 ∈ lw_tblG := q_g2 (i := 9) rfl rfl
set_option maxRecDepth 100000 in
theorem nw_clX5_39 : Cond.classLink RX5 39 RX0 ∈ lw_tblG := q_g2 (i := 29) rfl rfl
set_option maxRecDepth 100000 in
theorem nw_mlX5_11 : Cond.methodLink RX5 11 yX3_init ∈ lw_tblG := q_g1 (i := 99) rfl rfl
set_option maxRecDepth 100000 in
theorem nw_mlX5_20 : Cond.methodLink RX5 20 yX7_init ∈ lw_tblG := q_g1 (i := 190) rfl rfl
def nw_dS (k : Nat) : List q_R := ((((((1, k, 0) :: (nw_dP k)) ++ (6, k, 0) :: ([(7, k, 0), (8, k, 0), (9, k, 0), (10, k, 0)])) ++ (11, k, 0) :: ([(12, k, 0), (13, k, 0), (14, k, 0)])) ++ (15, k, 0) :: ([(16, k, 0), (17, k, 0), (18, k, 0)])) ++ (19, k, 0) :: ([(20, k, 0), (21, k, 0), (22, k, 0), (23, k, 0)]))
set_option maxHeartbeats 4000000 in
set_option maxRecDepth 100000 in
theorem nw_cX5 {l : Launch} {D : va_G} {B : Nat} {adK : Nat → Nat} {cA : Nat → ClassId} {adV : Nat → Nat} {k : Nat} (hk : k ≤ 5) : nw_M l D B adK cA adV 4 yX5_init cX5_init 1 (0, k, 0) (nw_dS k) 83 1548 := by
  refine nw_met (by decide +kernel) (Nat.le_of_ble_eq_true rfl) rfl (fun p e s m below meth c ls hx hb hml hr hlk hown hin hts hP hl => ?_)
  obtain ⟨hsz, hO, hK, hX⟩ := hP
  have a0 : nw_ad B adK (0, k, 0) = nw_b B k + 0 := nw_ad_st (by decide)
  have a1 : nw_ad B adK (1, k, 0) = nw_b B k + 1 := nw_ad_st (by decide)
  have a6 : nw_ad B adK (6, k, 0) = nw_b B k + 66 := nw_ad_st (by decide)
  have a11 : nw_ad B adK (11, k, 0) = nw_b B k + 71 := nw_ad_st (by decide)
  have a15 : nw_ad B adK (15, k, 0) = nw_b B k + 75 := nw_ad_st (by decide)
  have a19 : nw_ad B adK (19, k, 0) = nw_b B k + 79 := nw_ad_st (by decide)
  have hz : B ≤ nw_ad B adK (0, k, 0) := by
    have := @nw_b_le B k
    omega
  have hI0 := nw_I0 (ad := nw_ad B adK) (cA := cA) (h := z_h0) hO hsz
  have hS0 : va_S (fun q => nw_ad B adK (0, k, 0) ≤ q) s.heap s.heap [] := va_S.rf
  have hAz := Nat.le_refl (nw_ad B adK (0, k, 0))
  have h0 := lv_at hl 0 rfl
  refine lv_aload_n hx hb dX5_init_0 rfl h0 ?_
  refine W.objInit hx hb hown (hts _ cw_ol5) (hts _ cw_oi) (hts _ cw_oc) rfl (by rw [hml]; exact hl.1) rfl dX5_init_1 (Nat.le_of_ble_eq_true rfl) (Nat.le_of_ble_eq_true rfl) ?_
  refine W.eq (g2 := F0 m 4 ls []) rfl ?_
  refine lv_aload_n hx hb dX5_init_4 rfl h0 ?_
  refine nw_obj (own := RX5) (T := TX3) (N := 5) (r := (1, k, 0)) (dom := (nw_dP k)) (n := 64) (ms := 804) (y := yX3_init) (nw_cX3 hk) hx hb hml hown hts hK hX (q_tagW 1 (by decide)) tyX3 tyX3_ok nw_clX5_9 nw_inX3 nw_iiX3 rfl nw_fsX3 nw_coX3 nw_imX3 rfl nw_hnX3 nw_sig0 (Or.inl nw_mlX5_11) (Nat.le_of_ble_eq_true rfl) (Nat.le_of_ble_eq_true rfl) (Nat.le_of_ble_eq_true rfl) (Nat.le_of_ble_eq_true rfl) hl.1 (Nat.le_of_ble_eq_true rfl) hS0 (fun q hq => Nat.le_trans hz hq) (by have := hI0.2.2.2; omega) (fun q hq => Nat.le_trans (by have := hI0.2.2.2; omega) hq) dX5_init_5 dX5_init_8 dX5_init_9 (fun H1 L1 w1 z1 o1 hS1 => ?_)
  have hI1 : nw_I D (nw_ad B adK) cA z_h0 (nw_ad B adK (0, k, 0)) 5 [.null, .null, .null, .null, .null, .int 0, .int 0, .int 0, .int 0] ((1, k, 0) :: (nw_dP k)) 65 H1 := nw_Ix (j := 1 + 64) hI0 o1 z1 w1 (fun r hr => nw_gt (nw_kP r hr))
  refine nw_put (T := TX5) (N := 9) hx hb hts (q_tagW 0 (by decide)) tyX5 tyX5_ok nmX5 hown hK hin hI1.1 rfl 0 (by decide) (hts _ cw_f5_12) rfl (ty := .object "RowPruner$Pages") (by decide +kernel) rfl rfl (Nat.le_of_ble_eq_true rfl) hS1 hAz dX5_init_12 (fun H2 L2 e2 z2 o2 hS2 => ?_)
  have hI2 : nw_I D (nw_ad B adK) cA z_h0 (nw_ad B adK (0, k, 0)) 5 [.ref (nw_ad B adK (1, k, 0)), .null, .null, .null, .null, .int 0, .int 0, .int 0, .int 0] ((1, k, 0) :: (nw_dP k)) 65 H2 := nw_Ip hI1 e2 z2 o2
  refine lv_aload_n hx hb dX5_init_15 rfl h0 ?_
  refine nw_obj (own := RX5) (T := TX7) (N := 6) (r := (6, k, 0)) (dom := ([(7, k, 0), (8, k, 0), (9, k, 0), (10, k, 0)])) (n := 4) (ms := 244) (y := yX7_init) (nw_cX7 hk) hx hb hml hown hts hK hX (q_tagW 6 (by decide)) tyX7 tyX7_ok nw_clX5_18 nw_inX7 nw_iiX7 rfl nw_fsX7 nw_coX7 nw_imX7 rfl nw_hnX7 nw_sig0 (Or.inl nw_mlX5_20) (Nat.le_of_ble_eq_true rfl) (Nat.le_of_ble_eq_true rfl) (Nat.le_of_ble_eq_true rfl) (Nat.le_of_ble_eq_true rfl) hl.1 (Nat.le_of_ble_eq_true rfl) hS2 (fun q hq => Nat.le_trans hz hq) (by have := hI2.2.2.2; omega) (fun q hq => Nat.le_trans (by have := hI2.2.2.2; omega) hq) dX5_init_16 dX5_init_19 dX5_init_20 (fun H3 L3 w3 z3 o3 hS3 => ?_)
  have hI3 : nw_I D (nw_ad B adK) cA z_h0 (nw_ad B adK (0, k, 0)) 5 [.ref (nw_ad B adK (1, k, 0)), .null, .null, .null, .null, .int 0, .int 0, .int 0, .int 0] (((1, k, 0) :: (nw_dP k)) ++ (6, k, 0) :: ([(7, k, 0), (8, k, 0), (9, k, 0), (10, k, 0)])) 70 H3 := nw_Ix (j := 1 + 4) hI2 o3 z3 w3 (fun r hr => nw_gt (nw_kT r hr))
  refine nw_put (T := TX5) (N := 9) hx hb hts (q_tagW 0 (by decide)) tyX5 tyX5_ok nmX5 hown hK hin hI3.1 rfl 1 (by decide) (hts _ cw_f5_21) rfl (ty := .object "RowPruner$Txns") (by decide +kernel) rfl rfl (Nat.le_of_ble_eq_true rfl) hS3 hAz dX5_init_23 (fun H4 L4 e4 z4 o4 hS4 => ?_)
  have hI4 : nw_I D (nw_ad B adK) cA z_h0 (nw_ad B adK (0, k, 0)) 5 [.ref (nw_ad B adK (1, k, 0)), .ref (nw_ad B adK (6, k, 0)), .null, .null, .null, .int 0, .int 0, .int 0, .int 0] (((1, k, 0) :: (nw_dP k)) ++ (6, k, 0) :: ([(7, k, 0), (8, k, 0), (9, k, 0), (10, k, 0)])) 70 H4 := nw_Ip hI3 e4 z4 o4
  refine lv_aload_n hx hb dX5_init_26 rfl h0 ?_
  refine nw_obj (own := RX5) (T := TX1) (N := 4) (r := (11, k, 0)) (dom := ([(12, k, 0), (13, k, 0), (14, k, 0)])) (n := 3) (ms := 180) (y := yX1_init) (nw_cX1 hk) hx hb hml hown hts hK hX (q_tagW 11 (by decide)) tyX1 tyX1_ok nw_clX5_25 nw_inX1 nw_iiX1 rfl nw_fsX1 nw_coX1 nw_imX1 rfl nw_hnX1 nw_sig0 (Or.inr ⟨_, hX.2.1.2.2.1⟩) (Nat.le_of_ble_eq_true rfl) (Nat.le_of_ble_eq_true rfl) (Nat.le_of_ble_eq_true rfl) (Nat.le_of_ble_eq_true rfl) hl.1 (Nat.le_of_ble_eq_true rfl) hS4 (fun q hq => Nat.le_trans hz hq) (by have := hI4.2.2.2; omega) (fun q hq => Nat.le_trans (by have := hI4.2.2.2; omega) hq) dX5_init_27 dX5_init_30 dX5_init_31 (fun H5 L5 w5 z5 o5 hS5 => ?_)
  have hI5 : nw_I D (nw_ad B adK) cA z_h0 (nw_ad B adK (0, k, 0)) 5 [.ref (nw_ad B adK (1, k, 0)), .ref (nw_ad B adK (6, k, 0)), .null, .null, .null, .int 0, .int 0, .int 0, .int 0] ((((1, k, 0) :: (nw_dP k)) ++ (6, k, 0) :: ([(7, k, 0), (8, k, 0), (9, k, 0), (10, k, 0)])) ++ (11, k, 0) :: ([(12, k, 0), (13, k, 0), (14, k, 0)])) 74 H5 := nw_Ix (j := 1 + 3) hI4 o5 z5 w5 (fun r hr => nw_gt (nw_kI r hr))
  refine nw_put (T := TX5) (N := 9) hx hb hts (q_tagW 0 (by decide)) tyX5 tyX5_ok nmX5 hown hK hin hI5.1 rfl 2 (by decide) (hts _ cw_f5_28) rfl (ty := .object "RowPruner$Index") (by decide +kernel) rfl rfl (Nat.le_of_ble_eq_true rfl) hS5 hAz dX5_init_34 (fun H6 L6 e6 z6 o6 hS6 => ?_)
  have hI6 : nw_I D (nw_ad B adK) cA z_h0 (nw_ad B adK (0, k, 0)) 5 [.ref (nw_ad B adK (1, k, 0)), .ref (nw_ad B adK (6, k, 0)), .ref (nw_ad B adK (11, k, 0)), .null, .null, .int 0, .int 0, .int 0, .int 0] ((((1, k, 0) :: (nw_dP k)) ++ (6, k, 0) :: ([(7, k, 0), (8, k, 0), (9, k, 0), (10, k, 0)])) ++ (11, k, 0) :: ([(12, k, 0), (13, k, 0), (14, k, 0)])) 74 H6 := nw_Ip hI5 e6 z6 o6
  refine lv_aload_n hx hb dX5_init_37 rfl h0 ?_
  refine nw_obj (own := RX5) (T := TX2) (N := 4) (r := (15, k, 0)) (dom := ([(16, k, 0), (17, k, 0), (18, k, 0)])) (n := 3) (ms := 56) (y := yX2_init) (nw_cX2 hk) hx hb hml hown hts hK hX (q_tagW 15 (by decide)) tyX2 tyX2_ok nw_clX5_32 nw_inX2 nw_iiX2 rfl nw_fsX2 nw_coX2 nw_imX2 rfl nw_hnX2 nw_sig0 (Or.inr ⟨_, hX.2.1.2.2.2.1⟩) (Nat.le_of_ble_eq_true rfl) (Nat.le_of_ble_eq_true rfl) (Nat.le_of_ble_eq_true rfl) (Nat.le_of_ble_eq_true rfl) hl.1 (Nat.le_of_ble_eq_true rfl) hS6 (fun q hq => Nat.le_trans hz hq) (by have := hI6.2.2.2; omega) (fun q hq => Nat.le_trans (by have := hI6.2.2.2; omega) hq) dX5_init_38 dX5_init_41 dX5_init_42 (fun H7 L7 w7 z7 o7 hS7 => ?_)
  have hI7 : nw_I D (nw_ad B adK) cA z_h0 (nw_ad B adK (0, k, 0)) 5 [.ref (nw_ad B adK (1, k, 0)), .ref (nw_ad B adK (6, k, 0)), .ref (nw_ad B adK (11, k, 0)), .null, .null, .int 0, .int 0, .int 0, .int 0] (((((1, k, 0) :: (nw_dP k)) ++ (6, k, 0) :: ([(7, k, 0), (8, k, 0), (9, k, 0), (10, k, 0)])) ++ (11, k, 0) :: ([(12, k, 0), (13, k, 0), (14, k, 0)])) ++ (15, k, 0) :: ([(16, k, 0), (17, k, 0), (18, k, 0)])) 78 H7 := nw_Ix (j := 1 + 3) hI6 o7 z7 w7 (fun r hr => nw_gt (nw_kL r hr))
  refine nw_put (T := TX5) (N := 9) hx hb hts (q_tagW 0 (by decide)) tyX5 tyX5_ok nmX5 hown hK hin hI7.1 rfl 3 (by decide) (hts _ cw_f5_35) rfl (ty := .object "RowPruner$Log") (by decide +kernel) rfl rfl (Nat.le_of_ble_eq_true rfl) hS7 hAz dX5_init_45 (fun H8 L8 e8 z8 o8 hS8 => ?_)
  have hI8 : nw_I D (nw_ad B adK) cA z_h0 (nw_ad B adK (0, k, 0)) 5 [.ref (nw_ad B adK (1, k, 0)), .ref (nw_ad B adK (6, k, 0)), .ref (nw_ad B adK (11, k, 0)), .ref (nw_ad B adK (15, k, 0)), .null, .int 0, .int 0, .int 0, .int 0] (((((1, k, 0) :: (nw_dP k)) ++ (6, k, 0) :: ([(7, k, 0), (8, k, 0), (9, k, 0), (10, k, 0)])) ++ (11, k, 0) :: ([(12, k, 0), (13, k, 0), (14, k, 0)])) ++ (15, k, 0) :: ([(16, k, 0), (17, k, 0), (18, k, 0)])) 78 H8 := nw_Ip hI7 e8 z8 o8
  refine lv_aload_n hx hb dX5_init_48 rfl h0 ?_
  refine nw_obj (own := RX5) (T := TX0) (N := 5) (r := (19, k, 0)) (dom := ([(20, k, 0), (21, k, 0), (22, k, 0), (23, k, 0)])) (n := 4) (ms := 240) (y := yX0_init) (nw_cX0 hk) hx hb hml hown hts hK hX (q_tagW 19 (by decide)) tyX0 tyX0_ok nw_clX5_39 nw_inX0 nw_iiX0 rfl nw_fsX0 nw_coX0 nw_imX0 rfl nw_hnX0 nw_sig0 (Or.inr ⟨_, hX.2.1.2.2.2.2⟩) (Nat.le_of_ble_eq_true rfl) (Nat.le_of_ble_eq_true rfl) (Nat.le_of_ble_eq_true rfl) (Nat.le_of_ble_eq_true rfl) hl.1 (Nat.le_of_ble_eq_true rfl) hS8 (fun q hq => Nat.le_trans hz hq) (by have := hI8.2.2.2; omega) (fun q hq => Nat.le_trans (by have := hI8.2.2.2; omega) hq) dX5_init_49 dX5_init_52 dX5_init_53 (fun H9 L9 w9 z9 o9 hS9 => ?_)
  have hI9 : nw_I D (nw_ad B adK) cA z_h0 (nw_ad B adK (0, k, 0)) 5 [.ref (nw_ad B adK (1, k, 0)), .ref (nw_ad B adK (6, k, 0)), .ref (nw_ad B adK (11, k, 0)), .ref (nw_ad B adK (15, k, 0)), .null, .int 0, .int 0, .int 0, .int 0] ((((((1, k, 0) :: (nw_dP k)) ++ (6, k, 0) :: ([(7, k, 0), (8, k, 0), (9, k, 0), (10, k, 0)])) ++ (11, k, 0) :: ([(12, k, 0), (13, k, 0), (14, k, 0)])) ++ (15, k, 0) :: ([(16, k, 0), (17, k, 0), (18, k, 0)])) ++ (19, k, 0) :: ([(20, k, 0), (21, k, 0), (22, k, 0), (23, k, 0)])) 83 H9 := nw_Ix (j := 1 + 4) hI8 o9 z9 w9 (fun r hr => nw_gt (nw_kF r hr))
  refine nw_put (T := TX5) (N := 9) hx hb hts (q_tagW 0 (by decide)) tyX5 tyX5_ok nmX5 hown hK hin hI9.1 rfl 4 (by decide) (hts _ cw_f5_42) rfl (ty := .object "RowPruner$Found") (by decide +kernel) rfl rfl (Nat.le_of_ble_eq_true rfl) hS9 hAz dX5_init_56 (fun H10 L10 e10 z10 o10 hS10 => ?_)
  have hI10 : nw_I D (nw_ad B adK) cA z_h0 (nw_ad B adK (0, k, 0)) 5 [.ref (nw_ad B adK (1, k, 0)), .ref (nw_ad B adK (6, k, 0)), .ref (nw_ad B adK (11, k, 0)), .ref (nw_ad B adK (15, k, 0)), .ref (nw_ad B adK (19, k, 0)), .int 0, .int 0, .int 0, .int 0] ((((((1, k, 0) :: (nw_dP k)) ++ (6, k, 0) :: ([(7, k, 0), (8, k, 0), (9, k, 0), (10, k, 0)])) ++ (11, k, 0) :: ([(12, k, 0), (13, k, 0), (14, k, 0)])) ++ (15, k, 0) :: ([(16, k, 0), (17, k, 0), (18, k, 0)])) ++ (19, k, 0) :: ([(20, k, 0), (21, k, 0), (22, k, 0), (23, k, 0)])) 83 H10 := nw_Ip hI9 e10 z10 o10
  refine lv_aload_n hx hb dX5_init_59 rfl h0 ?_
  refine lv_iconst hx hb dX5_init_60 (v := 3) (by decide) ?_
  refine nw_put (T := TX5) (N := 9) hx hb hts (q_tagW 0 (by decide)) tyX5 tyX5_ok nmX5 hown hK hin hI10.1 rfl 5 (by decide) (hts _ cw_f5_46) rfl (ty := .int) (by decide +kernel) rfl rfl (Nat.le_of_ble_eq_true rfl) hS10 hAz dX5_init_61 (fun H11 L11 e11 z11 o11 hS11 => ?_)
  have hI11 : nw_I D (nw_ad B adK) cA z_h0 (nw_ad B adK (0, k, 0)) 5 [.ref (nw_ad B adK (1, k, 0)), .ref (nw_ad B adK (6, k, 0)), .ref (nw_ad B adK (11, k, 0)), .ref (nw_ad B adK (15, k, 0)), .ref (nw_ad B adK (19, k, 0)), .int (3), .int 0, .int 0, .int 0] ((((((1, k, 0) :: (nw_dP k)) ++ (6, k, 0) :: ([(7, k, 0), (8, k, 0), (9, k, 0), (10, k, 0)])) ++ (11, k, 0) :: ([(12, k, 0), (13, k, 0), (14, k, 0)])) ++ (15, k, 0) :: ([(16, k, 0), (17, k, 0), (18, k, 0)])) ++ (19, k, 0) :: ([(20, k, 0), (21, k, 0), (22, k, 0), (23, k, 0)])) 83 H11 := nw_Ip hI10 e11 z11 o11
  refine lv_aload_n hx hb dX5_init_64 rfl h0 ?_
  refine lv_iconst hx hb dX5_init_65 (v := 5) (by decide) ?_
  refine nw_put (T := TX5) (N := 9) hx hb hts (q_tagW 0 (by decide)) tyX5 tyX5_ok nmX5 hown hK hin hI11.1 rfl 6 (by decide) (hts _ cw_f5_50) rfl (ty := .int) (by decide +kernel) rfl rfl (Nat.le_of_ble_eq_true rfl) hS11 hAz dX5_init_66 (fun H12 L12 e12 z12 o12 hS12 => ?_)
  have hI12 : nw_I D (nw_ad B adK) cA z_h0 (nw_ad B adK (0, k, 0)) 5 [.ref (nw_ad B adK (1, k, 0)), .ref (nw_ad B adK (6, k, 0)), .ref (nw_ad B adK (11, k, 0)), .ref (nw_ad B adK (15, k, 0)), .ref (nw_ad B adK (19, k, 0)), .int (3), .int (5), .int 0, .int 0] ((((((1, k, 0) :: (nw_dP k)) ++ (6, k, 0) :: ([(7, k, 0), (8, k, 0), (9, k, 0), (10, k, 0)])) ++ (11, k, 0) :: ([(12, k, 0), (13, k, 0), (14, k, 0)])) ++ (15, k, 0) :: ([(16, k, 0), (17, k, 0), (18, k, 0)])) ++ (19, k, 0) :: ([(20, k, 0), (21, k, 0), (22, k, 0), (23, k, 0)])) 83 H12 := nw_Ip hI11 e12 z12 o12
  have hW := nw_fin hI12 (by
    show (Sum.inr (5, [Value.ref (nw_ad B adK (1, k, 0)), Value.ref (nw_ad B adK (6, k, 0)), Value.ref (nw_ad B adK (11, k, 0)), Value.ref (nw_ad B adK (15, k, 0)), Value.ref (nw_ad B adK (19, k, 0)), Value.int (z_h0.1 0 5 k 0), Value.int (z_h0.1 0 6 k 0), Value.int (z_h0.1 0 7 k 0), Value.int (z_h0.1 0 8 k 0)]) : va_E) = _
    simp only [z_h0_k hk]
    rfl) (fun x hx H q => q)
  exact W.vret hx hb hr (fun t ht _ => ⟨⟨rfl, by rw [ht]; exact hI12.2.2.2, by rw [ht]; exact hW⟩, hS12.F ht⟩) hS12.2.2 dX5_init_69 hlk
theorem nw_kS {k : Nat} : ∀ r ∈ (0, k, 0) :: nw_dS k, r.1 < 24 ∧ r.2.1 = k := by
  intro r hr
  rcases List.mem_cons.mp hr with q | q
  · subst q
    exact ⟨Nat.le_of_ble_eq_true rfl, rfl⟩
  · rcases List.mem_append.mp q with q | q
    · rcases List.mem_append.mp q with q | q
      · rcases List.mem_append.mp q with q | q
        · rcases List.mem_append.mp q with q | q
          · exact (nw_kP r q).2
          · exact (nw_kT r q).2
        · exact (nw_kI r q).2
      · exact (nw_kL r q).2
    · exact (nw_kF r q).2
