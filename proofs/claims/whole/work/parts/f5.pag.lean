/-! Pages -/
def nw_rep (g : Nat → List q_R) : Nat → List q_R
  | 0 => []
  | i + 1 => nw_rep g i ++ g i
theorem nw_rep_m {g : Nat → List q_R} {r : q_R} : ∀ {n : Nat}, r ∈ nw_rep g n → ∃ j, j < n ∧ r ∈ g j
  | 0, h => absurd h List.not_mem_nil
  | n + 1, h => by
    rcases List.mem_append.mp h with q | q
    · obtain ⟨j, h1, h2⟩ := nw_rep_m q
      exact ⟨j, by omega, h2⟩
    · exact ⟨n, by omega, q⟩
def nw_fn (g : Nat → Nat) (i : Nat) : Nat → Option Nat := fun j => if j < i then some (g j) else none
theorem nw_fn_s {g : Nat → Nat} {i : Nat} : va_up (nw_fn g i) i (some (g i)) = nw_fn g (i + 1) := by
  funext j
  unfold va_up nw_fn
  by_cases c : j = i
  · rw [if_pos c, if_pos (by omega), c]
  · rw [if_neg c]
    by_cases d : j < i
    · rw [if_pos d, if_pos (by omega)]
    · rw [if_neg d, if_neg (by omega)]
theorem nw_rf {c0 : ClassId} {N a : Nat} {f g : Nat → Option Nat} {H : Heap} {D : va_G} (h : va_at D vwCl (a, .inl (c0, N, .inr (.inr (.inr (.inr f))))) H) (e : ∀ j, j < N → f j = g j) : va_at D vwCl (a, .inl (c0, N, .inr (.inr (.inr (.inr g))))) H := by
  have h1 : H[a]? = some (vp_cell c0 (N, .inr (.inr (.inr (.inr f))))) := h
  show H[a]? = some (vp_cell c0 (N, .inr (.inr (.inr (.inr g)))))
  rw [h1]
  exact congrArg some (nw_acg (fun j hj => congrArg va_rf (e j hj)))
def nw_dP (k : Nat) : List q_R := [(2, k, 0), (3, k, 60), (4, k, 0), (5, k, 0)] ++ nw_rep (fun j => [(3, k, j)]) 60
theorem nw_ad_3 {B k i : Nat} {adK : Nat → Nat} (hi : i < 60) : nw_ad B adK (3, k, i) = nw_b B k + (6 + i) := by
  rw [nw_ad_st (by decide)]
  exact congrArg (nw_b B k + ·) ((if_pos rfl).trans (if_pos hi))
set_option maxRecDepth 100000 in
theorem cw_ol3 : Cond.methodLink RX3 3 objectInit ∈ lw_tblG := q_g1 (i := 102) rfl rfl
theorem dX3_init_0 : decode cX3_init 0 = .ok (.aload_n 0, 1) := by decide +kernel
theorem dX3_init_1 : decode cX3_init 1 = .ok (.invokespecial 3, 3) := by decide +kernel
theorem dX3_init_4 : decode cX3_init 4 = .ok (.aload_n 0, 1) := by decide +kernel
theorem dX3_init_5 : decode cX3_init 5 = .ok (.bipush 60, 2) := by decide +kernel
theorem dX3_init_7 : decode cX3_init 7 = .ok (.anewarray 9, 3) := by decide +kernel
theorem dX3_init_10 : decode cX3_init 10 = .ok (.putfield 11, 3) := by decide +kernel
theorem dX3_init_13 : decode cX3_init 13 = .ok (.aload_n 0, 1) := by decide +kernel
theorem dX3_init_14 : decode cX3_init 14 = .ok (.new 9, 3) := by decide +kernel
theorem dX3_init_17 : decode cX3_init 17 = .ok (.dup, 1) := by decide +kernel
theorem dX3_init_18 : decode cX3_init 18 = .ok (.invokespecial 17, 3) := by decide +kernel
theorem dX3_init_21 : decode cX3_init 21 = .ok (.putfield 18, 3) := by decide +kernel
theorem dX3_init_24 : decode cX3_init 24 = .ok (.aload_n 0, 1) := by decide +kernel
theorem dX3_init_25 : decode cX3_init 25 = .ok (.bipush 6, 2) := by decide +kernel
theorem dX3_init_27 : decode cX3_init 27 = .ok (.newarray .int, 2) := by decide +kernel
theorem dX3_init_29 : decode cX3_init 29 = .ok (.putfield 22, 3) := by decide +kernel
theorem dX3_init_32 : decode cX3_init 32 = .ok (.aload_n 0, 1) := by decide +kernel
theorem dX3_init_33 : decode cX3_init 33 = .ok (.bipush 6, 2) := by decide +kernel
theorem dX3_init_35 : decode cX3_init 35 = .ok (.newarray .int, 2) := by decide +kernel
theorem dX3_init_37 : decode cX3_init 37 = .ok (.putfield 26, 3) := by decide +kernel
theorem dX3_init_40 : decode cX3_init 40 = .ok (.aload_n 0, 1) := by decide +kernel
theorem dX3_init_41 : decode cX3_init 41 = .ok (.bipush 64, 2) := by decide +kernel
theorem dX3_init_43 : decode cX3_init 43 = .ok (.putfield 29, 3) := by decide +kernel
theorem dX3_init_46 : decode cX3_init 46 = .ok (.iconst 0, 1) := by decide +kernel
theorem dX3_init_47 : decode cX3_init 47 = .ok (.istore_n 1, 1) := by decide +kernel
theorem dX3_init_48 : decode cX3_init 48 = .ok (.iload_n 1, 1) := by decide +kernel
theorem dX3_init_49 : decode cX3_init 49 = .ok (.aload_n 0, 1) := by decide +kernel
theorem dX3_init_50 : decode cX3_init 50 = .ok (.getfield 11, 3) := by decide +kernel
theorem dX3_init_53 : decode cX3_init 53 = .ok (.arraylength, 1) := by decide +kernel
theorem dX3_init_54 : decode cX3_init 54 = .ok (.if_icmp .ge 22, 3) := by decide +kernel
theorem dX3_init_57 : decode cX3_init 57 = .ok (.aload_n 0, 1) := by decide +kernel
theorem dX3_init_58 : decode cX3_init 58 = .ok (.getfield 11, 3) := by decide +kernel
theorem dX3_init_61 : decode cX3_init 61 = .ok (.iload_n 1, 1) := by decide +kernel
theorem dX3_init_62 : decode cX3_init 62 = .ok (.new 9, 3) := by decide +kernel
theorem dX3_init_65 : decode cX3_init 65 = .ok (.dup, 1) := by decide +kernel
theorem dX3_init_66 : decode cX3_init 66 = .ok (.invokespecial 17, 3) := by decide +kernel
theorem dX3_init_69 : decode cX3_init 69 = .ok (.aastore, 1) := by decide +kernel
theorem dX3_init_70 : decode cX3_init 70 = .ok (.iinc 1 1, 3) := by decide +kernel
theorem dX3_init_73 : decode cX3_init 73 = .ok (.goto (-25), 3) := by decide +kernel
theorem dX3_init_76 : decode cX3_init 76 = .ok (.return_, 1) := by decide +kernel
set_option maxRecDepth 100000 in
theorem cw_f3_11 : Cond.fieldLink RX3 11 "RowPruner$Pages" "slots" "[LRowPruner$Slot;" ∈ lw_tblG := q_g1 (i := 170) rfl rfl
set_option maxRecDepth 100000 in
theorem cw_f3_18 : Cond.fieldLink RX3 18 "RowPruner$Pages" "nowhere" "LRowPruner$Slot;" ∈ lw_tblG := q_g1 (i := 171) rfl rfl
set_option maxRecDepth 100000 in
theorem cw_f3_22 : Cond.fieldLink RX3 22 "RowPruner$Pages" "lengths" "[I" ∈ lw_tblG := q_g1 (i := 172) rfl rfl
set_option maxRecDepth 100000 in
theorem cw_f3_26 : Cond.fieldLink RX3 26 "RowPruner$Pages" "clear" "[I" ∈ lw_tblG := q_g1 (i := 173) rfl rfl
set_option maxRecDepth 100000 in
theorem cw_f3_29 : Cond.fieldLink RX3 29 "RowPruner$Pages" "units" "I" ∈ lw_tblG := q_g1 (i := 174) rfl rfl
set_option maxRecDepth 100000 in
theorem nw_inX3 : Cond.instantiable RX3 5 ∈ lw_tblG := q_g1 (i := 98) rfl rfl
set_option maxRecDepth 100000 in
theorem nw_iiX3 : Cond.initialized RX3 ∈ lw_tblG := q_g1 (i := 4) rfl rfl
set_option maxRecDepth 100000 in
theorem nw_coX3 : Cond.code yX3_init cX3_init 2 none ∈ lw_tblG := q_g1 (i := 101) rfl rfl
set_option maxRecDepth 100000 in
theorem nw_imX3 : Cond.instanceMethod yX3_init ∈ lw_tblG := q_g1 (i := 100) rfl rfl
theorem nw_fsX3 : ∀ j, j < 5 → defaultValue (tyX3 j) = vp_V (c_df 1) j := fun j hj => by
  rcases (show j = 0 ∨ j = 1 ∨ j = 2 ∨ j = 3 ∨ j = 4 by omega) with rfl | rfl | rfl | rfl | rfl <;> rfl
theorem nw_hnX3 : yX3_init.cls ≠ "java/lang/invoke/MethodHandle" ∧ yX3_init.cls ≠ "java/lang/invoke/VarHandle" := by decide +kernel
set_option maxRecDepth 100000 in
theorem nw_clX3_9 : Cond.classLink RX3 9 RX4 ∈ lw_tblG := q_g1 (i := 103) rfl rfl
set_option maxRecDepth 100000 in
theorem nw_mlX3_17 : Cond.methodLink RX3 17 yX4_init ∈ lw_tblG := q_g1 (i := 106) rfl rfl
set_option maxHeartbeats 4000000 in
set_option maxRecDepth 100000 in
theorem nw_cX3 {l : Launch} {D : va_G} {B : Nat} {adK : Nat → Nat} {cA : Nat → ClassId} {adV : Nat → Nat} {k : Nat} (hk : k ≤ 5) : nw_M l D B adK cA adV 3 yX3_init cX3_init 2 (1, k, 0) (nw_dP k) 64 804 := by
  refine nw_met (by decide +kernel) (Nat.le_of_ble_eq_true rfl) rfl (fun p e s m below meth c ls hx hb hml hr hlk hown hin hts hP hl => ?_)
  obtain ⟨hsz, hO, hK, hX⟩ := hP
  have a1 : nw_ad B adK (1, k, 0) = nw_b B k + 1 := nw_ad_st (by decide)
  have a2 : nw_ad B adK (2, k, 0) = nw_b B k + 2 := nw_ad_st (by decide)
  have a4 : nw_ad B adK (4, k, 0) = nw_b B k + 4 := nw_ad_st (by decide)
  have a5 : nw_ad B adK (5, k, 0) = nw_b B k + 5 := nw_ad_st (by decide)
  have a3 : nw_ad B adK (3, k, 60) = nw_b B k + 3 := nw_ad_st (by decide)
  have hz : B ≤ nw_ad B adK (1, k, 0) := by
    have := @nw_b_le B k
    omega
  have hI0 := nw_I0 (ad := nw_ad B adK) (cA := cA) (h := z_h0) hO hsz
  have hS0 : va_S (fun q => nw_ad B adK (1, k, 0) ≤ q) s.heap s.heap [] := va_S.rf
  have hAz := Nat.le_refl (nw_ad B adK (1, k, 0))
  have h0 := lv_at hl 0 rfl
  refine lv_aload_n hx hb dX3_init_0 rfl h0 ?_
  refine W.objInit hx hb hown (hts _ cw_ol3) (hts _ cw_oi) (hts _ cw_oc) rfl (by rw [hml]; exact hl.1) rfl dX3_init_1 (Nat.le_of_ble_eq_true rfl) (Nat.le_of_ble_eq_true rfl) ?_
  refine W.eq (g2 := F0 m 4 ls []) rfl ?_
  refine lv_aload_n hx hb dX3_init_4 rfl h0 ?_
  refine lv_bipush hx hb dX3_init_5 (v := 60) (by decide) ?_
  refine nw_newq (t0 := 3) (N := 60) (c0 := cA 3) (C := RX4) hx hb hown (hts _ nw_clX3_9) hX.2.2.1 hK rfl (by decide) (by decide) (Nat.le_of_ble_eq_true rfl) (Nat.le_of_ble_eq_true rfl) (Nat.le_of_ble_eq_true rfl) hS0 dX3_init_7 (fun H1 e1 z1 o1 hS1 => ?_)
  have es1 : s.heap.size = nw_ad B adK (2, k, 0) := by have := hI0.2.2.2; omega
  rw [es1] at e1 ⊢
  have hI1 : nw_I D (nw_ad B adK) cA z_h0 (nw_ad B adK (1, k, 0)) 3 [.null, .null, .null, .null, .int 0] [] 1 H1 := nw_Ix (d2 := []) (j := 1) hI0 o1 z1 (fun r hr => absurd hr List.not_mem_nil) (fun r hr => absurd hr List.not_mem_nil)
  have hR1 := e1
  refine nw_put (T := TX3) (N := 5) hx hb hts (q_tagW 1 (by decide)) tyX3 tyX3_ok nmX3 hown hK hin hI1.1 rfl 0 (by decide) (hts _ cw_f3_11) rfl (ty := .array (.object "RowPruner$Slot")) (by decide +kernel) rfl rfl (Nat.le_of_ble_eq_true rfl) hS1 hAz dX3_init_10 (fun H2 L2 e2 z2 o2 hS2 => ?_)
  have hI2 : nw_I D (nw_ad B adK) cA z_h0 (nw_ad B adK (1, k, 0)) 3 [.ref (nw_ad B adK (2, k, 0)), .null, .null, .null, .int 0] [] 1 H2 := nw_Ip hI1 e2 z2 o2
  have hR2 := c_at_keep hR1 (o2 _ (show nw_ad B adK (2, k, 0) ≠ nw_ad B adK (1, k, 0) by omega))
  refine lv_aload_n hx hb dX3_init_13 rfl h0 ?_
  refine nw_obj (own := RX3) (T := TX4) (N := 12) (r := (3, k, 60)) (dom := []) (n := 0) (ms := 0) (y := yX4_init) (nw_cX4 hk) hx hb hml hown hts hK hX (q_tagW 3 (by decide)) tyX4 tyX4_ok nw_clX3_9 nw_inX4 nw_iiX4 rfl nw_fsX4 nw_coX4 nw_imX4 rfl nw_hnX4 nw_sig0 (Or.inl nw_mlX3_17) (Nat.le_of_ble_eq_true rfl) (Nat.le_of_ble_eq_true rfl) (Nat.le_of_ble_eq_true rfl) (Nat.le_of_ble_eq_true rfl) hl.1 (Nat.le_of_ble_eq_true rfl) hS2 (fun q hq => Nat.le_trans hz hq) (by have := hI2.2.2.2; omega) (fun q hq => Nat.le_trans (by have := hI2.2.2.2; omega) hq) dX3_init_14 dX3_init_17 dX3_init_18 (fun H3 L3 w3 z3 o3 hS3 => ?_)
  have hI3 : nw_I D (nw_ad B adK) cA z_h0 (nw_ad B adK (1, k, 0)) 3 [.ref (nw_ad B adK (2, k, 0)), .null, .null, .null, .int 0] ((3, k, 60) :: []) 2 H3 := nw_Ix (j := 1 + 0) hI2 o3 z3 w3 (fun r hr => by rw [List.mem_singleton] at hr; rw [hr]; omega)
  have hR3 := c_at_keep hR2 (o3 _ (c_at_lt hR2))
  refine nw_put (T := TX3) (N := 5) hx hb hts (q_tagW 1 (by decide)) tyX3 tyX3_ok nmX3 hown hK hin hI3.1 rfl 1 (by decide) (hts _ cw_f3_18) rfl (ty := .object "RowPruner$Slot") (by decide +kernel) rfl rfl (Nat.le_of_ble_eq_true rfl) hS3 hAz dX3_init_21 (fun H4 L4 e4 z4 o4 hS4 => ?_)
  have hI4 : nw_I D (nw_ad B adK) cA z_h0 (nw_ad B adK (1, k, 0)) 3 [.ref (nw_ad B adK (2, k, 0)), .ref (nw_ad B adK (3, k, 60)), .null, .null, .int 0] ((3, k, 60) :: []) 2 H4 := nw_Ip hI3 e4 z4 o4
  have hR4 := c_at_keep hR3 (o4 _ (show nw_ad B adK (2, k, 0) ≠ nw_ad B adK (1, k, 0) by omega))
  refine lv_aload_n hx hb dX3_init_24 rfl h0 ?_
  refine lv_bipush hx hb dX3_init_25 (v := 6) (by decide) ?_
  refine nw_newa (atype := .int) (t0 := 0) (N := 6) (c0 := cA 0) (a0 := (6, .inl (fun _ => 0))) hx hb (hts _ cw_ai) hK rfl rfl (by decide) (by decide) (Nat.le_of_ble_eq_true rfl) (Nat.le_of_ble_eq_true rfl) (Nat.le_of_ble_eq_true rfl) hS4 dX3_init_27 (fun H5 e5 z5 o5 hS5 => ?_)
  have es5 : H4.size = nw_ad B adK (4, k, 0) := by have := hI4.2.2.2; omega
  rw [es5] at e5 ⊢
  have hI5 : nw_I D (nw_ad B adK) cA z_h0 (nw_ad B adK (1, k, 0)) 3 [.ref (nw_ad B adK (2, k, 0)), .ref (nw_ad B adK (3, k, 60)), .null, .null, .int 0] (((3, k, 60) :: []) ++ [(4, k, 0)]) 3 H5 := nw_Ix (j := 1) hI4 o5 z5 (nw_1 (r := (4, k, 0)) (nw_ar (h := c_h0) rfl (fun j hj => ((z_h0_k hk).trans (show z_t0 4 0 j = c_h0.1 4 0 k j from rfl)).symm) (fun j hj => (nw_z2 (by decide)).symm) e5)) (fun r hr => by rw [List.mem_singleton] at hr; rw [hr]; omega)
  have hR5 := c_at_keep hR4 (o5 _ (c_at_lt hR4))
  refine nw_put (T := TX3) (N := 5) hx hb hts (q_tagW 1 (by decide)) tyX3 tyX3_ok nmX3 hown hK hin hI5.1 rfl 2 (by decide) (hts _ cw_f3_22) rfl (ty := .array .int) (by decide +kernel) rfl rfl (Nat.le_of_ble_eq_true rfl) hS5 hAz dX3_init_29 (fun H6 L6 e6 z6 o6 hS6 => ?_)
  have hI6 : nw_I D (nw_ad B adK) cA z_h0 (nw_ad B adK (1, k, 0)) 3 [.ref (nw_ad B adK (2, k, 0)), .ref (nw_ad B adK (3, k, 60)), .ref (nw_ad B adK (4, k, 0)), .null, .int 0] (((3, k, 60) :: []) ++ [(4, k, 0)]) 3 H6 := nw_Ip hI5 e6 z6 o6
  have hR6 := c_at_keep hR5 (o6 _ (show nw_ad B adK (2, k, 0) ≠ nw_ad B adK (1, k, 0) by omega))
  refine lv_aload_n hx hb dX3_init_32 rfl h0 ?_
  refine lv_bipush hx hb dX3_init_33 (v := 6) (by decide) ?_
  refine nw_newa (atype := .int) (t0 := 0) (N := 6) (c0 := cA 0) (a0 := (6, .inl (fun _ => 0))) hx hb (hts _ cw_ai) hK rfl rfl (by decide) (by decide) (Nat.le_of_ble_eq_true rfl) (Nat.le_of_ble_eq_true rfl) (Nat.le_of_ble_eq_true rfl) hS6 dX3_init_35 (fun H7 e7 z7 o7 hS7 => ?_)
  have es7 : H6.size = nw_ad B adK (5, k, 0) := by have := hI6.2.2.2; omega
  rw [es7] at e7 ⊢
  have hI7 : nw_I D (nw_ad B adK) cA z_h0 (nw_ad B adK (1, k, 0)) 3 [.ref (nw_ad B adK (2, k, 0)), .ref (nw_ad B adK (3, k, 60)), .ref (nw_ad B adK (4, k, 0)), .null, .int 0] ((((3, k, 60) :: []) ++ [(4, k, 0)]) ++ [(5, k, 0)]) 4 H7 := nw_Ix (j := 1) hI6 o7 z7 (nw_1 (r := (5, k, 0)) (nw_ar (h := c_h0) rfl (fun j hj => ((z_h0_k hk).trans (show z_t0 5 0 j = c_h0.1 5 0 k j from rfl)).symm) (fun j hj => (nw_z2 (by decide)).symm) e7)) (fun r hr => by rw [List.mem_singleton] at hr; rw [hr]; omega)
  have hR7 := c_at_keep hR6 (o7 _ (c_at_lt hR6))
  refine nw_put (T := TX3) (N := 5) hx hb hts (q_tagW 1 (by decide)) tyX3 tyX3_ok nmX3 hown hK hin hI7.1 rfl 3 (by decide) (hts _ cw_f3_26) rfl (ty := .array .int) (by decide +kernel) rfl rfl (Nat.le_of_ble_eq_true rfl) hS7 hAz dX3_init_37 (fun H8 L8 e8 z8 o8 hS8 => ?_)
  have hI8 : nw_I D (nw_ad B adK) cA z_h0 (nw_ad B adK (1, k, 0)) 3 [.ref (nw_ad B adK (2, k, 0)), .ref (nw_ad B adK (3, k, 60)), .ref (nw_ad B adK (4, k, 0)), .ref (nw_ad B adK (5, k, 0)), .int 0] ((((3, k, 60) :: []) ++ [(4, k, 0)]) ++ [(5, k, 0)]) 4 H8 := nw_Ip hI7 e8 z8 o8
  have hR8 := c_at_keep hR7 (o8 _ (show nw_ad B adK (2, k, 0) ≠ nw_ad B adK (1, k, 0) by omega))
  refine lv_aload_n hx hb dX3_init_40 rfl h0 ?_
  refine lv_bipush hx hb dX3_init_41 (v := 64) (by decide) ?_
  refine nw_put (T := TX3) (N := 5) hx hb hts (q_tagW 1 (by decide)) tyX3 tyX3_ok nmX3 hown hK hin hI8.1 rfl 4 (by decide) (hts _ cw_f3_29) rfl (ty := .int) (by decide +kernel) rfl rfl (Nat.le_of_ble_eq_true rfl) hS8 hAz dX3_init_43 (fun H9 L9 e9 z9 o9 hS9 => ?_)
  have hI9 : nw_I D (nw_ad B adK) cA z_h0 (nw_ad B adK (1, k, 0)) 3 [.ref (nw_ad B adK (2, k, 0)), .ref (nw_ad B adK (3, k, 60)), .ref (nw_ad B adK (4, k, 0)), .ref (nw_ad B adK (5, k, 0)), .int (64)] ((((3, k, 60) :: []) ++ [(4, k, 0)]) ++ [(5, k, 0)]) 4 H9 := nw_Ip hI8 e9 z9 o9
  have hR9 := c_at_keep hR8 (o9 _ (show nw_ad B adK (2, k, 0) ≠ nw_ad B adK (1, k, 0) by omega))
  clear hI0 hI1 hI2 hI3 hI4 hI5 hI6 hI7 hI8 hS0 hS1 hS2 hS3 hS4 hS5 hS6 hS7 hS8 hR1 hR2 hR3 hR4 hR5 hR6 hR7 hR8
  have loop : ∀ (f i : Nat), i + f = 60 → ∀ (H : Heap) (locs : List Loc) (ls : Array Slot), nw_I D (nw_ad B adK) cA z_h0 (nw_ad B adK (1, k, 0)) 3 [.ref (nw_ad B adK (2, k, 0)), .ref (nw_ad B adK (3, k, 60)), .ref (nw_ad B adK (4, k, 0)), .ref (nw_ad B adK (5, k, 0)), .int (64)] (((((3, k, 60) :: []) ++ [(4, k, 0)]) ++ [(5, k, 0)]) ++ nw_rep (fun j => [(3, k, j)]) i) (4 + 1 * i) H → va_at D vwCl (nw_ad B adK (2, k, 0), .inl (cA 3, 60, .inr (.inr (.inr (.inr (nw_fn (fun j => nw_ad B adK (3, k, j)) i)))))) H → va_S (fun q => nw_ad B adK (1, k, 0) ≤ q) s.heap H locs → lv_has ls 2 [(0, .ref (nw_ad B adK (1, k, 0))), (1, .int (nI i))] →
      W p l e { frames := 3, cells := 64, slots := 804, locals := 30 * 3 } s m [Value.ref (nw_ad B adK (1, k, 0))].toArray below meth c H locs (4 + 1 * i) (84 + 12 * i) (MQ below (nw_Q D B adK cA (1, k, 0) (nw_dP k) 64) [Value.ref (nw_ad B adK (1, k, 0))].toArray s 64 804 (fun q => nw_ad B adK (1, k, 0) ≤ q)) (F0 m 48 ls []) := by
    intro f
    induction f with
    | zero =>
      intro i hi H locs ls hI hR hS hl
      have hi : i = 60 := hi
      subst hi
      refine lv_iload_n hx hb dX3_init_48 rfl (lv_at hl 1 rfl) ?_
      refine lv_aload_n hx hb dX3_init_49 rfl (lv_at hl 0 rfl) ?_
      refine va_get (T := TX3) (N := 5) hx hb hts (q_tagW 1 (by decide)) hown hK (nw_P1 hI.1) 0 rfl rfl 0 (by decide) (hts _ cw_f3_11) (fun _ h => h) rfl dX3_init_50 ?_
      refine va_alen (v := 60) hx hb hK (nw_P1 hR) 0 3 rfl rfl (show Int32.ofNat 60 = 60 by decide) dX3_init_53 ?_
      refine lv_icmp_ge (tgt := 76) hx hb dX3_init_54 rfl (fun _ => ?_) (fun c => absurd (show (60 : Int32) ≤ nI 60 by decide) c)
      have hw : c_w D ((1, k, 0) :: (nw_dP k)) (nw_ad B adK) cA z_h0 H := fun x hx => by
        have he : q_ce (nw_ad B adK) cA z_h0 (1, k, 0) = .inr (3, [.ref (nw_ad B adK (2, k, 0)), .ref (nw_ad B adK (3, k, 60)), .ref (nw_ad B adK (4, k, 0)), .ref (nw_ad B adK (5, k, 0)), .int (64)]) := by
          show (Sum.inr (3, [Value.ref (nw_ad B adK (2, k, 0)), Value.ref (nw_ad B adK (3, k, 60)), Value.ref (nw_ad B adK (4, k, 0)), Value.ref (nw_ad B adK (5, k, 0)), Value.int (z_h0.1 1 4 k 0)]) : va_E) = _
          rw [z_h0_k hk]
          rfl
        rcases List.mem_cons.mp hx with q | q
        · rw [q, he]; exact hI.1
        · rcases List.mem_append.mp q with q | q
          · simp only [List.mem_cons, List.not_mem_nil, or_false] at q
            rcases q with rfl | rfl | rfl | rfl
            · exact nw_rf hR (fun j hj => if_pos hj)
            · exact hI.2.1 _ (by simp)
            · exact hI.2.1 _ (by simp)
            · exact hI.2.1 _ (by simp)
          · exact hI.2.1 x (List.mem_append_right _ q)
      exact W.vret hx hb hr (fun t ht _ => ⟨⟨rfl, by rw [ht]; exact hI.2.2.2, by rw [ht]; exact hw⟩, hS.F ht⟩) hS.2.2 dX3_init_76 hlk
    | succ f ih =>
      intro i hi H locs ls hI hR hS hl
      have hi2 : i < 60 := by omega
      have a3i : nw_ad B adK (3, k, i) = nw_b B k + (6 + i) := nw_ad_3 hi2
      refine lv_iload_n hx hb dX3_init_48 rfl (lv_at hl 1 rfl) ?_
      refine lv_aload_n hx hb dX3_init_49 rfl (lv_at hl 0 rfl) ?_
      refine va_get (T := TX3) (N := 5) hx hb hts (q_tagW 1 (by decide)) hown hK (nw_P1 hI.1) 0 rfl rfl 0 (by decide) (hts _ cw_f3_11) (fun _ h => h) rfl dX3_init_50 ?_
      refine va_alen (v := 60) hx hb hK (nw_P1 hR) 0 3 rfl rfl (show Int32.ofNat 60 = 60 by decide) dX3_init_53 ?_
      refine lv_icmp_ge (tgt := 76) hx hb dX3_init_54 rfl (fun c => absurd c (show ¬ (60 : Int32) ≤ nI i from nI_ge (b := 60) hi2 (by decide))) (fun _ => ?_)
      refine lv_aload_n hx hb dX3_init_57 rfl (lv_at hl 0 rfl) ?_
      refine va_get (T := TX3) (N := 5) hx hb hts (q_tagW 1 (by decide)) hown hK (nw_P1 hI.1) 0 rfl rfl 0 (by decide) (hts _ cw_f3_11) (fun _ h => h) rfl dX3_init_58 ?_
      refine lv_iload_n hx hb dX3_init_61 rfl (lv_at hl 1 rfl) ?_
      refine nw_obj (own := RX3) (T := TX4) (N := 12) (r := (3, k, i)) (dom := []) (n := 0) (ms := 0) (y := yX4_init) (nw_cX4 hk) hx hb hml hown hts hK hX (q_tagW 3 (by decide)) tyX4 tyX4_ok nw_clX3_9 nw_inX4 nw_iiX4 rfl nw_fsX4 nw_coX4 nw_imX4 rfl nw_hnX4 nw_sig0 (Or.inl nw_mlX3_17) (Nat.le_of_ble_eq_true rfl) (Nat.le_of_ble_eq_true rfl) (show 4 + 1 * i + 1 + 0 ≤ 64 by omega) (show 84 + 12 * i + 12 + 0 ≤ 804 by omega) hl.1 (Nat.le_of_ble_eq_true rfl) hS (fun q hq => Nat.le_trans hz hq) (by have := hI.2.2.2; omega) (fun q hq => Nat.le_trans (by have := hI.2.2.2; omega) hq) dX3_init_62 dX3_init_65 dX3_init_66 (fun H1 L1 w1 z1 o1 hS1 => ?_)
      have hI1 := nw_Ix (j := 1 + 0) hI o1 z1 w1 (fun r hr => by rw [List.mem_singleton] at hr; rw [hr]; omega)
      have hR1 := c_at_keep hR (o1 _ (c_at_lt hR))
      refine nw_ast (t0 := 3) (ci := 4) (r := (RX4, TX4, 12)) (vs := q_fv (nw_ad B adK) z_h0 3 k i) hx hb hK hR1 rfl (w1 _ List.mem_cons_self) rfl (vp_in_nI hi2 (by decide)) hS1 (show nw_ad B adK (1, k, 0) ≤ nw_ad B adK (2, k, 0) by omega) dX3_init_69 (fun H2 L2 e2 z2 o2 hS2 => ?_)
      rw [nI_clamp (show i < 2 ^ 31 by omega), nw_fn_s] at e2
      have hI2 : nw_I D (nw_ad B adK) cA z_h0 (nw_ad B adK (1, k, 0)) 3 [.ref (nw_ad B adK (2, k, 0)), .ref (nw_ad B adK (3, k, 60)), .ref (nw_ad B adK (4, k, 0)), .ref (nw_ad B adK (5, k, 0)), .int (64)] (((((3, k, 60) :: []) ++ [(4, k, 0)]) ++ [(5, k, 0)]) ++ nw_rep (fun j => [(3, k, j)]) (i + 1)) (4 + 1 * (i + 1)) H2 := by
        refine ⟨c_at_keep hI1.1 (o2 _ (show nw_ad B adK (1, k, 0) ≠ nw_ad B adK (2, k, 0) by omega)), fun r hr => ?_, fun r hr => ?_, ?_⟩
        · have hr1 : r ∈ (((((3, k, 60) :: []) ++ [(4, k, 0)]) ++ [(5, k, 0)]) ++ nw_rep (fun j => [(3, k, j)]) i) ++ ([(3, k, i)]) := by rw [List.append_assoc]; exact hr
          exact c_at_keep (hI1.2.1 r hr1) (o2 _ (by
            rcases List.mem_append.mp hr1 with q | q
            · rcases List.mem_append.mp q with q | q
              · simp only [List.mem_append, List.mem_cons, List.not_mem_nil, or_false] at q
                rcases q with (rfl | rfl) | rfl <;> omega
              · obtain ⟨j, h1, h2⟩ := nw_rep_m q
                rw [List.mem_singleton] at h2
                rw [h2, nw_ad_3 (by omega)]
                omega
            · rw [List.mem_singleton] at q
              rw [q]
              omega))
        · exact hI1.2.2.1 r (by rw [List.append_assoc]; exact hr)
        · have := hI1.2.2.2
          omega
      refine lv_iinc (v := nI (i + 1)) (lv' := [(1, .int (nI (i + 1))), (0, .ref (nw_ad B adK (1, k, 0)))]) hx hb dX3_init_70 hl (k := 1) rfl (nI_add i 1) (by decide) rfl (fun ls hl => ?_)
      refine lv_goto (tgt := 48) hx hb dX3_init_73 (by decide) ?_
      have go := ih (i + 1) (by omega) H2 L2 ls hI2 e2 hS2 (lv_sub hl [1, 0] rfl)
      rw [show 4 + 1 * (i + 1) = 4 + 1 * i + (1 + 0) by omega, show 84 + 12 * (i + 1) = 84 + 12 * i + (12 + 0) by omega] at go
      exact go
  refine lv_iconst (v := 0) hx hb dX3_init_46 (by decide) ?_
  refine lv_istore_n (lv' := [(1, .int 0), (0, .ref (nw_ad B adK (1, k, 0)))]) hx hb dX3_init_47 rfl hl (by decide) rfl (fun ls hl => ?_)
  exact loop 60 0 rfl H9 _ ls ⟨hI9.1, fun r hr => hI9.2.1 r (by rw [← List.append_nil (((((3, k, 60) :: []) ++ [(4, k, 0)]) ++ [(5, k, 0)]))]; exact hr), fun r hr => hI9.2.2.1 r (by rw [← List.append_nil (((((3, k, 60) :: []) ++ [(4, k, 0)]) ++ [(5, k, 0)]))]; exact hr), hI9.2.2.2⟩ (nw_rf hR9 (fun j hj => rfl)) hS9 (lv_sub hl [1, 0] rfl)
