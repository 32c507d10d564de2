/-! Slot and Txns: constructors that call a method -/
theorem nw_Cx1 {B K C z : Nat} {adK : Nat → Nat} {cA : Nat → ClassId} {dom : List q_R} (hK : ∀ r ∈ dom, r = (r.1, K, 0)) (ha : ∀ r ∈ dom, nw_ad B adK r = C + r.1) (nd : dom.Nodup) (hz : ∀ r ∈ dom, z ≤ nw_ad B adK r) (ht : ∀ r ∈ dom, r.1 ≠ 60 ∧ ((q_fl r.1).isEmpty = true → q_at r.1 < 3) ∧ q_at r.1 ≠ 3 ∧ q_at r.1 ≠ 4) (hf : ∀ r ∈ dom, ∀ (f c : Nat), (q_fl r.1)[f]? = some c → 3 ≤ c → q_rf c r.2.1 ∈ dom) : q_Cx dom (nw_ad B adK) cA (nw_tys cA) (fun q => z ≤ q) := by
  refine ⟨fun r hr r' hr' e => ?_, fun i j r hi hj => ?_, hz, fun r hr => ⟨(ht r hr).1, fun he => ⟨?_, ?_, ?_⟩⟩, hf, fun r hr q => ?_⟩
  · rw [ha r hr, ha r' hr'] at e
    rw [hK r hr, hK r' hr', show r.1 = r'.1 by omega]
  · exact (List.getElem?_inj (List.getElem?_eq_some_iff.mp hi).1 nd).mp (hi.trans hj.symm)
  · rw [hK r hr]
  · have := (ht r hr).2.1 he
    omega
  · have := (ht r hr).2.1 he
    rcases (show q_at r.1 = 0 ∨ q_at r.1 = 1 ∨ q_at r.1 = 2 by omega) with q | q | q <;> rw [q]
    · exact ⟨0, rfl⟩
    · exact ⟨1, rfl⟩
    · exact ⟨2, rfl⟩
  · rcases q with q | q
    · exact absurd q (ht r hr).2.2.1
    · exact absurd q (ht r hr).2.2.2
theorem nw_Cx3 {B k i : Nat} {adK : Nat → Nat} {cA : Nat → ClassId} : q_Cx [(3, k, i)] (nw_ad B adK) cA (nw_tys cA) (fun q => nw_ad B adK (3, k, i) ≤ q) := by
  have nf : ∀ (f c : Nat), (q_fl 3)[f]? = some c → ¬ 3 ≤ c := fun f c h => by
    have : f < 12 := (List.getElem?_eq_some_iff.mp h).1
    have all : ∀ f, f < 12 → ∀ c, (q_fl 3)[f]? = some c → c ≤ 1 := by decide
    have := all f this c h
    omega
  refine ⟨fun r hr r' hr' _ => ?_, fun a b r ha hb => ?_, fun r hr => ?_, fun r hr => ?_, fun r hr f c hf hc => ?_, fun r hr q j hj => ?_⟩
  · rw [List.mem_singleton] at hr hr'; rw [hr, hr']
  · have h1 := (List.getElem?_eq_some_iff.mp ha).1
    have h2 := (List.getElem?_eq_some_iff.mp hb).1
    simp at h1 h2
    omega
  · rw [List.mem_singleton] at hr; rw [hr]; exact Nat.le_refl _
  · rw [List.mem_singleton] at hr; rw [hr]
    exact ⟨show (3 : Nat) ≠ 60 by decide, fun q => absurd (show (q_fl 3).isEmpty = true from q) (by decide)⟩
  · rw [List.mem_singleton] at hr; rw [hr] at hf; exact absurd hc (nf f c hf)
  · rw [List.mem_singleton] at hr; rw [hr] at q; exact absurd (show q_at 3 = 3 ∨ q_at 3 = 4 from q) (by decide)
set_option maxRecDepth 100000 in
theorem cw_ol4 : Cond.methodLink RX4 3 objectInit ∈ lw_tblG := q_g1 (i := 109) rfl rfl
theorem dX4_init_0 : decode cX4_init 0 = .ok (.aload_n 0, 1) := by decide +kernel
theorem dX4_init_1 : decode cX4_init 1 = .ok (.invokespecial 3, 3) := by decide +kernel
theorem dX4_init_4 : decode cX4_init 4 = .ok (.aload_n 0, 1) := by decide +kernel
theorem dX4_init_5 : decode cX4_init 5 = .ok (.iconst 0, 1) := by decide +kernel
theorem dX4_init_6 : decode cX4_init 6 = .ok (.invokevirtual 9, 3) := by decide +kernel
theorem dX4_init_9 : decode cX4_init 9 = .ok (.return_, 1) := by decide +kernel
set_option maxRecDepth 100000 in
theorem nw_inX4 : Cond.instantiable RX4 12 ∈ lw_tblG := q_g1 (i := 105) rfl rfl
set_option maxRecDepth 100000 in
theorem nw_iiX4 : Cond.initialized RX4 ∈ lw_tblG := q_g1 (i := 5) rfl rfl
set_option maxRecDepth 100000 in
theorem nw_coX4 : Cond.code yX4_init cX4_init 1 none ∈ lw_tblG := q_g1 (i := 108) rfl rfl
set_option maxRecDepth 100000 in
theorem nw_imX4 : Cond.instanceMethod yX4_init ∈ lw_tblG := q_g1 (i := 107) rfl rfl
theorem nw_fsX4 : ∀ j, j < 12 → defaultValue (tyX4 j) = vp_V (c_df 3) j := fun j hj => by
  rcases (show j = 0 ∨ j = 1 ∨ j = 2 ∨ j = 3 ∨ j = 4 ∨ j = 5 ∨ j = 6 ∨ j = 7 ∨ j = 8 ∨ j = 9 ∨ j = 10 ∨ j = 11 by omega) with rfl | rfl | rfl | rfl | rfl | rfl | rfl | rfl | rfl | rfl | rfl | rfl <;> rfl
theorem nw_hnX4 : yX4_init.cls ≠ "java/lang/invoke/MethodHandle" ∧ yX4_init.cls ≠ "java/lang/invoke/VarHandle" := by decide +kernel
set_option maxRecDepth 100000 in
theorem cw_ml4 : Cond.methodLink RX4 9 yX4_empty ∈ lw_tblG := q_g1 (i := 110) rfl rfl
theorem nw_slot {k i f : Nat} (hk : k ≤ 5) : (g_cw c_h0 k (g_emp (g_st c_h0 k) i 0)).1 3 f k i = z_h0.1 3 f k i := by
  rw [z_h0_k hk]
  have z3 : z_t0 3 f i = (if f = 0 ∨ f = 5 ∨ f = 10 ∨ f = 11 then 0 else if f ≤ 9 then -1 else 0) := rfl
  show (if k = k then (if 3 = 3 ∧ i = i ∧ f ≤ 11 then (if f = 0 then (0 : Int32) else if f = 5 ∨ f = 10 ∨ f = 11 then 0 else -1) else 0) else 0) = z_t0 3 f i
  rw [if_pos rfl, z3]
  by_cases c : f ≤ 11
  · rw [if_pos ⟨rfl, rfl, c⟩]
    rcases (show f = 0 ∨ f = 1 ∨ f = 2 ∨ f = 3 ∨ f = 4 ∨ f = 5 ∨ f = 6 ∨ f = 7 ∨ f = 8 ∨ f = 9 ∨ f = 10 ∨ f = 11 by omega) with rfl | rfl | rfl | rfl | rfl | rfl | rfl | rfl | rfl | rfl | rfl | rfl <;> rfl
  · rw [if_neg (fun q => c q.2.2), if_neg (by omega), if_neg (by omega)]
set_option maxHeartbeats 4000000 in
set_option maxRecDepth 100000 in
theorem nw_cX4 {l : Launch} {D : va_G} {B : Nat} {adK : Nat → Nat} {cA : Nat → ClassId} {adV : Nat → Nat} {k i : Nat} (hk : k ≤ 5) : nw_M l D B adK cA adV 2 yX4_init cX4_init 1 (3, k, i) [] 0 0 := by
  refine nw_met (by decide +kernel) (Nat.le_of_ble_eq_true rfl) rfl (fun p e s m below meth c ls hx hb hml hr hlk hown hin hts hP hl => ?_)
  obtain ⟨hsz, hO, hK, hX⟩ := hP
  have hsz : s.heap.size = nw_ad B adK (3, k, i) + 1 := hsz
  have hO : va_at D vwCl (nw_ad B adK (3, k, i), .inr (4, c_df 3)) s.heap := hO
  have hz : B ≤ nw_ad B adK (3, k, i) := by
    rw [nw_ad_st (by decide)]
    have := @nw_b_le B k
    omega
  have hS : va_S (fun q => nw_ad B adK (3, k, i) ≤ q) s.heap s.heap [] := va_S.rf
  have h0 := lv_at hl 0 rfl
  refine lv_aload_n hx hb dX4_init_0 rfl h0 ?_
  refine W.objInit hx hb hown (hts _ cw_ol4) (hts _ cw_oi) (hts _ cw_oc) rfl (by rw [hml]; exact hl.1) rfl dX4_init_1 (Nat.le_of_ble_eq_true rfl) (Nat.le_of_ble_eq_true rfl) ?_
  refine W.eq (g2 := F0 m 4 ls []) rfl ?_
  refine lv_aload_n hx hb dX4_init_4 rfl h0 ?_
  refine lv_iconst (v := 0) hx hb dX4_init_5 (by decide) ?_
  have hw0 : c_w D [(3, k, i)] (nw_ad B adK) cA c_h0 s.heap := nw_1 hO
  obtain ⟨n0, hT⟩ := eSl_empty (d := 1) (by decide) (c_empty (H := c_h0) (k := k) (i := i) (v := 0))
  have hM := q_call_ok (l := l) (D := D) (nw_Cx3 (B := B) (k := k) (i := i) (adK := adK) (cA := cA)) (lw_X_XX (adV := adV)) lw_EXT n0 1 63 _ c_h0 _ (hT n0 (Nat.le_refl _)) (q_oks_c (Or.inl (List.mem_singleton.mpr rfl)) (q_oks_c trivial (fun v hv => by cases hv))) (by decide) (by decide)
  obtain ⟨⟨k1, k2⟩, k3, ⟨k4, k5, k6⟩, k7⟩ := id (q_mk_all 63 (by decide) (by decide))
  have hvi : q_vi 63 = 1 := rfl
  rw [hvi] at k3
  obtain ⟨k3a, k3b⟩ := k3
  have hn := q_cn_not _ k5
  rw [← k4] at hn
  have hrec : ∃ cellB : Cell, s.heap[nw_ad B adK (3, k, i)]? = some cellB ∧ cellB.vm.isStatics = false ∧ s.vm.findClass (q_y 63).cls = some cellB.cls := by
    obtain ⟨t1, -, -, t4, -⟩ := q_tagT 3 (q_fl_tag rfl)
    have h5 := va_recv hK (nw_P1 hO) t1 (q0 := 0) rfl
    rw [t4] at h5
    exact h5
  refine nw_cV (dom := [(3, k, i)]) (ad := nw_ad B adK) (cA := cA) (h := c_h0) (A1 := fun q => nw_ad B adK (3, k, i) ≤ q) (X := lw_X (fun j => nw_ad B adK (60, 0, j)) adV (fun q => nw_ad B adK (3, k, i) ≤ q)) (d := 1) (As := [.int 0]) (rest := []) (r := nw_ad B adK (3, k, i)) (y := q_y 63) (b := q_b 63) (ml := q_ml 63) (rt := q_rt 63) (own := RX4) (Nat.le_of_ble_eq_true rfl) (by show 8 + (q_ml 63 + 11) + 30 ≤ 60; omega) (Nat.le_of_ble_eq_true rfl) (Nat.le_of_ble_eq_true rfl) hx hb hml hown hts lw_X_XX.2.1 (fun U hU hW => nw_lX (A1 := fun q => B ≤ q) (fun q hq => Nat.le_trans hz hq) (nw_X_mv hW (Nat.le_trans hS.1 (Nat.le_of_eq (congrArg Array.size hU.symm))) (fun q g1 g2 => (congrArg (fun x : Heap => x[q]?) hU).trans (hS.2.1 q g1 (fun w => Nat.lt_irrefl _ (Nat.lt_of_lt_of_le g2 (Nat.le_trans hz w))))) hX).1) hK (c_w_P.mp hw0) hS (fun q hq => hq) (rfl) hM k1 k2 k3a k3b cw_ml4 hn hrec (fun sig hsig => by
    rw [hsig] at k7
    exact (Option.some.inj k7).symm) hl.1 (by decide) dX4_init_6 (fun HZ locsZ hPZ zZ oZ hSZ => ?_)
  have hwZ := c_w_P.mpr hPZ
  have hw : c_w D [(3, k, i)] (nw_ad B adK) cA z_h0 HZ := nw_1 (by
    have := hwZ (3, k, i) List.mem_cons_self
    rw [nw_ob (h' := z_h0) rfl (fun f => nw_slot hk) (fun f => by rw [nw_z2 (by decide)]; exact ite_self _)] at this
    exact this)
  exact W.vret hx hb hr (fun t ht _ => ⟨⟨rfl, by rw [ht, zZ]; exact hsz, by rw [ht]; exact hw⟩, hSZ.F ht⟩) hSZ.2.2 dX4_init_9 hlk
set_option maxRecDepth 100000 in
theorem cw_ol7 : Cond.methodLink RX7 3 objectInit ∈ lw_tblG := q_g1 (i := 193) rfl rfl
theorem dX7_init_0 : decode cX7_init 0 = .ok (.aload_n 0, 1) := by decide +kernel
theorem dX7_init_1 : decode cX7_init 1 = .ok (.invokespecial 3, 3) := by decide +kernel
theorem dX7_init_4 : decode cX7_init 4 = .ok (.aload_n 0, 1) := by decide +kernel
theorem dX7_init_5 : decode cX7_init 5 = .ok (.bipush 61, 2) := by decide +kernel
theorem dX7_init_7 : decode cX7_init 7 = .ok (.newarray .int, 2) := by decide +kernel
theorem dX7_init_9 : decode cX7_init 9 = .ok (.putfield 9, 3) := by decide +kernel
theorem dX7_init_12 : decode cX7_init 12 = .ok (.aload_n 0, 1) := by decide +kernel
theorem dX7_init_13 : decode cX7_init 13 = .ok (.bipush 61, 2) := by decide +kernel
theorem dX7_init_15 : decode cX7_init 15 = .ok (.newarray .int, 2) := by decide +kernel
theorem dX7_init_17 : decode cX7_init 17 = .ok (.putfield 15, 3) := by decide +kernel
theorem dX7_init_20 : decode cX7_init 20 = .ok (.aload_n 0, 1) := by decide +kernel
theorem dX7_init_21 : decode cX7_init 21 = .ok (.bipush 61, 2) := by decide +kernel
theorem dX7_init_23 : decode cX7_init 23 = .ok (.newarray .int, 2) := by decide +kernel
theorem dX7_init_25 : decode cX7_init 25 = .ok (.putfield 18, 3) := by decide +kernel
theorem dX7_init_28 : decode cX7_init 28 = .ok (.aload_n 0, 1) := by decide +kernel
theorem dX7_init_29 : decode cX7_init 29 = .ok (.bipush 61, 2) := by decide +kernel
theorem dX7_init_31 : decode cX7_init 31 = .ok (.newarray .long, 2) := by decide +kernel
theorem dX7_init_33 : decode cX7_init 33 = .ok (.putfield 21, 3) := by decide +kernel
theorem dX7_init_36 : decode cX7_init 36 = .ok (.aload_n 0, 1) := by decide +kernel
theorem dX7_init_37 : decode cX7_init 37 = .ok (.invokevirtual 25, 3) := by decide +kernel
theorem dX7_init_40 : decode cX7_init 40 = .ok (.return_, 1) := by decide +kernel
set_option maxRecDepth 100000 in
theorem cw_f7_9 : Cond.fieldLink RX7 9 "RowPruner$Txns" "states" "[I" ∈ lw_tblG := q_g1 (i := 205) rfl rfl
set_option maxRecDepth 100000 in
theorem cw_f7_15 : Cond.fieldLink RX7 15 "RowPruner$Txns" "lows" "[I" ∈ lw_tblG := q_g1 (i := 206) rfl rfl
set_option maxRecDepth 100000 in
theorem cw_f7_18 : Cond.fieldLink RX7 18 "RowPruner$Txns" "waits" "[I" ∈ lw_tblG := q_g1 (i := 207) rfl rfl
set_option maxRecDepth 100000 in
theorem cw_f7_21 : Cond.fieldLink RX7 21 "RowPruner$Txns" "noted" "[J" ∈ lw_tblG := q_g1 (i := 208) rfl rfl
set_option maxRecDepth 100000 in
theorem nw_inX7 : Cond.instantiable RX7 6 ∈ lw_tblG := q_g1 (i := 189) rfl rfl
set_option maxRecDepth 100000 in
theorem nw_iiX7 : Cond.initialized RX7 ∈ lw_tblG := q_g1 (i := 6) rfl rfl
set_option maxRecDepth 100000 in
theorem nw_coX7 : Cond.code yX7_init cX7_init 1 none ∈ lw_tblG := q_g1 (i := 192) rfl rfl
set_option maxRecDepth 100000 in
theorem nw_imX7 : Cond.instanceMethod yX7_init ∈ lw_tblG := q_g1 (i := 191) rfl rfl
theorem nw_fsX7 : ∀ j, j < 6 → defaultValue (tyX7 j) = vp_V (c_df 6) j := fun j hj => by
  rcases (show j = 0 ∨ j = 1 ∨ j = 2 ∨ j = 3 ∨ j = 4 ∨ j = 5 by omega) with rfl | rfl | rfl | rfl | rfl | rfl <;> rfl
theorem nw_hnX7 : yX7_init.cls ≠ "java/lang/invoke/MethodHandle" ∧ yX7_init.cls ≠ "java/lang/invoke/VarHandle" := by decide +kernel
set_option maxRecDepth 100000 in
theorem cw_ml7 : Cond.methodLink RX7 25 yX7_makeAnew ∈ lw_tblG := q_g1 (i := 194) rfl rfl
theorem nw_Cx6 {B k : Nat} {adK : Nat → Nat} {cA : Nat → ClassId} : q_Cx [(6, k, 0), (7, k, 0), (8, k, 0), (9, k, 0), (10, k, 0)] (nw_ad B adK) cA (nw_tys cA) (fun q => nw_ad B adK (6, k, 0) ≤ q) := by
  have mm : ∀ r ∈ ([(6, k, 0), (7, k, 0), (8, k, 0), (9, k, 0), (10, k, 0)] : List q_R), r = (6, k, 0) ∨ r = (7, k, 0) ∨ r = (8, k, 0) ∨ r = (9, k, 0) ∨ r = (10, k, 0) := fun r hr => by simpa using hr
  have ha : ∀ r ∈ ([(6, k, 0), (7, k, 0), (8, k, 0), (9, k, 0), (10, k, 0)] : List q_R), nw_ad B adK r = (nw_b B k + 60) + r.1 := fun r hr => by
    rcases mm r hr with rfl | rfl | rfl | rfl | rfl <;> rw [nw_ad_st (by decide)] <;> exact (Nat.add_assoc _ _ _).symm.trans (Nat.add_right_comm _ _ _)
  refine nw_Cx1 (K := k) (C := nw_b B k + 60) (fun r hr => ?_) ha (by simp) (fun r hr => ?_) (fun r hr => ?_) (fun r hr f c hf hc => ?_)
  · rcases mm r hr with rfl | rfl | rfl | rfl | rfl <;> rfl
  · rw [ha r hr, nw_ad_st (by decide)]
    show nw_b B k + 66 ≤ _
    rcases mm r hr with rfl | rfl | rfl | rfl | rfl <;> (dsimp only; omega)
  · rcases mm r hr with rfl | rfl | rfl | rfl | rfl
    · exact ⟨show (6 : Nat) ≠ 60 by decide, show (q_fl 6).isEmpty = true → q_at 6 < 3 by decide, show q_at 6 ≠ 3 by decide, show q_at 6 ≠ 4 by decide⟩
    · exact ⟨show (7 : Nat) ≠ 60 by decide, show (q_fl 7).isEmpty = true → q_at 7 < 3 by decide, show q_at 7 ≠ 3 by decide, show q_at 7 ≠ 4 by decide⟩
    · exact ⟨show (8 : Nat) ≠ 60 by decide, show (q_fl 8).isEmpty = true → q_at 8 < 3 by decide, show q_at 8 ≠ 3 by decide, show q_at 8 ≠ 4 by decide⟩
    · exact ⟨show (9 : Nat) ≠ 60 by decide, show (q_fl 9).isEmpty = true → q_at 9 < 3 by decide, show q_at 9 ≠ 3 by decide, show q_at 9 ≠ 4 by decide⟩
    · exact ⟨show (10 : Nat) ≠ 60 by decide, show (q_fl 10).isEmpty = true → q_at 10 < 3 by decide, show q_at 10 ≠ 3 by decide, show q_at 10 ≠ 4 by decide⟩
  · have no : ∀ t : Nat, q_fl t = [] → (q_fl t)[f]? = some c → False := fun t h1 h2 => by rw [h1] at h2; cases h2
    rcases mm r hr with rfl | rfl | rfl | rfl | rfl
    · have hm : c ∈ [107, 108, 109, 110, 0, 0] := List.mem_of_getElem? hf
      simp only [List.mem_cons, List.not_mem_nil, or_false] at hm
      rcases hm with rfl | rfl | rfl | rfl | rfl | rfl
      · show (7, k, 0) ∈ _; simp
      · show (8, k, 0) ∈ _; simp
      · show (9, k, 0) ∈ _; simp
      · show (10, k, 0) ∈ _; simp
      · omega
      · omega
    · exact (no 7 rfl hf).elim
    · exact (no 8 rfl hf).elim
    · exact (no 9 rfl hf).elim
    · exact (no 10 rfl hf).elim
def nw_tR (k : Nat) : q_H := g_cw c_h0 k (g_su (g_su (z_tS (g_st c_h0 k) 61) 6 4 0 2) 6 5 0 2)
theorem nw_tR_o {k f : Nat} (hk : k ≤ 5) : (nw_tR k).1 6 f k 0 = z_h0.1 6 f k 0 := by
  rw [z_h0_k hk]
  show (if k = k then (if 6 = 6 ∧ f = 5 ∧ 0 = 0 then (2 : Int32) else if 6 = 6 ∧ f = 4 ∧ 0 = 0 then 2 else if (6 = 7 ∨ 6 = 8 ∨ 6 = 9) ∧ f = 0 ∧ 0 < 61 then (if 6 = 7 then 1 else if 6 = 8 then nI 0 else -1) else 0) else 0) = (if f = 4 ∨ f = 5 then 2 else 0)
  rw [if_pos rfl, if_neg (show ¬ ((6 = 7 ∨ 6 = 8 ∨ 6 = 9) ∧ f = 0 ∧ 0 < 61) by omega)]
  by_cases c5 : f = 5
  · rw [if_pos ⟨rfl, c5, rfl⟩, if_pos (Or.inr c5)]
  · rw [if_neg (fun q => c5 q.2.1)]
    by_cases c4 : f = 4
    · rw [if_pos ⟨rfl, c4, rfl⟩, if_pos (Or.inl c4)]
    · rw [if_neg (fun q => c4 q.2.1), if_neg (by omega)]
theorem nw_tR_a {k t j : Nat} (ht : t = 7 ∨ t = 8 ∨ t = 9) (hk : k ≤ 5) (hj : j < 61) : (nw_tR k).1 t 0 k j = z_h0.1 t 0 k j := by
  rw [z_h0_k hk]
  have e : (nw_tR k).1 t 0 k j = (z_tS (g_st c_h0 k) 61).1 t 0 j := by
    show (if k = k then _ else _) = _
    rw [if_pos rfl]
    exact (g_su_t (by omega)).trans (g_su_t (by omega))
  rw [e]
  have e2 : (z_tS (g_st c_h0 k) 61).1 t 0 j = (if t = 7 then 1 else if t = 8 then nI j else -1) := if_pos ⟨ht, rfl, hj⟩
  rw [e2]
  rcases ht with rfl | rfl | rfl <;> rfl
theorem nw_tR_2 {k t f j : Nat} (h : t ≠ 39) : (nw_tR k).2 t f k j = z_h0.2 t f k j := by
  rw [nw_z2 h]
  show (if k = k then (if t = 10 ∧ f = 0 ∧ j < 61 then (0 : Int64) else 0) else 0) = 0
  rw [if_pos rfl, ite_self]
theorem nw_tR_b {k j : Nat} (hk : k ≤ 5) : (nw_tR k).1 10 0 k j = z_h0.1 10 0 k j := by
  rw [z_h0_k hk]
  show (if k = k then _ else _) = _
  rw [if_pos rfl]
  refine (g_su_t (by omega)).trans ((g_su_t (by omega)).trans ?_)
  show (if (10 = 7 ∨ 10 = 8 ∨ 10 = 9) ∧ 0 = 0 ∧ j < 61 then (if 10 = 7 then (1 : Int32) else if 10 = 8 then nI j else -1) else 0) = 0
  exact if_neg (fun q => by have := q.1; omega)
set_option maxHeartbeats 4000000 in
set_option maxRecDepth 100000 in
theorem nw_cX7 {l : Launch} {D : va_G} {B : Nat} {adK : Nat → Nat} {cA : Nat → ClassId} {adV : Nat → Nat} {k : Nat} (hk : k ≤ 5) : nw_M l D B adK cA adV 3 yX7_init cX7_init 1 (6, k, 0) [(7, k, 0), (8, k, 0), (9, k, 0), (10, k, 0)] 4 244 := by
  refine nw_met (by decide +kernel) (Nat.le_of_ble_eq_true rfl) rfl (fun p e s m below meth c ls hx hb hml hr hlk hown hin hts hP hl => ?_)
  obtain ⟨hsz, hO, hK, hX⟩ := hP
  have a6 : nw_ad B adK (6, k, 0) = nw_b B k + 66 := nw_ad_st (by decide)
  have a7 : nw_ad B adK (7, k, 0) = nw_b B k + 67 := nw_ad_st (by decide)
  have a8 : nw_ad B adK (8, k, 0) = nw_b B k + 68 := nw_ad_st (by decide)
  have a9 : nw_ad B adK (9, k, 0) = nw_b B k + 69 := nw_ad_st (by decide)
  have a10 : nw_ad B adK (10, k, 0) = nw_b B k + 70 := nw_ad_st (by decide)
  have hz : B ≤ nw_ad B adK (6, k, 0) := by
    have := @nw_b_le B k
    omega
  have hI0 := nw_I0 (ad := nw_ad B adK) (cA := cA) (h := c_h0) hO hsz
  have hS0 : va_S (fun q => nw_ad B adK (6, k, 0) ≤ q) s.heap s.heap [] := va_S.rf
  have hAz := Nat.le_refl (nw_ad B adK (6, k, 0))
  have h0 := lv_at hl 0 rfl
  refine lv_aload_n hx hb dX7_init_0 rfl h0 ?_
  refine W.objInit hx hb hown (hts _ cw_ol7) (hts _ cw_oi) (hts _ cw_oc) rfl (by rw [hml]; exact hl.1) rfl dX7_init_1 (Nat.le_of_ble_eq_true rfl) (Nat.le_of_ble_eq_true rfl) ?_
  refine W.eq (g2 := F0 m 4 ls []) rfl ?_
  refine lv_aload_n hx hb dX7_init_4 rfl h0 ?_
  refine lv_bipush hx hb dX7_init_5 (v := 61) (by decide) ?_
  refine nw_newa (atype := .int) (t0 := 0) (N := 61) (c0 := cA 0) (a0 := (61, .inl (fun _ => 0))) hx hb (hts _ cw_ai) hK rfl rfl (by decide) (by decide) (Nat.le_of_ble_eq_true rfl) (Nat.le_of_ble_eq_true rfl) (Nat.le_of_ble_eq_true rfl) hS0 dX7_init_7 (fun H1 e1 z1 o1 hS1 => ?_)
  have es1 : s.heap.size = nw_ad B adK (7, k, 0) := by have := hI0.2.2.2; omega
  rw [es1] at e1 ⊢
  have hI1 : nw_I D (nw_ad B adK) cA c_h0 (nw_ad B adK (6, k, 0)) 7 [.null, .null, .null, .null, .int 0, .int 0] [(7, k, 0)] 1 H1 := nw_Ix (j := 1) hI0 o1 z1 (nw_1 (r := (7, k, 0)) e1) (fun r hr => by rw [List.mem_singleton] at hr; rw [hr]; omega)
  refine nw_put (T := TX7) (N := 6) hx hb hts (q_tagW 6 (by decide)) tyX7 tyX7_ok nmX7 hown hK hin hI1.1 rfl 0 (by decide) (hts _ cw_f7_9) rfl (ty := .array .int) (by decide +kernel) rfl rfl (Nat.le_of_ble_eq_true rfl) hS1 hAz dX7_init_9 (fun H2 L2 e2 z2 o2 hS2 => ?_)
  have hI2 : nw_I D (nw_ad B adK) cA c_h0 (nw_ad B adK (6, k, 0)) 7 [.ref (nw_ad B adK (7, k, 0)), .null, .null, .null, .int 0, .int 0] [(7, k, 0)] 1 H2 := nw_Ip hI1 e2 z2 o2
  refine lv_aload_n hx hb dX7_init_12 rfl h0 ?_
  refine lv_bipush hx hb dX7_init_13 (v := 61) (by decide) ?_
  refine nw_newa (atype := .int) (t0 := 0) (N := 61) (c0 := cA 0) (a0 := (61, .inl (fun _ => 0))) hx hb (hts _ cw_ai) hK rfl rfl (by decide) (by decide) (Nat.le_of_ble_eq_true rfl) (Nat.le_of_ble_eq_true rfl) (Nat.le_of_ble_eq_true rfl) hS2 dX7_init_15 (fun H3 e3 z3 o3 hS3 => ?_)
  have es3 : H2.size = nw_ad B adK (8, k, 0) := by have := hI2.2.2.2; omega
  rw [es3] at e3 ⊢
  have hI3 : nw_I D (nw_ad B adK) cA c_h0 (nw_ad B adK (6, k, 0)) 7 [.ref (nw_ad B adK (7, k, 0)), .null, .null, .null, .int 0, .int 0] [(7, k, 0), (8, k, 0)] 2 H3 := nw_Ix (j := 1) hI2 o3 z3 (nw_1 (r := (8, k, 0)) e3) (fun r hr => by rw [List.mem_singleton] at hr; rw [hr]; omega)
  refine nw_put (T := TX7) (N := 6) hx hb hts (q_tagW 6 (by decide)) tyX7 tyX7_ok nmX7 hown hK hin hI3.1 rfl 1 (by decide) (hts _ cw_f7_15) rfl (ty := .array .int) (by decide +kernel) rfl rfl (Nat.le_of_ble_eq_true rfl) hS3 hAz dX7_init_17 (fun H4 L4 e4 z4 o4 hS4 => ?_)
  have hI4 : nw_I D (nw_ad B adK) cA c_h0 (nw_ad B adK (6, k, 0)) 7 [.ref (nw_ad B adK (7, k, 0)), .ref (nw_ad B adK (8, k, 0)), .null, .null, .int 0, .int 0] [(7, k, 0), (8, k, 0)] 2 H4 := nw_Ip hI3 e4 z4 o4
  refine lv_aload_n hx hb dX7_init_20 rfl h0 ?_
  refine lv_bipush hx hb dX7_init_21 (v := 61) (by decide) ?_
  refine nw_newa (atype := .int) (t0 := 0) (N := 61) (c0 := cA 0) (a0 := (61, .inl (fun _ => 0))) hx hb (hts _ cw_ai) hK rfl rfl (by decide) (by decide) (Nat.le_of_ble_eq_true rfl) (Nat.le_of_ble_eq_true rfl) (Nat.le_of_ble_eq_true rfl) hS4 dX7_init_23 (fun H5 e5 z5 o5 hS5 => ?_)
  have es5 : H4.size = nw_ad B adK (9, k, 0) := by have := hI4.2.2.2; omega
  rw [es5] at e5 ⊢
  have hI5 : nw_I D (nw_ad B adK) cA c_h0 (nw_ad B adK (6, k, 0)) 7 [.ref (nw_ad B adK (7, k, 0)), .ref (nw_ad B adK (8, k, 0)), .null, .null, .int 0, .int 0] [(7, k, 0), (8, k, 0), (9, k, 0)] 3 H5 := nw_Ix (j := 1) hI4 o5 z5 (nw_1 (r := (9, k, 0)) e5) (fun r hr => by rw [List.mem_singleton] at hr; rw [hr]; omega)
  refine nw_put (T := TX7) (N := 6) hx hb hts (q_tagW 6 (by decide)) tyX7 tyX7_ok nmX7 hown hK hin hI5.1 rfl 2 (by decide) (hts _ cw_f7_18) rfl (ty := .array .int) (by decide +kernel) rfl rfl (Nat.le_of_ble_eq_true rfl) hS5 hAz dX7_init_25 (fun H6 L6 e6 z6 o6 hS6 => ?_)
  have hI6 : nw_I D (nw_ad B adK) cA c_h0 (nw_ad B adK (6, k, 0)) 7 [.ref (nw_ad B adK (7, k, 0)), .ref (nw_ad B adK (8, k, 0)), .ref (nw_ad B adK (9, k, 0)), .null, .int 0, .int 0] [(7, k, 0), (8, k, 0), (9, k, 0)] 3 H6 := nw_Ip hI5 e6 z6 o6
  refine lv_aload_n hx hb dX7_init_28 rfl h0 ?_
  refine lv_bipush hx hb dX7_init_29 (v := 61) (by decide) ?_
  refine nw_newa (atype := .long) (t0 := 2) (N := 61) (c0 := cA 2) (a0 := (61, .inr (.inl (fun _ => 0)))) hx hb (hts _ nw_al) hK rfl rfl (by decide) (by decide) (Nat.le_of_ble_eq_true rfl) (Nat.le_of_ble_eq_true rfl) (Nat.le_of_ble_eq_true rfl) hS6 dX7_init_31 (fun H7 e7 z7 o7 hS7 => ?_)
  have es7 : H6.size = nw_ad B adK (10, k, 0) := by have := hI6.2.2.2; omega
  rw [es7] at e7 ⊢
  have hI7 : nw_I D (nw_ad B adK) cA c_h0 (nw_ad B adK (6, k, 0)) 7 [.ref (nw_ad B adK (7, k, 0)), .ref (nw_ad B adK (8, k, 0)), .ref (nw_ad B adK (9, k, 0)), .null, .int 0, .int 0] [(7, k, 0), (8, k, 0), (9, k, 0), (10, k, 0)] 4 H7 := nw_Ix (j := 1) hI6 o7 z7 (nw_1 (r := (10, k, 0)) e7) (fun r hr => by rw [List.mem_singleton] at hr; rw [hr]; omega)
  refine nw_put (T := TX7) (N := 6) hx hb hts (q_tagW 6 (by decide)) tyX7 tyX7_ok nmX7 hown hK hin hI7.1 rfl 3 (by decide) (hts _ cw_f7_21) rfl (ty := .array .long) (by decide +kernel) rfl rfl (Nat.le_of_ble_eq_true rfl) hS7 hAz dX7_init_33 (fun H8 L8 e8 z8 o8 hS8 => ?_)
  have hI8 : nw_I D (nw_ad B adK) cA c_h0 (nw_ad B adK (6, k, 0)) 7 [.ref (nw_ad B adK (7, k, 0)), .ref (nw_ad B adK (8, k, 0)), .ref (nw_ad B adK (9, k, 0)), .ref (nw_ad B adK (10, k, 0)), .int 0, .int 0] [(7, k, 0), (8, k, 0), (9, k, 0), (10, k, 0)] 4 H8 := nw_Ip hI7 e8 z8 o8
  refine lv_aload_n hx hb dX7_init_36 rfl h0 ?_
  have hw0 : c_w D [(6, k, 0), (7, k, 0), (8, k, 0), (9, k, 0), (10, k, 0)] (nw_ad B adK) cA c_h0 H8 := fun x hx => by
    rcases List.mem_cons.mp hx with q | q
    · rw [q]; exact hI8.1
    · exact hI8.2.1 x q
  have hO8 := hI8.1
  obtain ⟨n0, hT⟩ := eTn_makeAnew (d := 2) (by decide) (c_TnNew (H := c_h0) (k := k))
  have hM := q_call_ok (l := l) (D := D) (nw_Cx6 (B := B) (k := k) (adK := adK) (cA := cA)) (lw_X_XX (adV := adV)) lw_EXT n0 2 103 _ c_h0 _ (hT n0 (Nat.le_refl _)) (q_oks_c (Or.inl List.mem_cons_self) (fun v hv => by cases hv)) (by decide) (by decide)
  obtain ⟨⟨k1, k2⟩, k3, ⟨k4, k5, k6⟩, k7⟩ := id (q_mk_all 103 (by decide) (by decide))
  have hvi : q_vi 103 = 1 := rfl
  rw [hvi] at k3
  obtain ⟨k3a, k3b⟩ := k3
  have hn := q_cn_not _ k5
  rw [← k4] at hn
  have hrec : ∃ cellB : Cell, H8[nw_ad B adK (6, k, 0)]? = some cellB ∧ cellB.vm.isStatics = false ∧ s.vm.findClass (q_y 103).cls = some cellB.cls := by
    obtain ⟨t1, -, -, t4, -⟩ := q_tagT 6 (q_fl_tag rfl)
    have h5 := va_recv hK (nw_P1 hO8) t1 (q0 := 0) rfl
    rw [t4] at h5
    exact h5
  refine nw_cV (dom := [(6, k, 0), (7, k, 0), (8, k, 0), (9, k, 0), (10, k, 0)]) (ad := nw_ad B adK) (cA := cA) (h := c_h0) (A1 := fun q => nw_ad B adK (6, k, 0) ≤ q) (X := lw_X (fun j => nw_ad B adK (60, 0, j)) adV (fun q => nw_ad B adK (6, k, 0) ≤ q)) (d := 2) (As := []) (rest := []) (r := nw_ad B adK (6, k, 0)) (y := q_y 103) (b := q_b 103) (ml := q_ml 103) (rt := q_rt 103) (own := RX7) (Nat.le_of_ble_eq_true rfl) (by show 8 + (q_ml 103 + 11) + 60 ≤ 90; omega) (Nat.le_of_ble_eq_true rfl) (Nat.le_of_ble_eq_true rfl) hx hb hml hown hts lw_X_XX.2.1 (fun U hU hW => nw_lX (A1 := fun q => B ≤ q) (fun q hq => Nat.le_trans hz hq) (nw_X_mv hW (Nat.le_trans hS8.1 (Nat.le_of_eq (congrArg Array.size hU.symm))) (fun q g1 g2 => (congrArg (fun x : Heap => x[q]?) hU).trans (hS8.2.1 q g1 (fun w => Nat.lt_irrefl _ (Nat.lt_of_lt_of_le g2 (Nat.le_trans hz w))))) hX).1) hK (c_w_P.mp hw0) hS8 (fun q hq => hq) (by have := hI8.2.2.2; rw [this, hsz]) hM k1 k2 k3a k3b cw_ml7 hn hrec (fun sig hsig => by
    rw [hsig] at k7
    exact (Option.some.inj k7).symm) hl.1 (by decide) dX7_init_37 (fun HZ locsZ hPZ zZ oZ hSZ => ?_)
  have hwZ := c_w_P.mpr hPZ
  have hwZ : c_w D [(6, k, 0), (7, k, 0), (8, k, 0), (9, k, 0), (10, k, 0)] (nw_ad B adK) cA (nw_tR k) HZ := hwZ
  have hw : c_w D [(6, k, 0), (7, k, 0), (8, k, 0), (9, k, 0), (10, k, 0)] (nw_ad B adK) cA z_h0 HZ := fun x hx => by
    have hq := hwZ x hx
    simp only [List.mem_cons, List.not_mem_nil, or_false] at hx
    rcases hx with rfl | rfl | rfl | rfl | rfl
    · rw [nw_ob (h' := z_h0) rfl (fun f => nw_tR_o hk) (fun f => nw_tR_2 (by decide))] at hq
      exact hq
    · exact nw_ar rfl (fun j hj => nw_tR_a (Or.inl rfl) hk hj) (fun j hj => nw_tR_2 (by decide)) hq
    · exact nw_ar rfl (fun j hj => nw_tR_a (Or.inr (Or.inl rfl)) hk hj) (fun j hj => nw_tR_2 (by decide)) hq
    · exact nw_ar rfl (fun j hj => nw_tR_a (Or.inr (Or.inr rfl)) hk hj) (fun j hj => nw_tR_2 (by decide)) hq
    · exact nw_ar rfl (fun j hj => nw_tR_b hk) (fun j hj => nw_tR_2 (by decide)) hq
  exact W.vret hx hb hr (fun t ht _ => ⟨⟨rfl, by rw [ht, zZ]; exact hI8.2.2.2, by rw [ht]; exact hw⟩, hSZ.F ht⟩) hSZ.2.2 dX7_init_40 hlk
