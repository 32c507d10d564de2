set_option maxRecDepth 100000 in
theorem cw_ol4 : Cond.methodLink RX4 3 objectInit ∈ lw_tblG := q_g1 (i := 109) rfl rfl
set_option maxRecDepth 100000 in
theorem cw_ml4 : Cond.methodLink RX4 9 yX4_empty ∈ lw_tblG := q_g1 (i := 110) rfl rfl
theorem dX4_init_0 : decode cX4_init 0 = .ok (.aload_n 0, 1) := by decide +kernel
theorem dX4_init_1 : decode cX4_init 1 = .ok (.invokespecial 3, 3) := by decide +kernel
theorem dX4_init_4 : decode cX4_init 4 = .ok (.aload_n 0, 1) := by decide +kernel
theorem dX4_init_5 : decode cX4_init 5 = .ok (.iconst 0, 1) := by decide +kernel
theorem dX4_init_6 : decode cX4_init 6 = .ok (.invokevirtual 9, 3) := by decide +kernel
theorem dX4_init_9 : decode cX4_init 9 = .ok (.return_, 1) := by decide +kernel
def c_ad1 (adK : Nat → Nat) (z : Nat) : q_R → Nat := fun r => bif Nat.beq r.1 60 then adK r.2.2 else z
def c_h0 : q_H := (fun _ _ _ _ => 0, fun _ _ _ _ => 0)
theorem c_Cx3 {cA : Nat → ClassId} {tys : List (ClassId × FieldType)} {adK : Nat → Nat} {z k i : Nat} : q_Cx [(3, k, i)] (c_ad1 adK z) cA tys (fun q => q = z) := by
  have nf : ∀ (f c : Nat), (q_fl 3)[f]? = some c → ¬ 3 ≤ c := fun f c h => by
    have : f < 12 := (List.getElem?_eq_some_iff.mp h).1
    have all : ∀ f, f < 12 → ∀ c, (q_fl 3)[f]? = some c → c ≤ 1 := by decide
    have := all f this c h
    omega
  refine ⟨fun r hr r' hr' _ => ?_, fun a b r ha hb => ?_, fun r hr => ?_, fun r hr => ?_, fun r hr f c hf hc => ?_, fun r hr q j hj => ?_⟩
  · rw [List.mem_singleton] at hr hr'; rw [hr, hr']
  · have h1 := (List.getElem?_eq_some_iff.mp ha).1
    have h2 := (List.getElem?_eq_some_iff.mp hb).1
    simp at h1 h2
    omega
  · rw [List.mem_singleton] at hr; rw [hr]; rfl
  · rw [List.mem_singleton] at hr; rw [hr]
    exact ⟨show (3 : Nat) ≠ 60 by decide, fun q => absurd (show (q_fl 3).isEmpty = true from q) (by decide)⟩
  · rw [List.mem_singleton] at hr; rw [hr] at hf; exact absurd hc (nf f c hf)
  · rw [List.mem_singleton] at hr; rw [hr] at q; exact absurd (show q_at 3 = 3 ∨ q_at 3 = 4 from q) (by decide)
set_option maxHeartbeats 4000000 in
set_option maxRecDepth 100000 in
theorem c_slot {l : Launch} {D : va_G} {cA : Nat → ClassId} {tys : List (ClassId × FieldType)} {adK adV : Nat → Nat} {z k i : Nat} : j_M l D [(3, k, i)] (c_ad1 adK z) cA tys (fun q => q = z) (lw_X adK adV (fun q => q = z)) 13 yX4_init cX4_init 1 none [.ref z] c_h0 (none, g_cw c_h0 k (g_emp (g_st c_h0 k) i 0)) := by
  refine j_met (by decide +kernel) (Nat.le_of_ble_eq_true rfl) (fun p e s m below meth c ls hx hb hml hr hlk hown hts hP hK hXs hls hargs => ?_)
  have hX : q_XX (c_ad1 adK z) (fun q => q = z) (lw_X adK adV (fun q => q = z)) := lw_X_XX (ad := c_ad1 adK z)
  have hE : q_EXT l D [(3, k, i)] (c_ad1 adK z) cA tys (fun q => q = z) (lw_X adK adV (fun q => q = z)) := lw_EXT (ad := c_ad1 adK z)
  have hS : va_S (fun q => q = z) s.heap s.heap [] := va_S.rf
  have h0 := hargs (0, .ref z) (by simp [lv_args])
  obtain ⟨n0, hT⟩ := eSl_empty (d := 11) (by decide) (c_empty (H := c_h0) (k := k) (i := i) (v := 0))
  have hM := q_call_ok c_Cx3 hX hE n0 11 63 _ c_h0 _ (hT n0 (Nat.le_refl _)) (q_oks_c (Or.inl (List.mem_singleton.mpr rfl)) (q_oks_c trivial (fun v hv => by cases hv))) (by decide) (by decide)
  obtain ⟨⟨k1, k2⟩, k3, ⟨k4, k5, k6⟩, k7⟩ := id (q_mk_all 63 (by decide) (by decide))
  have hvi : q_vi 63 = 1 := rfl
  rw [hvi] at k3
  obtain ⟨k3a, k3b⟩ := k3
  refine lv_aload_n hx hb dX4_init_0 rfl h0 ?_
  refine W.objInit hx hb hown (hts _ cw_ol4) (hts _ cw_oi) (hts _ cw_oc) rfl (by rw [hml]; exact hls) rfl dX4_init_1 (Nat.le_of_ble_eq_true rfl) (Nat.le_of_ble_eq_true rfl) ?_
  refine W.eq (g2 := F0 m 4 ls []) rfl ?_
  refine lv_aload_n hx hb dX4_init_4 rfl h0 ?_
  refine lv_iconst (v := 0) hx hb dX4_init_5 (by decide) ?_
  have hn := q_cn_not _ k5
  rw [← k4] at hn
  have hrec : ∃ cellB : Cell, s.heap[z]? = some cellB ∧ cellB.vm.isStatics = false ∧ s.vm.findClass (q_y 63).cls = some cellB.cls := by
    obtain ⟨q0, h2⟩ := q_objA (dom := [(3, k, i)]) (ad := c_ad1 adK z) (cA := cA) (t := 3) (k := k) (i := i) (List.mem_singleton.mpr rfl) rfl c_h0
    obtain ⟨t1, -, -, t4, -⟩ := q_tagT 3 (q_fl_tag rfl)
    have h5 := va_recv hK hP t1 h2
    rw [t4] at h5
    exact h5
  refine j_cV (As := [.int 0]) (rest := []) (r := z) (y := q_y 63) (b := q_b 63) (ml := q_ml 63) (rt := q_rt 63) (own := RX4) rfl hx hb hml hown hts hX hXs hK hP hS hM k1 k2 k3a k3b cw_ml4 hn hrec (fun sig hsig => by
    rw [hsig] at k7
    exact (Option.some.inj k7).symm) (by decide) hls (by decide) dX4_init_6 (fun H1 locs1 hP1 hS1 => ?_)
  exact W.vret hx hb hr (fun t ht _ => ⟨⟨rfl, by rw [ht]; exact hP1, fun v hv => by cases hv⟩, hS1.F ht⟩) hS1.2.2 dX4_init_9 hlk
