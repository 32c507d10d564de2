
set_option maxHeartbeats 4000000 in
set_option maxRecDepth 100000 in
theorem lw_loop {p : Program} {l : Launch} {e : Env} {s : State} {m : MethodId} {below : List Frame} {meth : Method} {c : Code} {b L : Nat} {xs : Nat → Int32} {D : va_G} {dom : List q_R} {ad : q_R → Nat} {cA : Nat → ClassId} {tys : List (ClassId × FieldType)} {A : Nat → Prop} {X : State → Prop} {cells slots : Nat} (C0 : lw_CX p l s m meth c b L xs D dom ad cA tys A X cells slots) {Rel : Nat → q_H → Prop} (hmono : ∀ n h, Rel n h → Rel (n + 1) h) (st0 : lw_S0 Rel) (st1 : lw_S1 Rel) (st2 : lw_S2 Rel) (st3 : lw_S3 Rel) (st4 : lw_S4 Rel) (st5 : lw_S5 Rel) (st6 : lw_S6 Rel) (st7 : lw_S7 Rel) (st8 : lw_S8 Rel) (st9 : lw_S9 Rel) (st10 : lw_S10 Rel) (st11 : lw_S11 Rel) (st12 : lw_S12 Rel) (st13 : lw_S13 Rel) (st14 : lw_S14 Rel) (st15 : lw_S15 Rel) (st16 : lw_S16 Rel) (st17 : lw_S17 Rel) (st18 : lw_S18 Rel) (st19 : lw_S19 Rel) (st20 : lw_S20 Rel) (st21 : lw_S21 Rel) (st22 : lw_S22 Rel) (st23 : lw_S23 Rel) (st24 : lw_S24 Rel) (st25 : lw_S25 Rel) (st26 : lw_S26 Rel) (st27 : lw_S27 Rel) (st28 : lw_S28 Rel) (st29 : lw_S29 Rel) (st30 : lw_S30 Rel) (st31 : lw_S31 Rel) (st32 : lw_S32 Rel) (st33 : lw_S33 Rel) (st34 : lw_S34 Rel) (st35 : lw_S35 Rel) (st36 : lw_S36 Rel) (st37 : lw_S37 Rel) (st38 : lw_S38 Rel) (st39 : lw_S39 Rel) :
    ∀ (f n : Nat), L + 6 ≤ 6 * n + f → 6 * n ≤ L + 6 → ∀ (h : q_H) (H : Heap) (locs : List Loc) (ls : Array Slot), Rel n h → va_P D vwCl (q_ws dom ad cA h) H → va_S (fun q => s.heap.size ≤ q) s.heap H locs → lv_has ls 4 [(0, .ref b), (1, .ref (ad (24, 6, 0))), (2, .ref (ad (30, 7, 0))), (3, .int (nI (6 * n)))] →
    W p l e room_1 s m #[Value.ref b] below meth c H locs cells slots (lw_Z below #[Value.ref b] s) (F0 m 18 ls []) := by
  obtain ⟨⟨hx, hb, hrt, hml, hown, hts, hX, hbl, hlocks, hgv⟩, hL, hC, hK, hXX, hXs, hE, hA, d24, d30, hcs, hsl⟩ := id C0
  have hbA : ¬ (fun q : Nat => s.heap.size ≤ q) b := Nat.not_le.mpr hbl
  intro f
  induction f with
  | zero =>
    intro n h1 h2 h H locs ls hR hP hS hl
    have hn : 6 * n = L + 6 := by omega
    refine lv_iload_n hx hb dl_18 rfl (lv_at hl 3 rfl) ?_
    refine lv_aload_n hx hb dl_19 rfl (lv_at hl 0 rfl) ?_
    refine va_slen hx hb hX hbl hbA hS dl_20 ?_
    refine lv_bipush (v := 6) hx hb dl_21 (by decide) ?_
    refine lv_isub hx hb dl_23 ?_
    refine lv_icmp_gt (tgt := 1364) hx hb dl_24 (by decide) (fun c1 => ?_) (fun c1 => ?_)
    · refine lv_iconst (v := 1) hx hb dl_1364 (by decide) ?_
      refine va_forget (fun q hq => hS.2.2 q hq) ?_
      refine W.widen (k := 600000) (n := 7302250) hcs hsl ?_
      exact lw_ret hx hb hrt hlocks dl_1365
    · exact absurd ((lw_cmp hL (by omega)).mpr (by omega)) c1
  | succ f ih =>
    intro n h1 h2 h H locs ls hR hP hS hl
    refine lv_iload_n hx hb dl_18 rfl (lv_at hl 3 rfl) ?_
    refine lv_aload_n hx hb dl_19 rfl (lv_at hl 0 rfl) ?_
    refine va_slen hx hb hX hbl hbA hS dl_20 ?_
    refine lv_bipush (v := 6) hx hb dl_21 (by decide) ?_
    refine lv_isub hx hb dl_23 ?_
    refine lv_icmp_gt (tgt := 1364) hx hb dl_24 (by decide) (fun c1 => ?_) (fun c1 => ?_)
    · refine lv_iconst (v := 1) hx hb dl_1364 (by decide) ?_
      refine va_forget (fun q hq => hS.2.2 q hq) ?_
      refine W.widen (k := 600000) (n := 7302250) hcs hsl ?_
      exact lw_ret hx hb hrt hlocks dl_1365
    · have hi : 6 * n + 6 ≤ L := by
        rcases Nat.lt_or_ge L (6 * n + 6) with q | q
        · exact absurd ((lw_cmp hL (by omega)).mpr q) c1
        · exact q
      have hn : n < 512 := by omega
      have K : lw_K p l e s m below meth c b D dom ad cA cells slots (lw_Z below #[Value.ref b] s) (Rel (n + 1)) (6 * n) := by
        intro h H locs ls hR hP hS hl
        have e6 : nI (6 * n) + Int32.ofInt 6 = nI (6 * (n + 1)) := nI_add (6 * n) 6
        refine lv_iinc (v := nI (6 * (n + 1))) (lv' := [(3, .int (nI (6 * (n + 1)))), (0, .ref b), (1, .ref (ad (24, 6, 0))), (2, .ref (ad (30, 7, 0)))]) hx hb dl_1358 hl (k := 3) rfl e6 (by decide) rfl (fun ls hl => ?_)
        refine lv_goto (tgt := 18) hx hb dl_1361 (by decide) ?_
        exact ih (n + 1) (by omega) (by omega) h H locs ls hR hP hS (lv_sub hl [1, 2, 3, 0] rfl)
      refine lv_aload_n hx hb dl_27 rfl (lv_at hl 0 rfl) ?_
      refine lv_iload_n hx hb dl_28 rfl (lv_at hl 3 rfl) ?_
      refine va_sld hx hb hX hbl hbA hS (lw_in0 hL hi) dl_29 ?_
      refine lv_bipush (v := 63) hx hb dl_30 (by decide) ?_
      refine lv_iand hx hb dl_32 ?_
      obtain ⟨j, hj, ej⟩ := pk_andE (xs (nI (6 * n)).toNatClampNeg) (m := 63) 6 (by decide)
      rcases Nat.lt_or_ge j 40 with q | q
      · have hj : j = 0 ∨ j = 1 ∨ j = 2 ∨ j = 3 ∨ j = 4 ∨ j = 5 ∨ j = 6 ∨ j = 7 ∨ j = 8 ∨ j = 9 ∨ j = 10 ∨ j = 11 ∨ j = 12 ∨ j = 13 ∨ j = 14 ∨ j = 15 ∨ j = 16 ∨ j = 17 ∨ j = 18 ∨ j = 19 ∨ j = 20 ∨ j = 21 ∨ j = 22 ∨ j = 23 ∨ j = 24 ∨ j = 25 ∨ j = 26 ∨ j = 27 ∨ j = 28 ∨ j = 29 ∨ j = 30 ∨ j = 31 ∨ j = 32 ∨ j = 33 ∨ j = 34 ∨ j = 35 ∨ j = 36 ∨ j = 37 ∨ j = 38 ∨ j = 39 := by omega
        rcases hj with rfl | rfl | rfl | rfl | rfl | rfl | rfl | rfl | rfl | rfl | rfl | rfl | rfl | rfl | rfl | rfl | rfl | rfl | rfl | rfl | rfl | rfl | rfl | rfl | rfl | rfl | rfl | rfl | rfl | rfl | rfl | rfl | rfl | rfl | rfl | rfl | rfl | rfl | rfl | rfl
        · exact lv_tableIn hx hb dl_33 (by rw [ej]; decide) (by rw [ej]; decide) (off := 175) (by rw [ej]; rfl) (tgt := 208) (by decide) (lw_c0 C0 st0 hn hi K hR hP hS hl)
        · exact lv_tableIn hx hb dl_33 (by rw [ej]; decide) (by rw [ej]; decide) (off := 188) (by rw [ej]; rfl) (tgt := 221) (by decide) (lw_c1 C0 st1 hn hi K hR hP hS hl)
        · exact lv_tableIn hx hb dl_33 (by rw [ej]; decide) (by rw [ej]; decide) (off := 251) (by rw [ej]; rfl) (tgt := 284) (by decide) (lw_c2 C0 st2 hn hi K hR hP hS hl)
        · exact lv_tableIn hx hb dl_33 (by rw [ej]; decide) (by rw [ej]; decide) (off := 274) (by rw [ej]; rfl) (tgt := 307) (by decide) (lw_c3 C0 st3 hn hi K hR hP hS hl)
        · exact lv_tableIn hx hb dl_33 (by rw [ej]; decide) (by rw [ej]; decide) (off := 297) (by rw [ej]; rfl) (tgt := 330) (by decide) (lw_c4 C0 st4 hn hi K hR hP hS hl)
        · exact lv_tableIn hx hb dl_33 (by rw [ej]; decide) (by rw [ej]; decide) (off := 320) (by rw [ej]; rfl) (tgt := 353) (by decide) (lw_c5 C0 st5 hn hi K hR hP hS hl)
        · exact lv_tableIn hx hb dl_33 (by rw [ej]; decide) (by rw [ej]; decide) (off := 343) (by rw [ej]; rfl) (tgt := 376) (by decide) (lw_c6 C0 st6 hn hi K hR hP hS hl)
        · exact lv_tableIn hx hb dl_33 (by rw [ej]; decide) (by rw [ej]; decide) (off := 376) (by rw [ej]; rfl) (tgt := 409) (by decide) (lw_c7 C0 st7 hn hi K hR hP hS hl)
        · exact lv_tableIn hx hb dl_33 (by rw [ej]; decide) (by rw [ej]; decide) (off := 419) (by rw [ej]; rfl) (tgt := 452) (by decide) (lw_c8 C0 st8 hn hi K hR hP hS hl)
        · exact lv_tableIn hx hb dl_33 (by rw [ej]; decide) (by rw [ej]; decide) (off := 462) (by rw [ej]; rfl) (tgt := 495) (by decide) (lw_c9 C0 st9 hn hi K hR hP hS hl)
        · exact lv_tableIn hx hb dl_33 (by rw [ej]; decide) (by rw [ej]; decide) (off := 495) (by rw [ej]; rfl) (tgt := 528) (by decide) (lw_c10 C0 st10 hn hi K hR hP hS hl)
        · exact lv_tableIn hx hb dl_33 (by rw [ej]; decide) (by rw [ej]; decide) (off := 528) (by rw [ej]; rfl) (tgt := 561) (by decide) (lw_c11 C0 st11 hn hi K hR hP hS hl)
        · exact lv_tableIn hx hb dl_33 (by rw [ej]; decide) (by rw [ej]; decide) (off := 561) (by rw [ej]; rfl) (tgt := 594) (by decide) (lw_c12 C0 st12 hn hi K hR hP hS hl)
        · exact lv_tableIn hx hb dl_33 (by rw [ej]; decide) (by rw [ej]; decide) (off := 604) (by rw [ej]; rfl) (tgt := 637) (by decide) (lw_c13 C0 st13 hn hi K hR hP hS hl)
        · exact lv_tableIn hx hb dl_33 (by rw [ej]; decide) (by rw [ej]; decide) (off := 627) (by rw [ej]; rfl) (tgt := 660) (by decide) (lw_c14 C0 st14 hn hi K hR hP hS hl)
        · exact lv_tableIn hx hb dl_33 (by rw [ej]; decide) (by rw [ej]; decide) (off := 670) (by rw [ej]; rfl) (tgt := 703) (by decide) (lw_c15 C0 st15 hn hi K hR hP hS hl)
        · exact lv_tableIn hx hb dl_33 (by rw [ej]; decide) (by rw [ej]; decide) (off := 703) (by rw [ej]; rfl) (tgt := 736) (by decide) (lw_c16 C0 st16 hn hi K hR hP hS hl)
        · exact lv_tableIn hx hb dl_33 (by rw [ej]; decide) (by rw [ej]; decide) (off := 716) (by rw [ej]; rfl) (tgt := 749) (by decide) (lw_c17 C0 st17 hn hi K hR hP hS hl)
        · exact lv_tableIn hx hb dl_33 (by rw [ej]; decide) (by rw [ej]; decide) (off := 739) (by rw [ej]; rfl) (tgt := 772) (by decide) (lw_c18 C0 st18 hn hi K hR hP hS hl)
        · exact lv_tableIn hx hb dl_33 (by rw [ej]; decide) (by rw [ej]; decide) (off := 762) (by rw [ej]; rfl) (tgt := 795) (by decide) (lw_c19 C0 st19 hn hi K hR hP hS hl)
        · exact lv_tableIn hx hb dl_33 (by rw [ej]; decide) (by rw [ej]; decide) (off := 815) (by rw [ej]; rfl) (tgt := 848) (by decide) (lw_c20 C0 st20 hn hi K hR hP hS hl)
        · exact lv_tableIn hx hb dl_33 (by rw [ej]; decide) (by rw [ej]; decide) (off := 878) (by rw [ej]; rfl) (tgt := 911) (by decide) (lw_c21 C0 st21 hn hi K hR hP hS hl)
        · exact lv_tableIn hx hb dl_33 (by rw [ej]; decide) (by rw [ej]; decide) (off := 911) (by rw [ej]; rfl) (tgt := 944) (by decide) (lw_c22 C0 st22 hn hi K hR hP hS hl)
        · exact lv_tableIn hx hb dl_33 (by rw [ej]; decide) (by rw [ej]; decide) (off := 944) (by rw [ej]; rfl) (tgt := 977) (by decide) (lw_c23 C0 st23 hn hi K hR hP hS hl)
        · exact lv_tableIn hx hb dl_33 (by rw [ej]; decide) (by rw [ej]; decide) (off := 967) (by rw [ej]; rfl) (tgt := 1000) (by decide) (lw_c24 C0 st24 hn hi K hR hP hS hl)
        · exact lv_tableIn hx hb dl_33 (by rw [ej]; decide) (by rw [ej]; decide) (off := 980) (by rw [ej]; rfl) (tgt := 1013) (by decide) (lw_c25 C0 st25 hn hi K hR hP hS hl)
        · exact lv_tableIn hx hb dl_33 (by rw [ej]; decide) (by rw [ej]; decide) (off := 1013) (by rw [ej]; rfl) (tgt := 1046) (by decide) (lw_c26 C0 st26 hn hi K hR hP hS hl)
        · exact lv_tableIn hx hb dl_33 (by rw [ej]; decide) (by rw [ej]; decide) (off := 1046) (by rw [ej]; rfl) (tgt := 1079) (by decide) (lw_c27 C0 st27 hn hi K hR hP hS hl)
        · exact lv_tableIn hx hb dl_33 (by rw [ej]; decide) (by rw [ej]; decide) (off := 1059) (by rw [ej]; rfl) (tgt := 1092) (by decide) (lw_c28 C0 st28 hn hi K hR hP hS hl)
        · exact lv_tableIn hx hb dl_33 (by rw [ej]; decide) (by rw [ej]; decide) (off := 1092) (by rw [ej]; rfl) (tgt := 1125) (by decide) (lw_c29 C0 st29 hn hi K hR hP hS hl)
        · exact lv_tableIn hx hb dl_33 (by rw [ej]; decide) (by rw [ej]; decide) (off := 1105) (by rw [ej]; rfl) (tgt := 1138) (by decide) (lw_c30 C0 st30 hn hi K hR hP hS hl)
        · exact lv_tableIn hx hb dl_33 (by rw [ej]; decide) (by rw [ej]; decide) (off := 1118) (by rw [ej]; rfl) (tgt := 1151) (by decide) (lw_c31 C0 st31 hn hi K hR hP hS hl)
        · exact lv_tableIn hx hb dl_33 (by rw [ej]; decide) (by rw [ej]; decide) (off := 1141) (by rw [ej]; rfl) (tgt := 1174) (by decide) (lw_c32 C0 st32 hn hi K hR hP hS hl)
        · exact lv_tableIn hx hb dl_33 (by rw [ej]; decide) (by rw [ej]; decide) (off := 1174) (by rw [ej]; rfl) (tgt := 1207) (by decide) (lw_c33 C0 st33 hn hi K hR hP hS hl)
        · exact lv_tableIn hx hb dl_33 (by rw [ej]; decide) (by rw [ej]; decide) (off := 1197) (by rw [ej]; rfl) (tgt := 1230) (by decide) (lw_c34 C0 st34 hn hi K hR hP hS hl)
        · exact lv_tableIn hx hb dl_33 (by rw [ej]; decide) (by rw [ej]; decide) (off := 1210) (by rw [ej]; rfl) (tgt := 1243) (by decide) (lw_c35 C0 st35 hn hi K hR hP hS hl)
        · exact lv_tableIn hx hb dl_33 (by rw [ej]; decide) (by rw [ej]; decide) (off := 1233) (by rw [ej]; rfl) (tgt := 1266) (by decide) (lw_c36 C0 st36 hn hi K hR hP hS hl)
        · exact lv_tableIn hx hb dl_33 (by rw [ej]; decide) (by rw [ej]; decide) (off := 1256) (by rw [ej]; rfl) (tgt := 1289) (by decide) (lw_c37 C0 st37 hn hi K hR hP hS hl)
        · exact lv_tableIn hx hb dl_33 (by rw [ej]; decide) (by rw [ej]; decide) (off := 1269) (by rw [ej]; rfl) (tgt := 1302) (by decide) (lw_c38 C0 st38 hn hi K hR hP hS hl)
        · exact lv_tableIn hx hb dl_33 (by rw [ej]; decide) (by rw [ej]; decide) (off := 1302) (by rw [ej]; rfl) (tgt := 1335) (by decide) (lw_c39 C0 st39 hn hi K hR hP hS hl)
      · exact lv_tableOut hx hb dl_33 (Or.inr (by rw [ej, nI_toInt (by omega)]; omega)) (tgt := 1358) (by decide) (K h H locs ls (hmono n h hR) hP hS hl)
