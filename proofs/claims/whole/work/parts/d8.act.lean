/-! the text: what a line does -/
def x_rA (x1 pl : Int32) (x33 : q_H) : Option q_H := (if (3 : Int32) ≤ x1 then (if ¬ x1 = (3 : Int32) then ((Mo_doesAct x1 (q_si x33 30 28 7 0 (1 : Int32))).bind fun x39 => if x39.1 < 0 then ((Mo_must (0 : Int32) (7 : Int32) pl x39.2).bind fun x41 => some (x41)) else ((Mo_must (1 : Int32) (7 : Int32) pl x39.2).bind fun x43 => some (x43))) else (Option.bind (α := Int32) (if (40 : Int32) ≤ ((q_si x33 30 27 7 0 (1 : Int32)).1 31 0 7 3) then (some ((0 : Int32))) else ((Mo_firstPlace ((q_si x33 30 27 7 0 (1 : Int32)).1 41 0 7 2) (q_si x33 30 27 7 0 (1 : Int32))).bind fun x50 => if x50 < 0 then (some ((0 : Int32))) else (some ((1 : Int32))))) (fun p54 => (Mo_must p54 (6 : Int32) pl (q_si x33 30 27 7 0 (1 : Int32))).bind fun x55 => if ¬ (x55.1 30 15 7 0) = 0 then (some (x55)) else ((Mo_inserts (1 : Int32) (x55.1 41 0 7 0) (x55.1 41 0 7 1) (x55.1 41 0 7 2) x55).bind fun x57 => some (x57.2))))) else (bif q_in x1 1644 then ((some (q_si (q_si x33 30 26 7 0 ((x33.1 30 26 7 0) ||| ((1 : Int32) <<< (x1 &&& 31)))) 31 0 7 x1.toNatClampNeg ((q_si x33 30 26 7 0 ((x33.1 30 26 7 0) ||| ((1 : Int32) <<< (x1 &&& 31)))).1 41 0 7 0))).bind fun h62 => some (h62)) else none))
def x_rS (p66 : q_H) : Option q_H := Option.bind (α := Int32) (if ¬ (p66.1 30 19 7 0) = (3 : Int32) then (some ((0 : Int32))) else (some ((1 : Int32)))) (fun p72 => (Mo_must p72 (2 : Int32) (p66.1 30 17 7 0) p66).bind fun x73 => if ¬ (x73.1 30 15 7 0) = 0 then (some (x73)) else ((Mo_reads x73).bind fun x75 => some (x75)))
theorem x_ra_e {x pl : Int32} {h : q_H} : x_ra x pl h = (x_rA x pl h).bind x_rS := rfl
def x_ca (w : Nat) (v : Nat → Int32) (H : q_H) : Option q_H :=
  match w with
  | 0 => some (q_si H 1 4 0 0 (v 0))
  | 1 => some (q_si H 0 5 0 0 (v 0))
  | 2 => some (q_si H 0 6 0 0 (v 0))
  | 3 => (Rp_addFirstRow (v 0) (v 1) (v 2) H).bind fun x13 => some x13
  | 4 => (Rp_begin H).bind fun x15 => some x15.2
  | 5 => (Rp_insert (v 0) (v 1) (v 2) (v 3) H).bind fun x15 => some x15.2
  | 6 => (Rp_update (v 0) (v 1) (v 2) (v 3) (v 4) H).bind fun x15 => some x15.2
  | 7 => (Rp_delete (v 0) (v 1) H).bind fun x15 => some x15.2
  | 8 => (Rp_commit (v 0) H).bind fun x15 => some x15.2
  | 9 => (Rp_abort (v 0) H).bind fun x15 => some x15.2
  | 10 => (Rp_prune (v 0) H).bind fun x15 => some x15.2
  | 11 => (Rp_vacuum H).bind fun x15 => some x15.2
  | 12 => (Rp_look (v 0) (v 1) H).bind fun x15 => some x15.2
  | _ => (Rp_repack H).bind fun x15 => some x15.2
theorem c_told {H : q_H} {k : Nat} (hk : k < 5) : Tx_told (nI k) H = some (H.1 27 0 6 k) := by
  unfold Tx_told
  rw [c_pick (t := 27) (n := 5) rfl rfl hk (by omega)]; rfl
theorem x_pf {H : q_H} {w : Nat} (hw : w < 14) (h7 : H.1 25 7 6 0 = nI w) : Rp_perform H = (x_ca w (fun k => H.1 27 0 6 k) (q_si H 24 6 6 0 0)).bind fun p51 => if (p51.1 24 6 6 0) = 0 then (some (p51)) else (if ¬ (p51.1 25 7 6 0) = (3 : Int32) then ((Tx_blame (7 : Int32) (p51.1 25 8 6 0) p51).bind fun x52 => some (x52)) else ((Tx_blame (6 : Int32) (p51.1 25 8 6 0) p51).bind fun x54 => some (x54))) := by
  unfold Rp_perform
  have t : ∀ k, k < 5 → Tx_told (nI k) (q_si H 24 6 6 0 (nI 0)) = some (H.1 27 0 6 k) := fun k hk => by
    rw [c_told hk, g_rd_o (by omega)]
  rw [show (0 : Int32) = nI 0 from rfl, c_told (k := 0) (by decide), Option.bind_some, show (1 : Int32) = nI 1 from rfl, c_told (k := 1) (by decide), Option.bind_some, show (2 : Int32) = nI 2 from rfl, c_told (k := 2) (by decide), Option.bind_some, show (3 : Int32) = nI 3 from rfl, c_told (k := 3) (by decide), Option.bind_some]
  rw [show (q_si H 24 6 6 0 (nI 0)).1 25 7 6 0 = nI w by rw [g_rd_o (by omega)]; exact h7]
  rw [show (4 : Int32) = nI 4 from rfl, t 4 (by decide)]
  rcases x_14 hw with rfl | rfl | rfl | rfl | rfl | rfl | rfl | rfl | rfl | rfl | rfl | rfl | rfl | rfl <;> rfl
theorem act_mo {b b' : Nat} {A : g_A} {H : q_H} {C : Option (Int32 × q_H)} {M : q_H → Option (Int32 × q_H)} (ha : g_act b A H C M) (hb : b ≤ b') : g_act b' A H C M := by
  obtain ⟨r, st, H', e, f, z, k⟩ := ha
  refine ⟨r, st, H', e, f, z, fun h hi => ?_⟩
  obtain ⟨A', h', k1, k⟩ := k h hi
  exact ⟨A', h', g_R_mono k1 hb, k⟩
theorem bind_eta {x : Option (Int32 × q_H)} : (x.bind fun y => some (y.1, y.2)) = x := by cases x <;> rfl
theorem x_act {b w : Nat} {A : g_A} {H : q_H} {v : Nat → Int32} (hw : w < 14) (h4 : 4 ≤ w) (hW : g_W A) (hR : g_R b (g_st H 0) A) (hb : b < 2 ^ 30) (hn : r_n (g_st H 1)) : ∃ C M, x_ca w v H = C.bind (fun x => some x.2) ∧ (∀ h : q_H, (∀ k, k < x_nb w → h.1 41 0 7 k = v k) → Mo_doesAct (nI w) h = M h) ∧ g_act (b + 60) A H C M := by
  have w10 : w = 4 ∨ w = 5 ∨ w = 6 ∨ w = 7 ∨ w = 8 ∨ w = 9 ∨ w = 10 ∨ w = 11 ∨ w = 12 ∨ w = 13 := by omega
  rcases w10 with rfl | rfl | rfl | rfl | rfl | rfl | rfl | rfl | rfl | rfl
  · exact ⟨_, _, rfl, fun h t => bind_eta, act_mo (act_begin hW hR) (by omega)⟩
  · refine ⟨_, fun h => Mo_insertNow (v 0) (v 1) (v 2) (v 3) h, rfl, fun h t => ?_, act_mo (act_insert hW hR hb) (by omega)⟩
    show ((Mo_insertNow (h.1 41 0 7 0) (h.1 41 0 7 1) (h.1 41 0 7 2) (h.1 41 0 7 3) h).bind fun x3 => some ((x3.1, x3.2))) = _
    rw [bind_eta, t 0 (by decide), t 1 (by decide), t 2 (by decide), t 3 (by decide)]
  · refine ⟨_, fun h => Mo_updateNow (v 0) (v 1) (v 2) (v 3) (v 4) h, rfl, fun h t => ?_, act_mo (act_update hW hR hb hn) (by omega)⟩
    show ((Mo_updateNow (h.1 41 0 7 0) (h.1 41 0 7 1) (h.1 41 0 7 2) (h.1 41 0 7 3) (h.1 41 0 7 4) h).bind fun x3 => some ((x3.1, x3.2))) = _
    rw [bind_eta, t 0 (by decide), t 1 (by decide), t 2 (by decide), t 3 (by decide), t 4 (by decide)]
  · refine ⟨_, fun h => Mo_deleteNow (v 0) (v 1) h, rfl, fun h t => ?_, act_mo (act_delete hW hR) (by omega)⟩
    show ((Mo_deleteNow (h.1 41 0 7 0) (h.1 41 0 7 1) h).bind fun x3 => some ((x3.1, x3.2))) = _
    rw [bind_eta, t 0 (by decide), t 1 (by decide)]
  · refine ⟨_, fun h => Mo_closeNow (v 0) 1 h, rfl, fun h t => ?_, act_mo (act_commit hW hR) (by omega)⟩
    show ((Mo_closeNow (h.1 41 0 7 0) 1 h).bind fun x3 => some ((x3.1, x3.2))) = _
    rw [bind_eta, t 0 (by decide)]
  · refine ⟨_, fun h => Mo_closeNow (v 0) 2 h, rfl, fun h t => ?_, act_mo (act_abort hW hR) (by omega)⟩
    show ((Mo_closeNow (h.1 41 0 7 0) 2 h).bind fun x3 => some ((x3.1, x3.2))) = _
    rw [bind_eta, t 0 (by decide)]
  · refine ⟨_, fun h => Mo_pruneNow (v 0) h, rfl, fun h t => ?_, act_mo (act_prune hW hR) (by omega)⟩
    show ((Mo_pruneNow (h.1 41 0 7 0) h).bind fun x3 => some ((x3.1, x3.2))) = _
    rw [bind_eta, t 0 (by decide)]
  · exact ⟨_, _, rfl, fun h t => bind_eta, act_mo (act_vacuum hW hR) (by omega)⟩
  · refine ⟨_, fun h => Mo_lookNow (v 0) (v 1) h, rfl, fun h t => ?_, act_mo (act_look hW hR) (by omega)⟩
    show ((Mo_lookNow (h.1 41 0 7 0) (h.1 41 0 7 1) h).bind fun x3 => some ((x3.1, x3.2))) = _
    rw [bind_eta, t 0 (by decide), t 1 (by decide)]
  · exact ⟨_, _, rfl, fun h t => bind_eta, act_repack hW hR hn⟩
/-- only rows have been told so far -/
def x_ri (A : g_A) : Prop := g_ne A = g_nr A ∧ ∀ a, a < 60 → g_fu A a = true → A 1 a 7 = -1
theorem g_st_W {A : g_A} {i : Nat} {v : Int32} (hi : i < 3) (hb : i = 1 → ∃ b, 1 ≤ b ∧ b ≤ 8 ∧ v = nI b) (hW : g_W A) : g_W (g_au A 0 i 0 v) := by
  have fb : g_fb A (g_au A 0 i 0 v) := ⟨fun s w => g_au_ne (by omega), fun s w => g_au_ne (by omega), fun j hj => g_au_ne (by omega)⟩
  by_cases i0 : i = 0
  · subst i0
    have e0 : ∀ j, j ≠ 0 → g_au A 0 0 0 v 0 j 0 = A 0 j 0 := fun j hj => g_au_ne (by omega)
    obtain ⟨wi, we⟩ := fb_e fb (fun _ _ => g_au_ne (by omega)) (g_au_ne (by omega)) hW.2.1.1 hW.2.1.2.1
    refine fb_W fb hW wi we ?_ ?_ ?_ ?_
    · unfold g_wg g_nv
      rw [e0 6 (by omega)]; exact hW.2.2.1
    · exact ww_cg (by unfold g_nx; rw [e0 4 (by omega)]) (fun t => g_au_ne (by omega)) hW.2.2.2.1
    · unfold g_wb
      rw [e0 1 (by omega)]; exact hW.2.2.2.2.2.1
    · have en : g_nf (g_au A 0 0 0 v) = g_nf A := by unfold g_nf; rw [e0 7 (by omega)]
      have wd := hW.2.2.2.2.2.2.1
      refine ⟨by rw [en, e0 7 (by omega)]; exact wd.1, by rw [en]; exact wd.2.1, fun j hj => ?_⟩
      rw [en] at hj
      rw [g_au_ne (by omega), g_au_ne (by omega)]
      exact wd.2.2 j hj
  · exact g_set_W (by omega) hb hW
theorem g_st_R0 {b : Nat} {A : g_A} {S : g_S} {v : Int32} (hR : g_R b S A) : g_R b (g_su S 1 4 0 v) (g_au A 0 0 0 v) := by
  have fb : g_fb A (g_au A 0 0 0 v) := ⟨fun s w => g_au_ne (by omega), fun s w => g_au_ne (by omega), fun j hj => g_au_ne (by omega)⟩
  refine fb_R fb (fun j hj => g_au_ne (by omega)) (fun _ _ => g_au_ne (by omega)) (fun _ _ => g_au_ne (by omega)) (fun _ _ => g_au_ne (by omega)) (fun t f j h9 hn => g_su_t (by omega)) ?_ ?_ hR
  · obtain ⟨r1, r2, r3, r4⟩ := hR.1
    refine ⟨?_, ?_, ?_, ?_⟩
    · rw [g_su_e, g_au_eq]
    · rw [g_su_t (by omega), g_au_ne (by omega)]; exact r2
    · rw [g_su_t (by omega), g_au_ne (by omega)]; exact r3
    · rw [g_su_t (by omega), g_au_ne (by omega)]; exact r4
  · exact r_t_ft hR.2.1 (fun t f j a c => g_su_t (by omega)) rfl (fb_ft fb) (fun t => g_au_ne (by omega))
