theorem lw_in {L i : Nat} (hL : L ≤ 3072) (hi : i + 6 ≤ L) (j : Nat) (hj : j < 6) : vp_in (nI i + nI j) L := by
  rw [nI_add]
  exact vp_in_nI (by omega) (by omega)
theorem lw_in0 {L i : Nat} (hL : L ≤ 3072) (hi : i + 6 ≤ L) : vp_in (nI i) L := vp_in_nI (by omega) (by omega)
theorem lw_cmp {L i : Nat} (hL : L ≤ 3072) (hi : i ≤ 4000) : nI L - 6 < nI i ↔ L < i + 6 := by
  have h6 : (6 : Int32) = nI 6 := rfl
  rw [h6, Int32.lt_iff_toInt_lt, pk_sub_toInt (by omega) (by omega), nI_toInt (by omega)]
  omega
/-- what goes on behind a case -/
def lw_K (p : Program) (l : Launch) (e : Env) (s : State) (m : MethodId) (below : List Frame) (meth : Method) (c : Code) (b : Nat) (D : va_G) (dom : List q_R) (ad : q_R → Nat) (cA : Nat → ClassId) (cells slots : Nat) (Q : State → Prop) (Rel : q_H → Prop) (i : Nat) : Prop :=
  ∀ (h : q_H) (H : Heap) (locs : List Loc) (ls : Array Slot), Rel h → va_P D vwCl (q_ws dom ad cA h) H → va_S (fun q => s.heap.size ≤ q) s.heap H locs → lv_has ls 4 [(0, .ref b), (1, .ref (ad (24, 6, 0))), (2, .ref (ad (30, 7, 0))), (3, .int (nI i))] →
    W p l e room_1 s m #[Value.ref b] below meth c H locs cells slots Q (F0 m 1358 ls [])
/-- one call of status and of the reference's: the same answer -/
def lw_S0 (Rel : Nat → q_H → Prop) : Prop := ∀ (n : Nat) (h : q_H), n < 512 → Rel n h → ∃ (r : Int32) (h2 : q_H), Rp_status h = some r ∧ Mo_status h = some (r, h2) ∧ Rel (n + 1) h2
theorem lw_l13 : Cond.methodLink R_law 13 (q_y 5) ∈ lw_tblG := q_g2 (i := 112) rfl rfl
theorem lw_l17 : Cond.methodLink R_law 17 (q_y 181) ∈ lw_tblG := q_g6 (i := 84) rfl rfl
set_option maxHeartbeats 4000000 in
set_option maxRecDepth 100000 in
theorem lw_c0 {p : Program} {l : Launch} {e : Env} {s : State} {m : MethodId} {below : List Frame} {meth : Method} {c : Code} {b L : Nat} {xs : Nat → Int32} {D : va_G} {dom : List q_R} {ad : q_R → Nat} {cA : Nat → ClassId} {tys : List (ClassId × FieldType)} {A : Nat → Prop} {X : State → Prop} {cells slots : Nat} {Q : State → Prop} (C0 : lw_CX p l s m meth c b L xs D dom ad cA tys A X cells slots) {Rel : Nat → q_H → Prop} (hst : lw_S0 Rel) {n i : Nat} (hn : n < 512) (hi : i + 6 ≤ L) (K : lw_K p l e s m below meth c b D dom ad cA cells slots Q (Rel (n + 1)) i)
    {h : q_H} {H : Heap} {locs : List Loc} {ls : Array Slot} (hR : Rel n h) (hP : va_P D vwCl (q_ws dom ad cA h) H) (hS : va_S (fun q => s.heap.size ≤ q) s.heap H locs) (hl : lv_has ls 4 [(0, .ref b), (1, .ref (ad (24, 6, 0))), (2, .ref (ad (30, 7, 0))), (3, .int (nI i))]) :
    W p l e room_1 s m #[Value.ref b] below meth c H locs cells slots Q (F0 m 208 ls []) := by
  obtain ⟨⟨hx, hb, hrt, hml, hown, hts, hX, hbl, hlocks, hgv⟩, hL, hC, hK, hXX, hXs, hE, hA, d24, d30, hcs, hsl⟩ := id C0
  have hbA : ¬ (fun q : Nat => s.heap.size ≤ q) b := Nat.not_le.mpr hbl
  obtain ⟨r, h2, g1, g2, hR2⟩ := hst n h  hn hR
  refine lv_aload_n hx hb dl_208 rfl (lv_at hl 1 rfl) ?_
  refine lw_call C0 (mm := 5) (t := 24) (k := 6) (av := []) (rest := []) lw_l13 (by decide) (by decide) rfl rfl rfl d24 (fun v hv => by simp at hv) rfl (Nat.le_of_ble_eq_true rfl) (eRp_status (d := 11) (by omega) g1) hP hS hl.1 dl_209 (fun H1 locs1 hP1 hS1 => ?_)
  clear hP hS
  have hP := hP1; have hS := hS1
  refine lv_aload_n hx hb dl_212 rfl (lv_at hl 2 rfl) ?_
  refine lw_call C0 (mm := 181) (t := 30) (k := 7) (av := []) (rest := [.int r]) lw_l17 (by decide) (by decide) rfl rfl rfl d30 (fun v hv => by simp at hv) rfl (Nat.le_of_ble_eq_true rfl) (eMo_status (d := 11) (by omega) g2) hP hS hl.1 dl_213 (fun H1 locs1 hP1 hS1 => ?_)
  clear hP hS
  have hP := hP1; have hS := hS1
  refine lv_icmp_eq (tgt := 1358) hx hb dl_216 (by decide) (fun _ => K _ _ _ _ hR2 hP hS hl) (fun c1 => absurd rfl c1)
/-- one call of feed and of the reference's: the same answer -/
def lw_S1 (Rel : Nat → q_H → Prop) : Prop := ∀ (n : Nat) (h : q_H) (a1 a2 a3 a4 a5 : Int32), n < 512 → Rel n h → ∃ (r : Int32) (h1 : q_H) (h2 : q_H), Rp_feed a1 a2 a3 a4 a5 h = some (r, h1) ∧ Mo_feed a1 a2 a3 a4 a5 h1 = some (r, h2) ∧ Rel (n + 1) h2
theorem lw_l18 : Cond.methodLink R_law 18 (q_y 6) ∈ lw_tblG := q_g2 (i := 116) rfl rfl
theorem lw_l22 : Cond.methodLink R_law 22 (q_y 250) ∈ lw_tblG := q_g6 (i := 88) rfl rfl
set_option maxHeartbeats 4000000 in
set_option maxRecDepth 100000 in
theorem lw_c1 {p : Program} {l : Launch} {e : Env} {s : State} {m : MethodId} {below : List Frame} {meth : Method} {c : Code} {b L : Nat} {xs : Nat → Int32} {D : va_G} {dom : List q_R} {ad : q_R → Nat} {cA : Nat → ClassId} {tys : List (ClassId × FieldType)} {A : Nat → Prop} {X : State → Prop} {cells slots : Nat} {Q : State → Prop} (C0 : lw_CX p l s m meth c b L xs D dom ad cA tys A X cells slots) {Rel : Nat → q_H → Prop} (hst : lw_S1 Rel) {n i : Nat} (hn : n < 512) (hi : i + 6 ≤ L) (K : lw_K p l e s m below meth c b D dom ad cA cells slots Q (Rel (n + 1)) i)
    {h : q_H} {H : Heap} {locs : List Loc} {ls : Array Slot} (hR : Rel n h) (hP : va_P D vwCl (q_ws dom ad cA h) H) (hS : va_S (fun q => s.heap.size ≤ q) s.heap H locs) (hl : lv_has ls 4 [(0, .ref b), (1, .ref (ad (24, 6, 0))), (2, .ref (ad (30, 7, 0))), (3, .int (nI i))]) :
    W p l e room_1 s m #[Value.ref b] below meth c H locs cells slots Q (F0 m 221 ls []) := by
  obtain ⟨⟨hx, hb, hrt, hml, hown, hts, hX, hbl, hlocks, hgv⟩, hL, hC, hK, hXX, hXs, hE, hA, d24, d30, hcs, hsl⟩ := id C0
  have hbA : ¬ (fun q : Nat => s.heap.size ≤ q) b := Nat.not_le.mpr hbl
  obtain ⟨r, h1, h2, g1, g2, hR2⟩ := hst n h (xs (nI i + nI 1).toNatClampNeg) (xs (nI i + nI 2).toNatClampNeg) (xs (nI i + nI 3).toNatClampNeg) (xs (nI i + nI 4).toNatClampNeg) (xs (nI i + nI 5).toNatClampNeg) hn hR
  refine lv_aload_n hx hb dl_221 rfl (lv_at hl 1 rfl) ?_
  refine lv_aload_n hx hb dl_222 rfl (lv_at hl 0 rfl) ?_
  refine lv_iload_n hx hb dl_223 rfl (lv_at hl 3 rfl) ?_
  refine lv_iconst (v := nI 1) hx hb dl_224 rfl ?_
  refine lv_iadd hx hb dl_225 ?_
  refine va_sld hx hb hX hbl hbA hS (lw_in hL hi 1 (by omega)) dl_226 ?_
  refine lv_aload_n hx hb dl_227 rfl (lv_at hl 0 rfl) ?_
  refine lv_iload_n hx hb dl_228 rfl (lv_at hl 3 rfl) ?_
  refine lv_iconst (v := nI 2) hx hb dl_229 rfl ?_
  refine lv_iadd hx hb dl_230 ?_
  refine va_sld hx hb hX hbl hbA hS (lw_in hL hi 2 (by omega)) dl_231 ?_
  refine lv_aload_n hx hb dl_232 rfl (lv_at hl 0 rfl) ?_
  refine lv_iload_n hx hb dl_233 rfl (lv_at hl 3 rfl) ?_
  refine lv_iconst (v := nI 3) hx hb dl_234 rfl ?_
  refine lv_iadd hx hb dl_235 ?_
  refine va_sld hx hb hX hbl hbA hS (lw_in hL hi 3 (by omega)) dl_236 ?_
  refine lv_aload_n hx hb dl_237 rfl (lv_at hl 0 rfl) ?_
  refine lv_iload_n hx hb dl_238 rfl (lv_at hl 3 rfl) ?_
  refine lv_iconst (v := nI 4) hx hb dl_239 rfl ?_
  refine lv_iadd hx hb dl_240 ?_
  refine va_sld hx hb hX hbl hbA hS (lw_in hL hi 4 (by omega)) dl_241 ?_
  refine lv_aload_n hx hb dl_242 rfl (lv_at hl 0 rfl) ?_
  refine lv_iload_n hx hb dl_243 rfl (lv_at hl 3 rfl) ?_
  refine lv_iconst (v := nI 5) hx hb dl_244 rfl ?_
  refine lv_iadd hx hb dl_245 ?_
  refine va_sld hx hb hX hbl hbA hS (lw_in hL hi 5 (by omega)) dl_246 ?_
  refine lw_call C0 (mm := 6) (t := 24) (k := 6) (av := [.inl (xs (nI i + nI 1).toNatClampNeg), .inl (xs (nI i + nI 2).toNatClampNeg), .inl (xs (nI i + nI 3).toNatClampNeg), .inl (xs (nI i + nI 4).toNatClampNeg), .inl (xs (nI i + nI 5).toNatClampNeg)]) (rest := []) lw_l18 (by decide) (by decide) rfl rfl rfl d24 (fun v hv => by simp at hv; rcases hv with rfl | rfl | rfl | rfl | rfl <;> trivial) rfl (Nat.le_of_ble_eq_true rfl) (eRp_feed (d := 11) (by omega) g1) hP hS hl.1 dl_247 (fun H1 locs1 hP1 hS1 => ?_)
  clear hP hS
  have hP := hP1; have hS := hS1
  refine lv_aload_n hx hb dl_250 rfl (lv_at hl 2 rfl) ?_
  refine lv_aload_n hx hb dl_251 rfl (lv_at hl 0 rfl) ?_
  refine lv_iload_n hx hb dl_252 rfl (lv_at hl 3 rfl) ?_
  refine lv_iconst (v := nI 1) hx hb dl_253 rfl ?_
  refine lv_iadd hx hb dl_254 ?_
  refine va_sld hx hb hX hbl hbA hS (lw_in hL hi 1 (by omega)) dl_255 ?_
  refine lv_aload_n hx hb dl_256 rfl (lv_at hl 0 rfl) ?_
  refine lv_iload_n hx hb dl_257 rfl (lv_at hl 3 rfl) ?_
  refine lv_iconst (v := nI 2) hx hb dl_258 rfl ?_
  refine lv_iadd hx hb dl_259 ?_
  refine va_sld hx hb hX hbl hbA hS (lw_in hL hi 2 (by omega)) dl_260 ?_
  refine lv_aload_n hx hb dl_261 rfl (lv_at hl 0 rfl) ?_
  refine lv_iload_n hx hb dl_262 rfl (lv_at hl 3 rfl) ?_
  refine lv_iconst (v := nI 3) hx hb dl_263 rfl ?_
  refine lv_iadd hx hb dl_264 ?_
  refine va_sld hx hb hX hbl hbA hS (lw_in hL hi 3 (by omega)) dl_265 ?_
  refine lv_aload_n hx hb dl_266 rfl (lv_at hl 0 rfl) ?_
  refine lv_iload_n hx hb dl_267 rfl (lv_at hl 3 rfl) ?_
  refine lv_iconst (v := nI 4) hx hb dl_268 rfl ?_
  refine lv_iadd hx hb dl_269 ?_
  refine va_sld hx hb hX hbl hbA hS (lw_in hL hi 4 (by omega)) dl_270 ?_
  refine lv_aload_n hx hb dl_271 rfl (lv_at hl 0 rfl) ?_
  refine lv_iload_n hx hb dl_272 rfl (lv_at hl 3 rfl) ?_
  refine lv_iconst (v := nI 5) hx hb dl_273 rfl ?_
  refine lv_iadd hx hb dl_274 ?_
  refine va_sld hx hb hX hbl hbA hS (lw_in hL hi 5 (by omega)) dl_275 ?_
  refine lw_call C0 (mm := 250) (t := 30) (k := 7) (av := [.inl (xs (nI i + nI 1).toNatClampNeg), .inl (xs (nI i + nI 2).toNatClampNeg), .inl (xs (nI i + nI 3).toNatClampNeg), .inl (xs (nI i + nI 4).toNatClampNeg), .inl (xs (nI i + nI 5).toNatClampNeg)]) (rest := [.int r]) lw_l22 (by decide) (by decide) rfl rfl rfl d30 (fun v hv => by simp at hv; rcases hv with rfl | rfl | rfl | rfl | rfl <;> trivial) rfl (Nat.le_of_ble_eq_true rfl) (eMo_feed (d := 11) (by omega) g2) hP hS hl.1 dl_276 (fun H1 locs1 hP1 hS1 => ?_)
  clear hP hS
  have hP := hP1; have hS := hS1
  refine lv_icmp_eq (tgt := 1358) hx hb dl_279 (by decide) (fun _ => K _ _ _ _ hR2 hP hS hl) (fun c1 => absurd rfl c1)
/-- one call of load and of the reference's: the same answer -/
def lw_S2 (Rel : Nat → q_H → Prop) : Prop := ∀ (n : Nat) (h : q_H) (a1 : Int32), n < 512 → Rel n h → ∃ (r : Int32) (h1 : q_H) (h2 : q_H), Rp_load a1 h = some (r, h1) ∧ Mo_load a1 h1 = some (r, h2) ∧ Rel (n + 1) h2
theorem lw_l23 : Cond.methodLink R_law 23 (q_y 7) ∈ lw_tblG := q_g2 (i := 129) rfl rfl
theorem lw_l27 : Cond.methodLink R_law 27 (q_y 258) ∈ lw_tblG := q_g6 (i := 96) rfl rfl
set_option maxHeartbeats 4000000 in
set_option maxRecDepth 100000 in
theorem lw_c2 {p : Program} {l : Launch} {e : Env} {s : State} {m : MethodId} {below : List Frame} {meth : Method} {c : Code} {b L : Nat} {xs : Nat → Int32} {D : va_G} {dom : List q_R} {ad : q_R → Nat} {cA : Nat → ClassId} {tys : List (ClassId × FieldType)} {A : Nat → Prop} {X : State → Prop} {cells slots : Nat} {Q : State → Prop} (C0 : lw_CX p l s m meth c b L xs D dom ad cA tys A X cells slots) {Rel : Nat → q_H → Prop} (hst : lw_S2 Rel) {n i : Nat} (hn : n < 512) (hi : i + 6 ≤ L) (K : lw_K p l e s m below meth c b D dom ad cA cells slots Q (Rel (n + 1)) i)
    {h : q_H} {H : Heap} {locs : List Loc} {ls : Array Slot} (hR : Rel n h) (hP : va_P D vwCl (q_ws dom ad cA h) H) (hS : va_S (fun q => s.heap.size ≤ q) s.heap H locs) (hl : lv_has ls 4 [(0, .ref b), (1, .ref (ad (24, 6, 0))), (2, .ref (ad (30, 7, 0))), (3, .int (nI i))]) :
    W p l e room_1 s m #[Value.ref b] below meth c H locs cells slots Q (F0 m 284 ls []) := by
  obtain ⟨⟨hx, hb, hrt, hml, hown, hts, hX, hbl, hlocks, hgv⟩, hL, hC, hK, hXX, hXs, hE, hA, d24, d30, hcs, hsl⟩ := id C0
  have hbA : ¬ (fun q : Nat => s.heap.size ≤ q) b := Nat.not_le.mpr hbl
  obtain ⟨r, h1, h2, g1, g2, hR2⟩ := hst n h (xs (nI i + nI 1).toNatClampNeg) hn hR
  refine lv_aload_n hx hb dl_284 rfl (lv_at hl 1 rfl) ?_
  refine lv_aload_n hx hb dl_285 rfl (lv_at hl 0 rfl) ?_
  refine lv_iload_n hx hb dl_286 rfl (lv_at hl 3 rfl) ?_
  refine lv_iconst (v := nI 1) hx hb dl_287 rfl ?_
  refine lv_iadd hx hb dl_288 ?_
  refine va_sld hx hb hX hbl hbA hS (lw_in hL hi 1 (by omega)) dl_289 ?_
  refine lw_call C0 (mm := 7) (t := 24) (k := 6) (av := [.inl (xs (nI i + nI 1).toNatClampNeg)]) (rest := []) lw_l23 (by decide) (by decide) rfl rfl rfl d24 (fun v hv => by simp at hv; rcases hv with rfl <;> trivial) rfl (Nat.le_of_ble_eq_true rfl) (eRp_load (d := 11) (by omega) g1) hP hS hl.1 dl_290 (fun H1 locs1 hP1 hS1 => ?_)
  clear hP hS
  have hP := hP1; have hS := hS1
  refine lv_aload_n hx hb dl_293 rfl (lv_at hl 2 rfl) ?_
  refine lv_aload_n hx hb dl_294 rfl (lv_at hl 0 rfl) ?_
  refine lv_iload_n hx hb dl_295 rfl (lv_at hl 3 rfl) ?_
  refine lv_iconst (v := nI 1) hx hb dl_296 rfl ?_
  refine lv_iadd hx hb dl_297 ?_
  refine va_sld hx hb hX hbl hbA hS (lw_in hL hi 1 (by omega)) dl_298 ?_
  refine lw_call C0 (mm := 258) (t := 30) (k := 7) (av := [.inl (xs (nI i + nI 1).toNatClampNeg)]) (rest := [.int r]) lw_l27 (by decide) (by decide) rfl rfl rfl d30 (fun v hv => by simp at hv; rcases hv with rfl <;> trivial) rfl (Nat.le_of_ble_eq_true rfl) (eMo_load (d := 11) (by omega) g2) hP hS hl.1 dl_299 (fun H1 locs1 hP1 hS1 => ?_)
  clear hP hS
  have hP := hP1; have hS := hS1
  refine lv_icmp_eq (tgt := 1358) hx hb dl_302 (by decide) (fun _ => K _ _ _ _ hR2 hP hS hl) (fun c1 => absurd rfl c1)
/-- one call of fault and of the reference's: the same answer -/
def lw_S3 (Rel : Nat → q_H → Prop) : Prop := ∀ (n : Nat) (h : q_H) (a1 : Int32), n < 512 → Rel n h → ∃ (r : Int32) (h2 : q_H), Rp_fault a1 h = some r ∧ Mo_fault a1 h = some (r, h2) ∧ Rel (n + 1) h2
theorem lw_l28 : Cond.methodLink R_law 28 (q_y 8) ∈ lw_tblG := q_g4 (i := 193) rfl rfl
theorem lw_l31 : Cond.methodLink R_law 31 (q_y 259) ∈ lw_tblG := q_g7 (i := 140) rfl rfl
set_option maxHeartbeats 4000000 in
set_option maxRecDepth 100000 in
theorem lw_c3 {p : Program} {l : Launch} {e : Env} {s : State} {m : MethodId} {below : List Frame} {meth : Method} {c : Code} {b L : Nat} {xs : Nat → Int32} {D : va_G} {dom : List q_R} {ad : q_R → Nat} {cA : Nat → ClassId} {tys : List (ClassId × FieldType)} {A : Nat → Prop} {X : State → Prop} {cells slots : Nat} {Q : State → Prop} (C0 : lw_CX p l s m meth c b L xs D dom ad cA tys A X cells slots) {Rel : Nat → q_H → Prop} (hst : lw_S3 Rel) {n i : Nat} (hn : n < 512) (hi : i + 6 ≤ L) (K : lw_K p l e s m below meth c b D dom ad cA cells slots Q (Rel (n + 1)) i)
    {h : q_H} {H : Heap} {locs : List Loc} {ls : Array Slot} (hR : Rel n h) (hP : va_P D vwCl (q_ws dom ad cA h) H) (hS : va_S (fun q => s.heap.size ≤ q) s.heap H locs) (hl : lv_has ls 4 [(0, .ref b), (1, .ref (ad (24, 6, 0))), (2, .ref (ad (30, 7, 0))), (3, .int (nI i))]) :
    W p l e room_1 s m #[Value.ref b] below meth c H locs cells slots Q (F0 m 307 ls []) := by
  obtain ⟨⟨hx, hb, hrt, hml, hown, hts, hX, hbl, hlocks, hgv⟩, hL, hC, hK, hXX, hXs, hE, hA, d24, d30, hcs, hsl⟩ := id C0
  have hbA : ¬ (fun q : Nat => s.heap.size ≤ q) b := Nat.not_le.mpr hbl
  obtain ⟨r, h2, g1, g2, hR2⟩ := hst n h (xs (nI i + nI 1).toNatClampNeg) hn hR
  refine lv_aload_n hx hb dl_307 rfl (lv_at hl 1 rfl) ?_
  refine lv_aload_n hx hb dl_308 rfl (lv_at hl 0 rfl) ?_
  refine lv_iload_n hx hb dl_309 rfl (lv_at hl 3 rfl) ?_
  refine lv_iconst (v := nI 1) hx hb dl_310 rfl ?_
  refine lv_iadd hx hb dl_311 ?_
  refine va_sld hx hb hX hbl hbA hS (lw_in hL hi 1 (by omega)) dl_312 ?_
  refine lw_call C0 (mm := 8) (t := 24) (k := 6) (av := [.inl (xs (nI i + nI 1).toNatClampNeg)]) (rest := []) lw_l28 (by decide) (by decide) rfl rfl rfl d24 (fun v hv => by simp at hv; rcases hv with rfl <;> trivial) rfl (Nat.le_of_ble_eq_true rfl) (eRp_fault (d := 11) (by omega) g1) hP hS hl.1 dl_313 (fun H1 locs1 hP1 hS1 => ?_)
  clear hP hS
  have hP := hP1; have hS := hS1
  refine lv_aload_n hx hb dl_316 rfl (lv_at hl 2 rfl) ?_
  refine lv_aload_n hx hb dl_317 rfl (lv_at hl 0 rfl) ?_
  refine lv_iload_n hx hb dl_318 rfl (lv_at hl 3 rfl) ?_
  refine lv_iconst (v := nI 1) hx hb dl_319 rfl ?_
  refine lv_iadd hx hb dl_320 ?_
  refine va_sld hx hb hX hbl hbA hS (lw_in hL hi 1 (by omega)) dl_321 ?_
  refine lw_call C0 (mm := 259) (t := 30) (k := 7) (av := [.inl (xs (nI i + nI 1).toNatClampNeg)]) (rest := [.int r]) lw_l31 (by decide) (by decide) rfl rfl rfl d30 (fun v hv => by simp at hv; rcases hv with rfl <;> trivial) rfl (Nat.le_of_ble_eq_true rfl) (eMo_fault (d := 11) (by omega) g2) hP hS hl.1 dl_322 (fun H1 locs1 hP1 hS1 => ?_)
  clear hP hS
  have hP := hP1; have hS := hS1
  refine lv_icmp_eq (tgt := 1358) hx hb dl_325 (by decide) (fun _ => K _ _ _ _ hR2 hP hS hl) (fun c1 => absurd rfl c1)
/-- one call of many and of the reference's: the same answer -/
def lw_S4 (Rel : Nat → q_H → Prop) : Prop := ∀ (n : Nat) (h : q_H) (a1 : Int32), n < 512 → Rel n h → ∃ (r : Int32) (h1 : q_H) (h2 : q_H), Rp_many a1 h = some (r, h1) ∧ Mo_many a1 h1 = some (r, h2) ∧ Rel (n + 1) h2
theorem lw_l32 : Cond.methodLink R_law 32 (q_y 9) ∈ lw_tblG := q_g4 (i := 197) rfl rfl
theorem lw_l35 : Cond.methodLink R_law 35 (q_y 263) ∈ lw_tblG := q_g7 (i := 144) rfl rfl
set_option maxHeartbeats 4000000 in
set_option maxRecDepth 100000 in
theorem lw_c4 {p : Program} {l : Launch} {e : Env} {s : State} {m : MethodId} {below : List Frame} {meth : Method} {c : Code} {b L : Nat} {xs : Nat → Int32} {D : va_G} {dom : List q_R} {ad : q_R → Nat} {cA : Nat → ClassId} {tys : List (ClassId × FieldType)} {A : Nat → Prop} {X : State → Prop} {cells slots : Nat} {Q : State → Prop} (C0 : lw_CX p l s m meth c b L xs D dom ad cA tys A X cells slots) {Rel : Nat → q_H → Prop} (hst : lw_S4 Rel) {n i : Nat} (hn : n < 512) (hi : i + 6 ≤ L) (K : lw_K p l e s m below meth c b D dom ad cA cells slots Q (Rel (n + 1)) i)
    {h : q_H} {H : Heap} {locs : List Loc} {ls : Array Slot} (hR : Rel n h) (hP : va_P D vwCl (q_ws dom ad cA h) H) (hS : va_S (fun q => s.heap.size ≤ q) s.heap H locs) (hl : lv_has ls 4 [(0, .ref b), (1, .ref (ad (24, 6, 0))), (2, .ref (ad (30, 7, 0))), (3, .int (nI i))]) :
    W p l e room_1 s m #[Value.ref b] below meth c H locs cells slots Q (F0 m 330 ls []) := by
  obtain ⟨⟨hx, hb, hrt, hml, hown, hts, hX, hbl, hlocks, hgv⟩, hL, hC, hK, hXX, hXs, hE, hA, d24, d30, hcs, hsl⟩ := id C0
  have hbA : ¬ (fun q : Nat => s.heap.size ≤ q) b := Nat.not_le.mpr hbl
  obtain ⟨r, h1, h2, g1, g2, hR2⟩ := hst n h (xs (nI i + nI 1).toNatClampNeg) hn hR
  refine lv_aload_n hx hb dl_330 rfl (lv_at hl 1 rfl) ?_
  refine lv_aload_n hx hb dl_331 rfl (lv_at hl 0 rfl) ?_
  refine lv_iload_n hx hb dl_332 rfl (lv_at hl 3 rfl) ?_
  refine lv_iconst (v := nI 1) hx hb dl_333 rfl ?_
  refine lv_iadd hx hb dl_334 ?_
  refine va_sld hx hb hX hbl hbA hS (lw_in hL hi 1 (by omega)) dl_335 ?_
  refine lw_call C0 (mm := 9) (t := 24) (k := 6) (av := [.inl (xs (nI i + nI 1).toNatClampNeg)]) (rest := []) lw_l32 (by decide) (by decide) rfl rfl rfl d24 (fun v hv => by simp at hv; rcases hv with rfl <;> trivial) rfl (Nat.le_of_ble_eq_true rfl) (eRp_many (d := 11) (by omega) g1) hP hS hl.1 dl_336 (fun H1 locs1 hP1 hS1 => ?_)
  clear hP hS
  have hP := hP1; have hS := hS1
  refine lv_aload_n hx hb dl_339 rfl (lv_at hl 2 rfl) ?_
  refine lv_aload_n hx hb dl_340 rfl (lv_at hl 0 rfl) ?_
  refine lv_iload_n hx hb dl_341 rfl (lv_at hl 3 rfl) ?_
  refine lv_iconst (v := nI 1) hx hb dl_342 rfl ?_
  refine lv_iadd hx hb dl_343 ?_
  refine va_sld hx hb hX hbl hbA hS (lw_in hL hi 1 (by omega)) dl_344 ?_
  refine lw_call C0 (mm := 263) (t := 30) (k := 7) (av := [.inl (xs (nI i + nI 1).toNatClampNeg)]) (rest := [.int r]) lw_l35 (by decide) (by decide) rfl rfl rfl d30 (fun v hv => by simp at hv; rcases hv with rfl <;> trivial) rfl (Nat.le_of_ble_eq_true rfl) (eMo_many (d := 11) (by omega) g2) hP hS hl.1 dl_345 (fun H1 locs1 hP1 hS1 => ?_)
  clear hP hS
  have hP := hP1; have hS := hS1
  refine lv_icmp_eq (tgt := 1358) hx hb dl_348 (by decide) (fun _ => K _ _ _ _ hR2 hP hS hl) (fun c1 => absurd rfl c1)
/-- one call of counts and of the reference's: the same answer -/
def lw_S5 (Rel : Nat → q_H → Prop) : Prop := ∀ (n : Nat) (h : q_H) (a1 : Int32), n < 512 → Rel n h → ∃ (r : Int32) (h1 : q_H) (h2 : q_H), Rp_counts a1 h = some (r, h1) ∧ Mo_counts a1 h1 = some (r, h2) ∧ Rel (n + 1) h2
theorem lw_l36 : Cond.methodLink R_law 36 (q_y 10) ∈ lw_tblG := q_g4 (i := 221) rfl rfl
theorem lw_l39 : Cond.methodLink R_law 39 (q_y 264) ∈ lw_tblG := q_g7 (i := 164) rfl rfl
set_option maxHeartbeats 4000000 in
set_option maxRecDepth 100000 in
theorem lw_c5 {p : Program} {l : Launch} {e : Env} {s : State} {m : MethodId} {below : List Frame} {meth : Method} {c : Code} {b L : Nat} {xs : Nat → Int32} {D : va_G} {dom : List q_R} {ad : q_R → Nat} {cA : Nat → ClassId} {tys : List (ClassId × FieldType)} {A : Nat → Prop} {X : State → Prop} {cells slots : Nat} {Q : State → Prop} (C0 : lw_CX p l s m meth c b L xs D dom ad cA tys A X cells slots) {Rel : Nat → q_H → Prop} (hst : lw_S5 Rel) {n i : Nat} (hn : n < 512) (hi : i + 6 ≤ L) (K : lw_K p l e s m below meth c b D dom ad cA cells slots Q (Rel (n + 1)) i)
    {h : q_H} {H : Heap} {locs : List Loc} {ls : Array Slot} (hR : Rel n h) (hP : va_P D vwCl (q_ws dom ad cA h) H) (hS : va_S (fun q => s.heap.size ≤ q) s.heap H locs) (hl : lv_has ls 4 [(0, .ref b), (1, .ref (ad (24, 6, 0))), (2, .ref (ad (30, 7, 0))), (3, .int (nI i))]) :
    W p l e room_1 s m #[Value.ref b] below meth c H locs cells slots Q (F0 m 353 ls []) := by
  obtain ⟨⟨hx, hb, hrt, hml, hown, hts, hX, hbl, hlocks, hgv⟩, hL, hC, hK, hXX, hXs, hE, hA, d24, d30, hcs, hsl⟩ := id C0
  have hbA : ¬ (fun q : Nat => s.heap.size ≤ q) b := Nat.not_le.mpr hbl
  obtain ⟨r, h1, h2, g1, g2, hR2⟩ := hst n h (xs (nI i + nI 1).toNatClampNeg) hn hR
  refine lv_aload_n hx hb dl_353 rfl (lv_at hl 1 rfl) ?_
  refine lv_aload_n hx hb dl_354 rfl (lv_at hl 0 rfl) ?_
  refine lv_iload_n hx hb dl_355 rfl (lv_at hl 3 rfl) ?_
  refine lv_iconst (v := nI 1) hx hb dl_356 rfl ?_
  refine lv_iadd hx hb dl_357 ?_
  refine va_sld hx hb hX hbl hbA hS (lw_in hL hi 1 (by omega)) dl_358 ?_
  refine lw_call C0 (mm := 10) (t := 24) (k := 6) (av := [.inl (xs (nI i + nI 1).toNatClampNeg)]) (rest := []) lw_l36 (by decide) (by decide) rfl rfl rfl d24 (fun v hv => by simp at hv; rcases hv with rfl <;> trivial) rfl (Nat.le_of_ble_eq_true rfl) (eRp_counts (d := 11) (by omega) g1) hP hS hl.1 dl_359 (fun H1 locs1 hP1 hS1 => ?_)
  clear hP hS
  have hP := hP1; have hS := hS1
  refine lv_aload_n hx hb dl_362 rfl (lv_at hl 2 rfl) ?_
  refine lv_aload_n hx hb dl_363 rfl (lv_at hl 0 rfl) ?_
  refine lv_iload_n hx hb dl_364 rfl (lv_at hl 3 rfl) ?_
  refine lv_iconst (v := nI 1) hx hb dl_365 rfl ?_
  refine lv_iadd hx hb dl_366 ?_
  refine va_sld hx hb hX hbl hbA hS (lw_in hL hi 1 (by omega)) dl_367 ?_
  refine lw_call C0 (mm := 264) (t := 30) (k := 7) (av := [.inl (xs (nI i + nI 1).toNatClampNeg)]) (rest := [.int r]) lw_l39 (by decide) (by decide) rfl rfl rfl d30 (fun v hv => by simp at hv; rcases hv with rfl <;> trivial) rfl (Nat.le_of_ble_eq_true rfl) (eMo_counts (d := 11) (by omega) g2) hP hS hl.1 dl_368 (fun H1 locs1 hP1 hS1 => ?_)
  clear hP hS
  have hP := hP1; have hS := hS1
  refine lv_icmp_eq (tgt := 1358) hx hb dl_371 (by decide) (fun _ => K _ _ _ _ hR2 hP hS hl) (fun c1 => absurd rfl c1)
/-- one call of page and of the reference's: the same answer -/
def lw_S6 (Rel : Nat → q_H → Prop) : Prop := ∀ (n : Nat) (h : q_H) (a1 a2 : Int32), n < 512 → Rel n h → ∃ (r : Int32) (h1 : q_H) (h2 : q_H), Rp_page a1 a2 h = some (r, h1) ∧ Mo_page a1 a2 h1 = some (r, h2) ∧ Rel (n + 1) h2
theorem lw_l40 : Cond.methodLink R_law 40 (q_y 11) ∈ lw_tblG := q_g4 (i := 229) rfl rfl
theorem lw_l44 : Cond.methodLink R_law 44 (q_y 268) ∈ lw_tblG := q_g7 (i := 168) rfl rfl
set_option maxHeartbeats 4000000 in
set_option maxRecDepth 100000 in
theorem lw_c6 {p : Program} {l : Launch} {e : Env} {s : State} {m : MethodId} {below : List Frame} {meth : Method} {c : Code} {b L : Nat} {xs : Nat → Int32} {D : va_G} {dom : List q_R} {ad : q_R → Nat} {cA : Nat → ClassId} {tys : List (ClassId × FieldType)} {A : Nat → Prop} {X : State → Prop} {cells slots : Nat} {Q : State → Prop} (C0 : lw_CX p l s m meth c b L xs D dom ad cA tys A X cells slots) {Rel : Nat → q_H → Prop} (hst : lw_S6 Rel) {n i : Nat} (hn : n < 512) (hi : i + 6 ≤ L) (K : lw_K p l e s m below meth c b D dom ad cA cells slots Q (Rel (n + 1)) i)
    {h : q_H} {H : Heap} {locs : List Loc} {ls : Array Slot} (hR : Rel n h) (hP : va_P D vwCl (q_ws dom ad cA h) H) (hS : va_S (fun q => s.heap.size ≤ q) s.heap H locs) (hl : lv_has ls 4 [(0, .ref b), (1, .ref (ad (24, 6, 0))), (2, .ref (ad (30, 7, 0))), (3, .int (nI i))]) :
    W p l e room_1 s m #[Value.ref b] below meth c H locs cells slots Q (F0 m 376 ls []) := by
  obtain ⟨⟨hx, hb, hrt, hml, hown, hts, hX, hbl, hlocks, hgv⟩, hL, hC, hK, hXX, hXs, hE, hA, d24, d30, hcs, hsl⟩ := id C0
  have hbA : ¬ (fun q : Nat => s.heap.size ≤ q) b := Nat.not_le.mpr hbl
  obtain ⟨r, h1, h2, g1, g2, hR2⟩ := hst n h (xs (nI i + nI 1).toNatClampNeg) (xs (nI i + nI 2).toNatClampNeg) hn hR
  refine lv_aload_n hx hb dl_376 rfl (lv_at hl 1 rfl) ?_
  refine lv_aload_n hx hb dl_377 rfl (lv_at hl 0 rfl) ?_
  refine lv_iload_n hx hb dl_378 rfl (lv_at hl 3 rfl) ?_
  refine lv_iconst (v := nI 1) hx hb dl_379 rfl ?_
  refine lv_iadd hx hb dl_380 ?_
  refine va_sld hx hb hX hbl hbA hS (lw_in hL hi 1 (by omega)) dl_381 ?_
  refine lv_aload_n hx hb dl_382 rfl (lv_at hl 0 rfl) ?_
  refine lv_iload_n hx hb dl_383 rfl (lv_at hl 3 rfl) ?_
  refine lv_iconst (v := nI 2) hx hb dl_384 rfl ?_
  refine lv_iadd hx hb dl_385 ?_
  refine va_sld hx hb hX hbl hbA hS (lw_in hL hi 2 (by omega)) dl_386 ?_
  refine lw_call C0 (mm := 11) (t := 24) (k := 6) (av := [.inl (xs (nI i + nI 1).toNatClampNeg), .inl (xs (nI i + nI 2).toNatClampNeg)]) (rest := []) lw_l40 (by decide) (by decide) rfl rfl rfl d24 (fun v hv => by simp at hv; rcases hv with rfl | rfl <;> trivial) rfl (Nat.le_of_ble_eq_true rfl) (eRp_page (d := 11) (by omega) g1) hP hS hl.1 dl_387 (fun H1 locs1 hP1 hS1 => ?_)
  clear hP hS
  have hP := hP1; have hS := hS1
  refine lv_aload_n hx hb dl_390 rfl (lv_at hl 2 rfl) ?_
  refine lv_aload_n hx hb dl_391 rfl (lv_at hl 0 rfl) ?_
  refine lv_iload_n hx hb dl_392 rfl (lv_at hl 3 rfl) ?_
  refine lv_iconst (v := nI 1) hx hb dl_393 rfl ?_
  refine lv_iadd hx hb dl_394 ?_
  refine va_sld hx hb hX hbl hbA hS (lw_in hL hi 1 (by omega)) dl_395 ?_
  refine lv_aload_n hx hb dl_396 rfl (lv_at hl 0 rfl) ?_
  refine lv_iload_n hx hb dl_397 rfl (lv_at hl 3 rfl) ?_
  refine lv_iconst (v := nI 2) hx hb dl_398 rfl ?_
  refine lv_iadd hx hb dl_399 ?_
  refine va_sld hx hb hX hbl hbA hS (lw_in hL hi 2 (by omega)) dl_400 ?_
  refine lw_call C0 (mm := 268) (t := 30) (k := 7) (av := [.inl (xs (nI i + nI 1).toNatClampNeg), .inl (xs (nI i + nI 2).toNatClampNeg)]) (rest := [.int r]) lw_l44 (by decide) (by decide) rfl rfl rfl d30 (fun v hv => by simp at hv; rcases hv with rfl | rfl <;> trivial) rfl (Nat.le_of_ble_eq_true rfl) (eMo_page (d := 11) (by omega) g2) hP hS hl.1 dl_401 (fun H1 locs1 hP1 hS1 => ?_)
  clear hP hS
  have hP := hP1; have hS := hS1
  refine lv_icmp_eq (tgt := 1358) hx hb dl_404 (by decide) (fun _ => K _ _ _ _ hR2 hP hS hl) (fun c1 => absurd rfl c1)
/-- one call of slot and of the reference's: the same answer -/
def lw_S7 (Rel : Nat → q_H → Prop) : Prop := ∀ (n : Nat) (h : q_H) (a1 a2 a3 : Int32), n < 512 → Rel n h → ∃ (r : Int32) (h1 : q_H) (h2 : q_H), Rp_slot a1 a2 a3 h = some (r, h1) ∧ Mo_slot a1 a2 a3 h1 = some (r, h2) ∧ Rel (n + 1) h2
theorem lw_l45 : Cond.methodLink R_law 45 (q_y 12) ∈ lw_tblG := q_g5 (i := 4) rfl rfl
theorem lw_l49 : Cond.methodLink R_law 49 (q_y 270) ∈ lw_tblG := q_g7 (i := 183) rfl rfl
set_option maxHeartbeats 4000000 in
set_option maxRecDepth 100000 in
theorem lw_c7 {p : Program} {l : Launch} {e : Env} {s : State} {m : MethodId} {below : List Frame} {meth : Method} {c : Code} {b L : Nat} {xs : Nat → Int32} {D : va_G} {dom : List q_R} {ad : q_R → Nat} {cA : Nat → ClassId} {tys : List (ClassId × FieldType)} {A : Nat → Prop} {X : State → Prop} {cells slots : Nat} {Q : State → Prop} (C0 : lw_CX p l s m meth c b L xs D dom ad cA tys A X cells slots) {Rel : Nat → q_H → Prop} (hst : lw_S7 Rel) {n i : Nat} (hn : n < 512) (hi : i + 6 ≤ L) (K : lw_K p l e s m below meth c b D dom ad cA cells slots Q (Rel (n + 1)) i)
    {h : q_H} {H : Heap} {locs : List Loc} {ls : Array Slot} (hR : Rel n h) (hP : va_P D vwCl (q_ws dom ad cA h) H) (hS : va_S (fun q => s.heap.size ≤ q) s.heap H locs) (hl : lv_has ls 4 [(0, .ref b), (1, .ref (ad (24, 6, 0))), (2, .ref (ad (30, 7, 0))), (3, .int (nI i))]) :
    W p l e room_1 s m #[Value.ref b] below meth c H locs cells slots Q (F0 m 409 ls []) := by
  obtain ⟨⟨hx, hb, hrt, hml, hown, hts, hX, hbl, hlocks, hgv⟩, hL, hC, hK, hXX, hXs, hE, hA, d24, d30, hcs, hsl⟩ := id C0
  have hbA : ¬ (fun q : Nat => s.heap.size ≤ q) b := Nat.not_le.mpr hbl
  obtain ⟨r, h1, h2, g1, g2, hR2⟩ := hst n h (xs (nI i + nI 1).toNatClampNeg) (xs (nI i + nI 2).toNatClampNeg) (xs (nI i + nI 3).toNatClampNeg) hn hR
  refine lv_aload_n hx hb dl_409 rfl (lv_at hl 1 rfl) ?_
  refine lv_aload_n hx hb dl_410 rfl (lv_at hl 0 rfl) ?_
  refine lv_iload_n hx hb dl_411 rfl (lv_at hl 3 rfl) ?_
  refine lv_iconst (v := nI 1) hx hb dl_412 rfl ?_
  refine lv_iadd hx hb dl_413 ?_
  refine va_sld hx hb hX hbl hbA hS (lw_in hL hi 1 (by omega)) dl_414 ?_
  refine lv_aload_n hx hb dl_415 rfl (lv_at hl 0 rfl) ?_
  refine lv_iload_n hx hb dl_416 rfl (lv_at hl 3 rfl) ?_
  refine lv_iconst (v := nI 2) hx hb dl_417 rfl ?_
  refine lv_iadd hx hb dl_418 ?_
  refine va_sld hx hb hX hbl hbA hS (lw_in hL hi 2 (by omega)) dl_419 ?_
  refine lv_aload_n hx hb dl_420 rfl (lv_at hl 0 rfl) ?_
  refine lv_iload_n hx hb dl_421 rfl (lv_at hl 3 rfl) ?_
  refine lv_iconst (v := nI 3) hx hb dl_422 rfl ?_
  refine lv_iadd hx hb dl_423 ?_
  refine va_sld hx hb hX hbl hbA hS (lw_in hL hi 3 (by omega)) dl_424 ?_
  refine lw_call C0 (mm := 12) (t := 24) (k := 6) (av := [.inl (xs (nI i + nI 1).toNatClampNeg), .inl (xs (nI i + nI 2).toNatClampNeg), .inl (xs (nI i + nI 3).toNatClampNeg)]) (rest := []) lw_l45 (by decide) (by decide) rfl rfl rfl d24 (fun v hv => by simp at hv; rcases hv with rfl | rfl | rfl <;> trivial) rfl (Nat.le_of_ble_eq_true rfl) (eRp_slot (d := 11) (by omega) g1) hP hS hl.1 dl_425 (fun H1 locs1 hP1 hS1 => ?_)
  clear hP hS
  have hP := hP1; have hS := hS1
  refine lv_aload_n hx hb dl_428 rfl (lv_at hl 2 rfl) ?_
  refine lv_aload_n hx hb dl_429 rfl (lv_at hl 0 rfl) ?_
  refine lv_iload_n hx hb dl_430 rfl (lv_at hl 3 rfl) ?_
  refine lv_iconst (v := nI 1) hx hb dl_431 rfl ?_
  refine lv_iadd hx hb dl_432 ?_
  refine va_sld hx hb hX hbl hbA hS (lw_in hL hi 1 (by omega)) dl_433 ?_
  refine lv_aload_n hx hb dl_434 rfl (lv_at hl 0 rfl) ?_
  refine lv_iload_n hx hb dl_435 rfl (lv_at hl 3 rfl) ?_
  refine lv_iconst (v := nI 2) hx hb dl_436 rfl ?_
  refine lv_iadd hx hb dl_437 ?_
  refine va_sld hx hb hX hbl hbA hS (lw_in hL hi 2 (by omega)) dl_438 ?_
  refine lv_aload_n hx hb dl_439 rfl (lv_at hl 0 rfl) ?_
  refine lv_iload_n hx hb dl_440 rfl (lv_at hl 3 rfl) ?_
  refine lv_iconst (v := nI 3) hx hb dl_441 rfl ?_
  refine lv_iadd hx hb dl_442 ?_
  refine va_sld hx hb hX hbl hbA hS (lw_in hL hi 3 (by omega)) dl_443 ?_
  refine lw_call C0 (mm := 270) (t := 30) (k := 7) (av := [.inl (xs (nI i + nI 1).toNatClampNeg), .inl (xs (nI i + nI 2).toNatClampNeg), .inl (xs (nI i + nI 3).toNatClampNeg)]) (rest := [.int r]) lw_l49 (by decide) (by decide) rfl rfl rfl d30 (fun v hv => by simp at hv; rcases hv with rfl | rfl | rfl <;> trivial) rfl (Nat.le_of_ble_eq_true rfl) (eMo_slot (d := 11) (by omega) g2) hP hS hl.1 dl_444 (fun H1 locs1 hP1 hS1 => ?_)
  clear hP hS
  have hP := hP1; have hS := hS1
  refine lv_icmp_eq (tgt := 1358) hx hb dl_447 (by decide) (fun _ => K _ _ _ _ hR2 hP hS hl) (fun c1 => absurd rfl c1)
/-- one call of version and of the reference's: the same answer -/
def lw_S8 (Rel : Nat → q_H → Prop) : Prop := ∀ (n : Nat) (h : q_H) (a1 a2 a3 : Int32), n < 512 → Rel n h → ∃ (r : Int32) (h1 : q_H) (h2 : q_H), Rp_version a1 a2 a3 h = some (r, h1) ∧ Mo_version a1 a2 a3 h1 = some (r, h2) ∧ Rel (n + 1) h2
theorem lw_l50 : Cond.methodLink R_law 50 (q_y 13) ∈ lw_tblG := q_g5 (i := 22) rfl rfl
theorem lw_l53 : Cond.methodLink R_law 53 (q_y 271) ∈ lw_tblG := q_g7 (i := 199) rfl rfl
set_option maxHeartbeats 4000000 in
set_option maxRecDepth 100000 in
theorem lw_c8 {p : Program} {l : Launch} {e : Env} {s : State} {m : MethodId} {below : List Frame} {meth : Method} {c : Code} {b L : Nat} {xs : Nat → Int32} {D : va_G} {dom : List q_R} {ad : q_R → Nat} {cA : Nat → ClassId} {tys : List (ClassId × FieldType)} {A : Nat → Prop} {X : State → Prop} {cells slots : Nat} {Q : State → Prop} (C0 : lw_CX p l s m meth c b L xs D dom ad cA tys A X cells slots) {Rel : Nat → q_H → Prop} (hst : lw_S8 Rel) {n i : Nat} (hn : n < 512) (hi : i + 6 ≤ L) (K : lw_K p l e s m below meth c b D dom ad cA cells slots Q (Rel (n + 1)) i)
    {h : q_H} {H : Heap} {locs : List Loc} {ls : Array Slot} (hR : Rel n h) (hP : va_P D vwCl (q_ws dom ad cA h) H) (hS : va_S (fun q => s.heap.size ≤ q) s.heap H locs) (hl : lv_has ls 4 [(0, .ref b), (1, .ref (ad (24, 6, 0))), (2, .ref (ad (30, 7, 0))), (3, .int (nI i))]) :
    W p l e room_1 s m #[Value.ref b] below meth c H locs cells slots Q (F0 m 452 ls []) := by
  obtain ⟨⟨hx, hb, hrt, hml, hown, hts, hX, hbl, hlocks, hgv⟩, hL, hC, hK, hXX, hXs, hE, hA, d24, d30, hcs, hsl⟩ := id C0
  have hbA : ¬ (fun q : Nat => s.heap.size ≤ q) b := Nat.not_le.mpr hbl
  obtain ⟨r, h1, h2, g1, g2, hR2⟩ := hst n h (xs (nI i + nI 1).toNatClampNeg) (xs (nI i + nI 2).toNatClampNeg) (xs (nI i + nI 3).toNatClampNeg) hn hR
  refine lv_aload_n hx hb dl_452 rfl (lv_at hl 1 rfl) ?_
  refine lv_aload_n hx hb dl_453 rfl (lv_at hl 0 rfl) ?_
  refine lv_iload_n hx hb dl_454 rfl (lv_at hl 3 rfl) ?_
  refine lv_iconst (v := nI 1) hx hb dl_455 rfl ?_
  refine lv_iadd hx hb dl_456 ?_
  refine va_sld hx hb hX hbl hbA hS (lw_in hL hi 1 (by omega)) dl_457 ?_
  refine lv_aload_n hx hb dl_458 rfl (lv_at hl 0 rfl) ?_
  refine lv_iload_n hx hb dl_459 rfl (lv_at hl 3 rfl) ?_
  refine lv_iconst (v := nI 2) hx hb dl_460 rfl ?_
  refine lv_iadd hx hb dl_461 ?_
  refine va_sld hx hb hX hbl hbA hS (lw_in hL hi 2 (by omega)) dl_462 ?_
  refine lv_aload_n hx hb dl_463 rfl (lv_at hl 0 rfl) ?_
  refine lv_iload_n hx hb dl_464 rfl (lv_at hl 3 rfl) ?_
  refine lv_iconst (v := nI 3) hx hb dl_465 rfl ?_
  refine lv_iadd hx hb dl_466 ?_
  refine va_sld hx hb hX hbl hbA hS (lw_in hL hi 3 (by omega)) dl_467 ?_
  refine lw_call C0 (mm := 13) (t := 24) (k := 6) (av := [.inl (xs (nI i + nI 1).toNatClampNeg), .inl (xs (nI i + nI 2).toNatClampNeg), .inl (xs (nI i + nI 3).toNatClampNeg)]) (rest := []) lw_l50 (by decide) (by decide) rfl rfl rfl d24 (fun v hv => by simp at hv; rcases hv with rfl | rfl | rfl <;> trivial) rfl (Nat.le_of_ble_eq_true rfl) (eRp_version (d := 11) (by omega) g1) hP hS hl.1 dl_468 (fun H1 locs1 hP1 hS1 => ?_)
  clear hP hS
  have hP := hP1; have hS := hS1
  refine lv_aload_n hx hb dl_471 rfl (lv_at hl 2 rfl) ?_
  refine lv_aload_n hx hb dl_472 rfl (lv_at hl 0 rfl) ?_
  refine lv_iload_n hx hb dl_473 rfl (lv_at hl 3 rfl) ?_
  refine lv_iconst (v := nI 1) hx hb dl_474 rfl ?_
  refine lv_iadd hx hb dl_475 ?_
  refine va_sld hx hb hX hbl hbA hS (lw_in hL hi 1 (by omega)) dl_476 ?_
  refine lv_aload_n hx hb dl_477 rfl (lv_at hl 0 rfl) ?_
  refine lv_iload_n hx hb dl_478 rfl (lv_at hl 3 rfl) ?_
  refine lv_iconst (v := nI 2) hx hb dl_479 rfl ?_
  refine lv_iadd hx hb dl_480 ?_
  refine va_sld hx hb hX hbl hbA hS (lw_in hL hi 2 (by omega)) dl_481 ?_
  refine lv_aload_n hx hb dl_482 rfl (lv_at hl 0 rfl) ?_
  refine lv_iload_n hx hb dl_483 rfl (lv_at hl 3 rfl) ?_
  refine lv_iconst (v := nI 3) hx hb dl_484 rfl ?_
  refine lv_iadd hx hb dl_485 ?_
  refine va_sld hx hb hX hbl hbA hS (lw_in hL hi 3 (by omega)) dl_486 ?_
  refine lw_call C0 (mm := 271) (t := 30) (k := 7) (av := [.inl (xs (nI i + nI 1).toNatClampNeg), .inl (xs (nI i + nI 2).toNatClampNeg), .inl (xs (nI i + nI 3).toNatClampNeg)]) (rest := [.int r]) lw_l53 (by decide) (by decide) rfl rfl rfl d30 (fun v hv => by simp at hv; rcases hv with rfl | rfl | rfl <;> trivial) rfl (Nat.le_of_ble_eq_true rfl) (eMo_version (d := 11) (by omega) g2) hP hS hl.1 dl_487 (fun H1 locs1 hP1 hS1 => ?_)
  clear hP hS
  have hP := hP1; have hS := hS1
  refine lv_icmp_eq (tgt := 1358) hx hb dl_490 (by decide) (fun _ => K _ _ _ _ hR2 hP hS hl) (fun c1 => absurd rfl c1)
/-- one call of entry and of the reference's: the same answer -/
def lw_S9 (Rel : Nat → q_H → Prop) : Prop := ∀ (n : Nat) (h : q_H) (a1 a2 : Int32), n < 512 → Rel n h → ∃ (r : Int32) (h1 : q_H) (h2 : q_H), Rp_entry a1 a2 h = some (r, h1) ∧ Mo_entry a1 a2 h1 = some (r, h2) ∧ Rel (n + 1) h2
theorem lw_l54 : Cond.methodLink R_law 54 (q_y 14) ∈ lw_tblG := q_g5 (i := 36) rfl rfl
theorem lw_l57 : Cond.methodLink R_law 57 (q_y 272) ∈ lw_tblG := q_g7 (i := 203) rfl rfl
set_option maxHeartbeats 4000000 in
set_option maxRecDepth 100000 in
theorem lw_c9 {p : Program} {l : Launch} {e : Env} {s : State} {m : MethodId} {below : List Frame} {meth : Method} {c : Code} {b L : Nat} {xs : Nat → Int32} {D : va_G} {dom : List q_R} {ad : q_R → Nat} {cA : Nat → ClassId} {tys : List (ClassId × FieldType)} {A : Nat → Prop} {X : State → Prop} {cells slots : Nat} {Q : State → Prop} (C0 : lw_CX p l s m meth c b L xs D dom ad cA tys A X cells slots) {Rel : Nat → q_H → Prop} (hst : lw_S9 Rel) {n i : Nat} (hn : n < 512) (hi : i + 6 ≤ L) (K : lw_K p l e s m below meth c b D dom ad cA cells slots Q (Rel (n + 1)) i)
    {h : q_H} {H : Heap} {locs : List Loc} {ls : Array Slot} (hR : Rel n h) (hP : va_P D vwCl (q_ws dom ad cA h) H) (hS : va_S (fun q => s.heap.size ≤ q) s.heap H locs) (hl : lv_has ls 4 [(0, .ref b), (1, .ref (ad (24, 6, 0))), (2, .ref (ad (30, 7, 0))), (3, .int (nI i))]) :
    W p l e room_1 s m #[Value.ref b] below meth c H locs cells slots Q (F0 m 495 ls []) := by
  obtain ⟨⟨hx, hb, hrt, hml, hown, hts, hX, hbl, hlocks, hgv⟩, hL, hC, hK, hXX, hXs, hE, hA, d24, d30, hcs, hsl⟩ := id C0
  have hbA : ¬ (fun q : Nat => s.heap.size ≤ q) b := Nat.not_le.mpr hbl
  obtain ⟨r, h1, h2, g1, g2, hR2⟩ := hst n h (xs (nI i + nI 1).toNatClampNeg) (xs (nI i + nI 2).toNatClampNeg) hn hR
  refine lv_aload_n hx hb dl_495 rfl (lv_at hl 1 rfl) ?_
  refine lv_aload_n hx hb dl_496 rfl (lv_at hl 0 rfl) ?_
  refine lv_iload_n hx hb dl_497 rfl (lv_at hl 3 rfl) ?_
  refine lv_iconst (v := nI 1) hx hb dl_498 rfl ?_
  refine lv_iadd hx hb dl_499 ?_
  refine va_sld hx hb hX hbl hbA hS (lw_in hL hi 1 (by omega)) dl_500 ?_
  refine lv_aload_n hx hb dl_501 rfl (lv_at hl 0 rfl) ?_
  refine lv_iload_n hx hb dl_502 rfl (lv_at hl 3 rfl) ?_
  refine lv_iconst (v := nI 2) hx hb dl_503 rfl ?_
  refine lv_iadd hx hb dl_504 ?_
  refine va_sld hx hb hX hbl hbA hS (lw_in hL hi 2 (by omega)) dl_505 ?_
  refine lw_call C0 (mm := 14) (t := 24) (k := 6) (av := [.inl (xs (nI i + nI 1).toNatClampNeg), .inl (xs (nI i + nI 2).toNatClampNeg)]) (rest := []) lw_l54 (by decide) (by decide) rfl rfl rfl d24 (fun v hv => by simp at hv; rcases hv with rfl | rfl <;> trivial) rfl (Nat.le_of_ble_eq_true rfl) (eRp_entry (d := 11) (by omega) g1) hP hS hl.1 dl_506 (fun H1 locs1 hP1 hS1 => ?_)
  clear hP hS
  have hP := hP1; have hS := hS1
  refine lv_aload_n hx hb dl_509 rfl (lv_at hl 2 rfl) ?_
  refine lv_aload_n hx hb dl_510 rfl (lv_at hl 0 rfl) ?_
  refine lv_iload_n hx hb dl_511 rfl (lv_at hl 3 rfl) ?_
  refine lv_iconst (v := nI 1) hx hb dl_512 rfl ?_
  refine lv_iadd hx hb dl_513 ?_
  refine va_sld hx hb hX hbl hbA hS (lw_in hL hi 1 (by omega)) dl_514 ?_
  refine lv_aload_n hx hb dl_515 rfl (lv_at hl 0 rfl) ?_
  refine lv_iload_n hx hb dl_516 rfl (lv_at hl 3 rfl) ?_
  refine lv_iconst (v := nI 2) hx hb dl_517 rfl ?_
  refine lv_iadd hx hb dl_518 ?_
  refine va_sld hx hb hX hbl hbA hS (lw_in hL hi 2 (by omega)) dl_519 ?_
  refine lw_call C0 (mm := 272) (t := 30) (k := 7) (av := [.inl (xs (nI i + nI 1).toNatClampNeg), .inl (xs (nI i + nI 2).toNatClampNeg)]) (rest := [.int r]) lw_l57 (by decide) (by decide) rfl rfl rfl d30 (fun v hv => by simp at hv; rcases hv with rfl | rfl <;> trivial) rfl (Nat.le_of_ble_eq_true rfl) (eMo_entry (d := 11) (by omega) g2) hP hS hl.1 dl_520 (fun H1 locs1 hP1 hS1 => ?_)
  clear hP hS
  have hP := hP1; have hS := hS1
  refine lv_icmp_eq (tgt := 1358) hx hb dl_523 (by decide) (fun _ => K _ _ _ _ hR2 hP hS hl) (fun c1 => absurd rfl c1)
/-- one call of txn and of the reference's: the same answer -/
def lw_S10 (Rel : Nat → q_H → Prop) : Prop := ∀ (n : Nat) (h : q_H) (a1 a2 : Int32), n < 512 → Rel n h → ∃ (r : Int32) (h1 : q_H) (h2 : q_H), Rp_txn a1 a2 h = some (r, h1) ∧ Mo_txn a1 a2 h1 = some (r, h2) ∧ Rel (n + 1) h2
theorem lw_l58 : Cond.methodLink R_law 58 (q_y 15) ∈ lw_tblG := q_g5 (i := 43) rfl rfl
theorem lw_l61 : Cond.methodLink R_law 61 (q_y 274) ∈ lw_tblG := q_g7 (i := 207) rfl rfl
set_option maxHeartbeats 4000000 in
set_option maxRecDepth 100000 in
theorem lw_c10 {p : Program} {l : Launch} {e : Env} {s : State} {m : MethodId} {below : List Frame} {meth : Method} {c : Code} {b L : Nat} {xs : Nat → Int32} {D : va_G} {dom : List q_R} {ad : q_R → Nat} {cA : Nat → ClassId} {tys : List (ClassId × FieldType)} {A : Nat → Prop} {X : State → Prop} {cells slots : Nat} {Q : State → Prop} (C0 : lw_CX p l s m meth c b L xs D dom ad cA tys A X cells slots) {Rel : Nat → q_H → Prop} (hst : lw_S10 Rel) {n i : Nat} (hn : n < 512) (hi : i + 6 ≤ L) (K : lw_K p l e s m below meth c b D dom ad cA cells slots Q (Rel (n + 1)) i)
    {h : q_H} {H : Heap} {locs : List Loc} {ls : Array Slot} (hR : Rel n h) (hP : va_P D vwCl (q_ws dom ad cA h) H) (hS : va_S (fun q => s.heap.size ≤ q) s.heap H locs) (hl : lv_has ls 4 [(0, .ref b), (1, .ref (ad (24, 6, 0))), (2, .ref (ad (30, 7, 0))), (3, .int (nI i))]) :
    W p l e room_1 s m #[Value.ref b] below meth c H locs cells slots Q (F0 m 528 ls []) := by
  obtain ⟨⟨hx, hb, hrt, hml, hown, hts, hX, hbl, hlocks, hgv⟩, hL, hC, hK, hXX, hXs, hE, hA, d24, d30, hcs, hsl⟩ := id C0
  have hbA : ¬ (fun q : Nat => s.heap.size ≤ q) b := Nat.not_le.mpr hbl
  obtain ⟨r, h1, h2, g1, g2, hR2⟩ := hst n h (xs (nI i + nI 1).toNatClampNeg) (xs (nI i + nI 2).toNatClampNeg) hn hR
  refine lv_aload_n hx hb dl_528 rfl (lv_at hl 1 rfl) ?_
  refine lv_aload_n hx hb dl_529 rfl (lv_at hl 0 rfl) ?_
  refine lv_iload_n hx hb dl_530 rfl (lv_at hl 3 rfl) ?_
  refine lv_iconst (v := nI 1) hx hb dl_531 rfl ?_
  refine lv_iadd hx hb dl_532 ?_
  refine va_sld hx hb hX hbl hbA hS (lw_in hL hi 1 (by omega)) dl_533 ?_
  refine lv_aload_n hx hb dl_534 rfl (lv_at hl 0 rfl) ?_
  refine lv_iload_n hx hb dl_535 rfl (lv_at hl 3 rfl) ?_
  refine lv_iconst (v := nI 2) hx hb dl_536 rfl ?_
  refine lv_iadd hx hb dl_537 ?_
  refine va_sld hx hb hX hbl hbA hS (lw_in hL hi 2 (by omega)) dl_538 ?_
  refine lw_call C0 (mm := 15) (t := 24) (k := 6) (av := [.inl (xs (nI i + nI 1).toNatClampNeg), .inl (xs (nI i + nI 2).toNatClampNeg)]) (rest := []) lw_l58 (by decide) (by decide) rfl rfl rfl d24 (fun v hv => by simp at hv; rcases hv with rfl | rfl <;> trivial) rfl (Nat.le_of_ble_eq_true rfl) (eRp_txn (d := 11) (by omega) g1) hP hS hl.1 dl_539 (fun H1 locs1 hP1 hS1 => ?_)
  clear hP hS
  have hP := hP1; have hS := hS1
  refine lv_aload_n hx hb dl_542 rfl (lv_at hl 2 rfl) ?_
  refine lv_aload_n hx hb dl_543 rfl (lv_at hl 0 rfl) ?_
  refine lv_iload_n hx hb dl_544 rfl (lv_at hl 3 rfl) ?_
  refine lv_iconst (v := nI 1) hx hb dl_545 rfl ?_
  refine lv_iadd hx hb dl_546 ?_
  refine va_sld hx hb hX hbl hbA hS (lw_in hL hi 1 (by omega)) dl_547 ?_
  refine lv_aload_n hx hb dl_548 rfl (lv_at hl 0 rfl) ?_
  refine lv_iload_n hx hb dl_549 rfl (lv_at hl 3 rfl) ?_
  refine lv_iconst (v := nI 2) hx hb dl_550 rfl ?_
  refine lv_iadd hx hb dl_551 ?_
  refine va_sld hx hb hX hbl hbA hS (lw_in hL hi 2 (by omega)) dl_552 ?_
  refine lw_call C0 (mm := 274) (t := 30) (k := 7) (av := [.inl (xs (nI i + nI 1).toNatClampNeg), .inl (xs (nI i + nI 2).toNatClampNeg)]) (rest := [.int r]) lw_l61 (by decide) (by decide) rfl rfl rfl d30 (fun v hv => by simp at hv; rcases hv with rfl | rfl <;> trivial) rfl (Nat.le_of_ble_eq_true rfl) (eMo_txn (d := 11) (by omega) g2) hP hS hl.1 dl_553 (fun H1 locs1 hP1 hS1 => ?_)
  clear hP hS
  have hP := hP1; have hS := hS1
  refine lv_icmp_eq (tgt := 1358) hx hb dl_556 (by decide) (fun _ => K _ _ _ _ hR2 hP hS hl) (fun c1 => absurd rfl c1)
/-- one call of knows and of the reference's: the same answer -/
def lw_S11 (Rel : Nat → q_H → Prop) : Prop := ∀ (n : Nat) (h : q_H) (a1 a2 : Int32), n < 512 → Rel n h → ∃ (r : Int32) (h1 : q_H) (h2 : q_H), Rp_knows a1 a2 h = some (r, h1) ∧ Mo_knows a1 a2 h1 = some (r, h2) ∧ Rel (n + 1) h2
theorem lw_l62 : Cond.methodLink R_law 62 (q_y 16) ∈ lw_tblG := q_g5 (i := 58) rfl rfl
theorem lw_l65 : Cond.methodLink R_law 65 (q_y 275) ∈ lw_tblG := q_g7 (i := 215) rfl rfl
set_option maxHeartbeats 4000000 in
set_option maxRecDepth 100000 in
theorem lw_c11 {p : Program} {l : Launch} {e : Env} {s : State} {m : MethodId} {below : List Frame} {meth : Method} {c : Code} {b L : Nat} {xs : Nat → Int32} {D : va_G} {dom : List q_R} {ad : q_R → Nat} {cA : Nat → ClassId} {tys : List (ClassId × FieldType)} {A : Nat → Prop} {X : State → Prop} {cells slots : Nat} {Q : State → Prop} (C0 : lw_CX p l s m meth c b L xs D dom ad cA tys A X cells slots) {Rel : Nat → q_H → Prop} (hst : lw_S11 Rel) {n i : Nat} (hn : n < 512) (hi : i + 6 ≤ L) (K : lw_K p l e s m below meth c b D dom ad cA cells slots Q (Rel (n + 1)) i)
    {h : q_H} {H : Heap} {locs : List Loc} {ls : Array Slot} (hR : Rel n h) (hP : va_P D vwCl (q_ws dom ad cA h) H) (hS : va_S (fun q => s.heap.size ≤ q) s.heap H locs) (hl : lv_has ls 4 [(0, .ref b), (1, .ref (ad (24, 6, 0))), (2, .ref (ad (30, 7, 0))), (3, .int (nI i))]) :
    W p l e room_1 s m #[Value.ref b] below meth c H locs cells slots Q (F0 m 561 ls []) := by
  obtain ⟨⟨hx, hb, hrt, hml, hown, hts, hX, hbl, hlocks, hgv⟩, hL, hC, hK, hXX, hXs, hE, hA, d24, d30, hcs, hsl⟩ := id C0
  have hbA : ¬ (fun q : Nat => s.heap.size ≤ q) b := Nat.not_le.mpr hbl
  obtain ⟨r, h1, h2, g1, g2, hR2⟩ := hst n h (xs (nI i + nI 1).toNatClampNeg) (xs (nI i + nI 2).toNatClampNeg) hn hR
  refine lv_aload_n hx hb dl_561 rfl (lv_at hl 1 rfl) ?_
  refine lv_aload_n hx hb dl_562 rfl (lv_at hl 0 rfl) ?_
  refine lv_iload_n hx hb dl_563 rfl (lv_at hl 3 rfl) ?_
  refine lv_iconst (v := nI 1) hx hb dl_564 rfl ?_
  refine lv_iadd hx hb dl_565 ?_
  refine va_sld hx hb hX hbl hbA hS (lw_in hL hi 1 (by omega)) dl_566 ?_
  refine lv_aload_n hx hb dl_567 rfl (lv_at hl 0 rfl) ?_
  refine lv_iload_n hx hb dl_568 rfl (lv_at hl 3 rfl) ?_
  refine lv_iconst (v := nI 2) hx hb dl_569 rfl ?_
  refine lv_iadd hx hb dl_570 ?_
  refine va_sld hx hb hX hbl hbA hS (lw_in hL hi 2 (by omega)) dl_571 ?_
  refine lw_call C0 (mm := 16) (t := 24) (k := 6) (av := [.inl (xs (nI i + nI 1).toNatClampNeg), .inl (xs (nI i + nI 2).toNatClampNeg)]) (rest := []) lw_l62 (by decide) (by decide) rfl rfl rfl d24 (fun v hv => by simp at hv; rcases hv with rfl | rfl <;> trivial) rfl (Nat.le_of_ble_eq_true rfl) (eRp_knows (d := 11) (by omega) g1) hP hS hl.1 dl_572 (fun H1 locs1 hP1 hS1 => ?_)
  clear hP hS
  have hP := hP1; have hS := hS1
  refine lv_aload_n hx hb dl_575 rfl (lv_at hl 2 rfl) ?_
  refine lv_aload_n hx hb dl_576 rfl (lv_at hl 0 rfl) ?_
  refine lv_iload_n hx hb dl_577 rfl (lv_at hl 3 rfl) ?_
  refine lv_iconst (v := nI 1) hx hb dl_578 rfl ?_
  refine lv_iadd hx hb dl_579 ?_
  refine va_sld hx hb hX hbl hbA hS (lw_in hL hi 1 (by omega)) dl_580 ?_
  refine lv_aload_n hx hb dl_581 rfl (lv_at hl 0 rfl) ?_
  refine lv_iload_n hx hb dl_582 rfl (lv_at hl 3 rfl) ?_
  refine lv_iconst (v := nI 2) hx hb dl_583 rfl ?_
  refine lv_iadd hx hb dl_584 ?_
  refine va_sld hx hb hX hbl hbA hS (lw_in hL hi 2 (by omega)) dl_585 ?_
  refine lw_call C0 (mm := 275) (t := 30) (k := 7) (av := [.inl (xs (nI i + nI 1).toNatClampNeg), .inl (xs (nI i + nI 2).toNatClampNeg)]) (rest := [.int r]) lw_l65 (by decide) (by decide) rfl rfl rfl d30 (fun v hv => by simp at hv; rcases hv with rfl | rfl <;> trivial) rfl (Nat.le_of_ble_eq_true rfl) (eMo_knows (d := 11) (by omega) g2) hP hS hl.1 dl_586 (fun H1 locs1 hP1 hS1 => ?_)
  clear hP hS
  have hP := hP1; have hS := hS1
  refine lv_icmp_eq (tgt := 1358) hx hb dl_589 (by decide) (fun _ => K _ _ _ _ hR2 hP hS hl) (fun c1 => absurd rfl c1)
/-- one call of sees and of the reference's: the same answer -/
def lw_S12 (Rel : Nat → q_H → Prop) : Prop := ∀ (n : Nat) (h : q_H) (a1 a2 a3 : Int32), n < 512 → Rel n h → ∃ (r : Int32) (h1 : q_H) (h2 : q_H), Rp_sees a1 a2 a3 h = some (r, h1) ∧ Mo_sees a1 a2 a3 h1 = some (r, h2) ∧ Rel (n + 1) h2
theorem lw_l66 : Cond.methodLink R_law 66 (q_y 17) ∈ lw_tblG := q_g5 (i := 63) rfl rfl
theorem lw_l69 : Cond.methodLink R_law 69 (q_y 276) ∈ lw_tblG := q_g7 (i := 219) rfl rfl
set_option maxHeartbeats 4000000 in
set_option maxRecDepth 100000 in
theorem lw_c12 {p : Program} {l : Launch} {e : Env} {s : State} {m : MethodId} {below : List Frame} {meth : Method} {c : Code} {b L : Nat} {xs : Nat → Int32} {D : va_G} {dom : List q_R} {ad : q_R → Nat} {cA : Nat → ClassId} {tys : List (ClassId × FieldType)} {A : Nat → Prop} {X : State → Prop} {cells slots : Nat} {Q : State → Prop} (C0 : lw_CX p l s m meth c b L xs D dom ad cA tys A X cells slots) {Rel : Nat → q_H → Prop} (hst : lw_S12 Rel) {n i : Nat} (hn : n < 512) (hi : i + 6 ≤ L) (K : lw_K p l e s m below meth c b D dom ad cA cells slots Q (Rel (n + 1)) i)
    {h : q_H} {H : Heap} {locs : List Loc} {ls : Array Slot} (hR : Rel n h) (hP : va_P D vwCl (q_ws dom ad cA h) H) (hS : va_S (fun q => s.heap.size ≤ q) s.heap H locs) (hl : lv_has ls 4 [(0, .ref b), (1, .ref (ad (24, 6, 0))), (2, .ref (ad (30, 7, 0))), (3, .int (nI i))]) :
    W p l e room_1 s m #[Value.ref b] below meth c H locs cells slots Q (F0 m 594 ls []) := by
  obtain ⟨⟨hx, hb, hrt, hml, hown, hts, hX, hbl, hlocks, hgv⟩, hL, hC, hK, hXX, hXs, hE, hA, d24, d30, hcs, hsl⟩ := id C0
  have hbA : ¬ (fun q : Nat => s.heap.size ≤ q) b := Nat.not_le.mpr hbl
  obtain ⟨r, h1, h2, g1, g2, hR2⟩ := hst n h (xs (nI i + nI 1).toNatClampNeg) (xs (nI i + nI 2).toNatClampNeg) (xs (nI i + nI 3).toNatClampNeg) hn hR
  refine lv_aload_n hx hb dl_594 rfl (lv_at hl 1 rfl) ?_
  refine lv_aload_n hx hb dl_595 rfl (lv_at hl 0 rfl) ?_
  refine lv_iload_n hx hb dl_596 rfl (lv_at hl 3 rfl) ?_
  refine lv_iconst (v := nI 1) hx hb dl_597 rfl ?_
  refine lv_iadd hx hb dl_598 ?_
  refine va_sld hx hb hX hbl hbA hS (lw_in hL hi 1 (by omega)) dl_599 ?_
  refine lv_aload_n hx hb dl_600 rfl (lv_at hl 0 rfl) ?_
  refine lv_iload_n hx hb dl_601 rfl (lv_at hl 3 rfl) ?_
  refine lv_iconst (v := nI 2) hx hb dl_602 rfl ?_
  refine lv_iadd hx hb dl_603 ?_
  refine va_sld hx hb hX hbl hbA hS (lw_in hL hi 2 (by omega)) dl_604 ?_
  refine lv_aload_n hx hb dl_605 rfl (lv_at hl 0 rfl) ?_
  refine lv_iload_n hx hb dl_606 rfl (lv_at hl 3 rfl) ?_
  refine lv_iconst (v := nI 3) hx hb dl_607 rfl ?_
  refine lv_iadd hx hb dl_608 ?_
  refine va_sld hx hb hX hbl hbA hS (lw_in hL hi 3 (by omega)) dl_609 ?_
  refine lw_call C0 (mm := 17) (t := 24) (k := 6) (av := [.inl (xs (nI i + nI 1).toNatClampNeg), .inl (xs (nI i + nI 2).toNatClampNeg), .inl (xs (nI i + nI 3).toNatClampNeg)]) (rest := []) lw_l66 (by decide) (by decide) rfl rfl rfl d24 (fun v hv => by simp at hv; rcases hv with rfl | rfl | rfl <;> trivial) rfl (Nat.le_of_ble_eq_true rfl) (eRp_sees (d := 11) (by omega) g1) hP hS hl.1 dl_610 (fun H1 locs1 hP1 hS1 => ?_)
  clear hP hS
  have hP := hP1; have hS := hS1
  refine lv_aload_n hx hb dl_613 rfl (lv_at hl 2 rfl) ?_
  refine lv_aload_n hx hb dl_614 rfl (lv_at hl 0 rfl) ?_
  refine lv_iload_n hx hb dl_615 rfl (lv_at hl 3 rfl) ?_
  refine lv_iconst (v := nI 1) hx hb dl_616 rfl ?_
  refine lv_iadd hx hb dl_617 ?_
  refine va_sld hx hb hX hbl hbA hS (lw_in hL hi 1 (by omega)) dl_618 ?_
  refine lv_aload_n hx hb dl_619 rfl (lv_at hl 0 rfl) ?_
  refine lv_iload_n hx hb dl_620 rfl (lv_at hl 3 rfl) ?_
  refine lv_iconst (v := nI 2) hx hb dl_621 rfl ?_
  refine lv_iadd hx hb dl_622 ?_
  refine va_sld hx hb hX hbl hbA hS (lw_in hL hi 2 (by omega)) dl_623 ?_
  refine lv_aload_n hx hb dl_624 rfl (lv_at hl 0 rfl) ?_
  refine lv_iload_n hx hb dl_625 rfl (lv_at hl 3 rfl) ?_
  refine lv_iconst (v := nI 3) hx hb dl_626 rfl ?_
  refine lv_iadd hx hb dl_627 ?_
  refine va_sld hx hb hX hbl hbA hS (lw_in hL hi 3 (by omega)) dl_628 ?_
  refine lw_call C0 (mm := 276) (t := 30) (k := 7) (av := [.inl (xs (nI i + nI 1).toNatClampNeg), .inl (xs (nI i + nI 2).toNatClampNeg), .inl (xs (nI i + nI 3).toNatClampNeg)]) (rest := [.int r]) lw_l69 (by decide) (by decide) rfl rfl rfl d30 (fun v hv => by simp at hv; rcases hv with rfl | rfl | rfl <;> trivial) rfl (Nat.le_of_ble_eq_true rfl) (eMo_sees (d := 11) (by omega) g2) hP hS hl.1 dl_629 (fun H1 locs1 hP1 hS1 => ?_)
  clear hP hS
  have hP := hP1; have hS := hS1
  refine lv_icmp_eq (tgt := 1358) hx hb dl_632 (by decide) (fun _ => K _ _ _ _ hR2 hP hS hl) (fun c1 => absurd rfl c1)
/-- one call of versions and of the reference's: the same answer -/
def lw_S13 (Rel : Nat → q_H → Prop) : Prop := ∀ (n : Nat) (h : q_H) (a1 : Int32), n < 512 → Rel n h → ∃ (r : Int32) (h1 : q_H) (h2 : q_H), Rp_versions a1 h = some (r, h1) ∧ Mo_versions a1 h1 = some (r, h2) ∧ Rel (n + 1) h2
theorem lw_l70 : Cond.methodLink R_law 70 (q_y 18) ∈ lw_tblG := q_g5 (i := 67) rfl rfl
theorem lw_l73 : Cond.methodLink R_law 73 (q_y 277) ∈ lw_tblG := q_g7 (i := 223) rfl rfl
set_option maxHeartbeats 4000000 in
set_option maxRecDepth 100000 in
theorem lw_c13 {p : Program} {l : Launch} {e : Env} {s : State} {m : MethodId} {below : List Frame} {meth : Method} {c : Code} {b L : Nat} {xs : Nat → Int32} {D : va_G} {dom : List q_R} {ad : q_R → Nat} {cA : Nat → ClassId} {tys : List (ClassId × FieldType)} {A : Nat → Prop} {X : State → Prop} {cells slots : Nat} {Q : State → Prop} (C0 : lw_CX p l s m meth c b L xs D dom ad cA tys A X cells slots) {Rel : Nat → q_H → Prop} (hst : lw_S13 Rel) {n i : Nat} (hn : n < 512) (hi : i + 6 ≤ L) (K : lw_K p l e s m below meth c b D dom ad cA cells slots Q (Rel (n + 1)) i)
    {h : q_H} {H : Heap} {locs : List Loc} {ls : Array Slot} (hR : Rel n h) (hP : va_P D vwCl (q_ws dom ad cA h) H) (hS : va_S (fun q => s.heap.size ≤ q) s.heap H locs) (hl : lv_has ls 4 [(0, .ref b), (1, .ref (ad (24, 6, 0))), (2, .ref (ad (30, 7, 0))), (3, .int (nI i))]) :
    W p l e room_1 s m #[Value.ref b] below meth c H locs cells slots Q (F0 m 637 ls []) := by
  obtain ⟨⟨hx, hb, hrt, hml, hown, hts, hX, hbl, hlocks, hgv⟩, hL, hC, hK, hXX, hXs, hE, hA, d24, d30, hcs, hsl⟩ := id C0
  have hbA : ¬ (fun q : Nat => s.heap.size ≤ q) b := Nat.not_le.mpr hbl
  obtain ⟨r, h1, h2, g1, g2, hR2⟩ := hst n h (xs (nI i + nI 1).toNatClampNeg) hn hR
  refine lv_aload_n hx hb dl_637 rfl (lv_at hl 1 rfl) ?_
  refine lv_aload_n hx hb dl_638 rfl (lv_at hl 0 rfl) ?_
  refine lv_iload_n hx hb dl_639 rfl (lv_at hl 3 rfl) ?_
  refine lv_iconst (v := nI 1) hx hb dl_640 rfl ?_
  refine lv_iadd hx hb dl_641 ?_
  refine va_sld hx hb hX hbl hbA hS (lw_in hL hi 1 (by omega)) dl_642 ?_
  refine lw_call C0 (mm := 18) (t := 24) (k := 6) (av := [.inl (xs (nI i + nI 1).toNatClampNeg)]) (rest := []) lw_l70 (by decide) (by decide) rfl rfl rfl d24 (fun v hv => by simp at hv; rcases hv with rfl <;> trivial) rfl (Nat.le_of_ble_eq_true rfl) (eRp_versions (d := 11) (by omega) g1) hP hS hl.1 dl_643 (fun H1 locs1 hP1 hS1 => ?_)
  clear hP hS
  have hP := hP1; have hS := hS1
  refine lv_aload_n hx hb dl_646 rfl (lv_at hl 2 rfl) ?_
  refine lv_aload_n hx hb dl_647 rfl (lv_at hl 0 rfl) ?_
  refine lv_iload_n hx hb dl_648 rfl (lv_at hl 3 rfl) ?_
  refine lv_iconst (v := nI 1) hx hb dl_649 rfl ?_
  refine lv_iadd hx hb dl_650 ?_
  refine va_sld hx hb hX hbl hbA hS (lw_in hL hi 1 (by omega)) dl_651 ?_
  refine lw_call C0 (mm := 277) (t := 30) (k := 7) (av := [.inl (xs (nI i + nI 1).toNatClampNeg)]) (rest := [.int r]) lw_l73 (by decide) (by decide) rfl rfl rfl d30 (fun v hv => by simp at hv; rcases hv with rfl <;> trivial) rfl (Nat.le_of_ble_eq_true rfl) (eMo_versions (d := 11) (by omega) g2) hP hS hl.1 dl_652 (fun H1 locs1 hP1 hS1 => ?_)
  clear hP hS
  have hP := hP1; have hS := hS1
  refine lv_icmp_eq (tgt := 1358) hx hb dl_655 (by decide) (fun _ => K _ _ _ _ hR2 hP hS hl) (fun c1 => absurd rfl c1)
/-- one call of trail and of the reference's: the same answer -/
def lw_S14 (Rel : Nat → q_H → Prop) : Prop := ∀ (n : Nat) (h : q_H) (a1 a2 a3 : Int32), n < 512 → Rel n h → ∃ (r : Int32) (h1 : q_H) (h2 : q_H), Rp_trail a1 a2 a3 h = some (r, h1) ∧ Mo_trail a1 a2 a3 h1 = some (r, h2) ∧ Rel (n + 1) h2
theorem lw_l74 : Cond.methodLink R_law 74 (q_y 19) ∈ lw_tblG := q_g5 (i := 71) rfl rfl
theorem lw_l77 : Cond.methodLink R_law 77 (q_y 279) ∈ lw_tblG := q_g7 (i := 227) rfl rfl
set_option maxHeartbeats 4000000 in
set_option maxRecDepth 100000 in
theorem lw_c14 {p : Program} {l : Launch} {e : Env} {s : State} {m : MethodId} {below : List Frame} {meth : Method} {c : Code} {b L : Nat} {xs : Nat → Int32} {D : va_G} {dom : List q_R} {ad : q_R → Nat} {cA : Nat → ClassId} {tys : List (ClassId × FieldType)} {A : Nat → Prop} {X : State → Prop} {cells slots : Nat} {Q : State → Prop} (C0 : lw_CX p l s m meth c b L xs D dom ad cA tys A X cells slots) {Rel : Nat → q_H → Prop} (hst : lw_S14 Rel) {n i : Nat} (hn : n < 512) (hi : i + 6 ≤ L) (K : lw_K p l e s m below meth c b D dom ad cA cells slots Q (Rel (n + 1)) i)
    {h : q_H} {H : Heap} {locs : List Loc} {ls : Array Slot} (hR : Rel n h) (hP : va_P D vwCl (q_ws dom ad cA h) H) (hS : va_S (fun q => s.heap.size ≤ q) s.heap H locs) (hl : lv_has ls 4 [(0, .ref b), (1, .ref (ad (24, 6, 0))), (2, .ref (ad (30, 7, 0))), (3, .int (nI i))]) :
    W p l e room_1 s m #[Value.ref b] below meth c H locs cells slots Q (F0 m 660 ls []) := by
  obtain ⟨⟨hx, hb, hrt, hml, hown, hts, hX, hbl, hlocks, hgv⟩, hL, hC, hK, hXX, hXs, hE, hA, d24, d30, hcs, hsl⟩ := id C0
  have hbA : ¬ (fun q : Nat => s.heap.size ≤ q) b := Nat.not_le.mpr hbl
  obtain ⟨r, h1, h2, g1, g2, hR2⟩ := hst n h (xs (nI i + nI 1).toNatClampNeg) (xs (nI i + nI 2).toNatClampNeg) (xs (nI i + nI 3).toNatClampNeg) hn hR
  refine lv_aload_n hx hb dl_660 rfl (lv_at hl 1 rfl) ?_
  refine lv_aload_n hx hb dl_661 rfl (lv_at hl 0 rfl) ?_
  refine lv_iload_n hx hb dl_662 rfl (lv_at hl 3 rfl) ?_
  refine lv_iconst (v := nI 1) hx hb dl_663 rfl ?_
  refine lv_iadd hx hb dl_664 ?_
  refine va_sld hx hb hX hbl hbA hS (lw_in hL hi 1 (by omega)) dl_665 ?_
  refine lv_aload_n hx hb dl_666 rfl (lv_at hl 0 rfl) ?_
  refine lv_iload_n hx hb dl_667 rfl (lv_at hl 3 rfl) ?_
  refine lv_iconst (v := nI 2) hx hb dl_668 rfl ?_
  refine lv_iadd hx hb dl_669 ?_
  refine va_sld hx hb hX hbl hbA hS (lw_in hL hi 2 (by omega)) dl_670 ?_
  refine lv_aload_n hx hb dl_671 rfl (lv_at hl 0 rfl) ?_
  refine lv_iload_n hx hb dl_672 rfl (lv_at hl 3 rfl) ?_
  refine lv_iconst (v := nI 3) hx hb dl_673 rfl ?_
  refine lv_iadd hx hb dl_674 ?_
  refine va_sld hx hb hX hbl hbA hS (lw_in hL hi 3 (by omega)) dl_675 ?_
  refine lw_call C0 (mm := 19) (t := 24) (k := 6) (av := [.inl (xs (nI i + nI 1).toNatClampNeg), .inl (xs (nI i + nI 2).toNatClampNeg), .inl (xs (nI i + nI 3).toNatClampNeg)]) (rest := []) lw_l74 (by decide) (by decide) rfl rfl rfl d24 (fun v hv => by simp at hv; rcases hv with rfl | rfl | rfl <;> trivial) rfl (Nat.le_of_ble_eq_true rfl) (eRp_trail (d := 11) (by omega) g1) hP hS hl.1 dl_676 (fun H1 locs1 hP1 hS1 => ?_)
  clear hP hS
  have hP := hP1; have hS := hS1
  refine lv_aload_n hx hb dl_679 rfl (lv_at hl 2 rfl) ?_
  refine lv_aload_n hx hb dl_680 rfl (lv_at hl 0 rfl) ?_
  refine lv_iload_n hx hb dl_681 rfl (lv_at hl 3 rfl) ?_
  refine lv_iconst (v := nI 1) hx hb dl_682 rfl ?_
  refine lv_iadd hx hb dl_683 ?_
  refine va_sld hx hb hX hbl hbA hS (lw_in hL hi 1 (by omega)) dl_684 ?_
  refine lv_aload_n hx hb dl_685 rfl (lv_at hl 0 rfl) ?_
  refine lv_iload_n hx hb dl_686 rfl (lv_at hl 3 rfl) ?_
  refine lv_iconst (v := nI 2) hx hb dl_687 rfl ?_
  refine lv_iadd hx hb dl_688 ?_
  refine va_sld hx hb hX hbl hbA hS (lw_in hL hi 2 (by omega)) dl_689 ?_
  refine lv_aload_n hx hb dl_690 rfl (lv_at hl 0 rfl) ?_
  refine lv_iload_n hx hb dl_691 rfl (lv_at hl 3 rfl) ?_
  refine lv_iconst (v := nI 3) hx hb dl_692 rfl ?_
  refine lv_iadd hx hb dl_693 ?_
  refine va_sld hx hb hX hbl hbA hS (lw_in hL hi 3 (by omega)) dl_694 ?_
  refine lw_call C0 (mm := 279) (t := 30) (k := 7) (av := [.inl (xs (nI i + nI 1).toNatClampNeg), .inl (xs (nI i + nI 2).toNatClampNeg), .inl (xs (nI i + nI 3).toNatClampNeg)]) (rest := [.int r]) lw_l77 (by decide) (by decide) rfl rfl rfl d30 (fun v hv => by simp at hv; rcases hv with rfl | rfl | rfl <;> trivial) rfl (Nat.le_of_ble_eq_true rfl) (eMo_trail (d := 11) (by omega) g2) hP hS hl.1 dl_695 (fun H1 locs1 hP1 hS1 => ?_)
  clear hP hS
  have hP := hP1; have hS := hS1
  refine lv_icmp_eq (tgt := 1358) hx hb dl_698 (by decide) (fun _ => K _ _ _ _ hR2 hP hS hl) (fun c1 => absurd rfl c1)
/-- one call of event and of the reference's: the same answer -/
def lw_S15 (Rel : Nat → q_H → Prop) : Prop := ∀ (n : Nat) (h : q_H) (a1 a2 : Int32), n < 512 → Rel n h → ∃ (r : Int32) (h1 : q_H) (h2 : q_H), Rp_event a1 a2 h = some (r, h1) ∧ Mo_event a1 a2 h1 = some (r, h2) ∧ Rel (n + 1) h2
theorem lw_l78 : Cond.methodLink R_law 78 (q_y 20) ∈ lw_tblG := q_g5 (i := 83) rfl rfl
theorem lw_l81 : Cond.methodLink R_law 81 (q_y 280) ∈ lw_tblG := q_g7 (i := 235) rfl rfl
set_option maxHeartbeats 4000000 in
set_option maxRecDepth 100000 in
theorem lw_c15 {p : Program} {l : Launch} {e : Env} {s : State} {m : MethodId} {below : List Frame} {meth : Method} {c : Code} {b L : Nat} {xs : Nat → Int32} {D : va_G} {dom : List q_R} {ad : q_R → Nat} {cA : Nat → ClassId} {tys : List (ClassId × FieldType)} {A : Nat → Prop} {X : State → Prop} {cells slots : Nat} {Q : State → Prop} (C0 : lw_CX p l s m meth c b L xs D dom ad cA tys A X cells slots) {Rel : Nat → q_H → Prop} (hst : lw_S15 Rel) {n i : Nat} (hn : n < 512) (hi : i + 6 ≤ L) (K : lw_K p l e s m below meth c b D dom ad cA cells slots Q (Rel (n + 1)) i)
    {h : q_H} {H : Heap} {locs : List Loc} {ls : Array Slot} (hR : Rel n h) (hP : va_P D vwCl (q_ws dom ad cA h) H) (hS : va_S (fun q => s.heap.size ≤ q) s.heap H locs) (hl : lv_has ls 4 [(0, .ref b), (1, .ref (ad (24, 6, 0))), (2, .ref (ad (30, 7, 0))), (3, .int (nI i))]) :
    W p l e room_1 s m #[Value.ref b] below meth c H locs cells slots Q (F0 m 703 ls []) := by
  obtain ⟨⟨hx, hb, hrt, hml, hown, hts, hX, hbl, hlocks, hgv⟩, hL, hC, hK, hXX, hXs, hE, hA, d24, d30, hcs, hsl⟩ := id C0
  have hbA : ¬ (fun q : Nat => s.heap.size ≤ q) b := Nat.not_le.mpr hbl
  obtain ⟨r, h1, h2, g1, g2, hR2⟩ := hst n h (xs (nI i + nI 1).toNatClampNeg) (xs (nI i + nI 2).toNatClampNeg) hn hR
  refine lv_aload_n hx hb dl_703 rfl (lv_at hl 1 rfl) ?_
  refine lv_aload_n hx hb dl_704 rfl (lv_at hl 0 rfl) ?_
  refine lv_iload_n hx hb dl_705 rfl (lv_at hl 3 rfl) ?_
  refine lv_iconst (v := nI 1) hx hb dl_706 rfl ?_
  refine lv_iadd hx hb dl_707 ?_
  refine va_sld hx hb hX hbl hbA hS (lw_in hL hi 1 (by omega)) dl_708 ?_
  refine lv_aload_n hx hb dl_709 rfl (lv_at hl 0 rfl) ?_
  refine lv_iload_n hx hb dl_710 rfl (lv_at hl 3 rfl) ?_
  refine lv_iconst (v := nI 2) hx hb dl_711 rfl ?_
  refine lv_iadd hx hb dl_712 ?_
  refine va_sld hx hb hX hbl hbA hS (lw_in hL hi 2 (by omega)) dl_713 ?_
  refine lw_call C0 (mm := 20) (t := 24) (k := 6) (av := [.inl (xs (nI i + nI 1).toNatClampNeg), .inl (xs (nI i + nI 2).toNatClampNeg)]) (rest := []) lw_l78 (by decide) (by decide) rfl rfl rfl d24 (fun v hv => by simp at hv; rcases hv with rfl | rfl <;> trivial) rfl (Nat.le_of_ble_eq_true rfl) (eRp_event (d := 11) (by omega) g1) hP hS hl.1 dl_714 (fun H1 locs1 hP1 hS1 => ?_)
  clear hP hS
  have hP := hP1; have hS := hS1
  refine lv_aload_n hx hb dl_717 rfl (lv_at hl 2 rfl) ?_
  refine lv_aload_n hx hb dl_718 rfl (lv_at hl 0 rfl) ?_
  refine lv_iload_n hx hb dl_719 rfl (lv_at hl 3 rfl) ?_
  refine lv_iconst (v := nI 1) hx hb dl_720 rfl ?_
  refine lv_iadd hx hb dl_721 ?_
  refine va_sld hx hb hX hbl hbA hS (lw_in hL hi 1 (by omega)) dl_722 ?_
  refine lv_aload_n hx hb dl_723 rfl (lv_at hl 0 rfl) ?_
  refine lv_iload_n hx hb dl_724 rfl (lv_at hl 3 rfl) ?_
  refine lv_iconst (v := nI 2) hx hb dl_725 rfl ?_
  refine lv_iadd hx hb dl_726 ?_
  refine va_sld hx hb hX hbl hbA hS (lw_in hL hi 2 (by omega)) dl_727 ?_
  refine lw_call C0 (mm := 280) (t := 30) (k := 7) (av := [.inl (xs (nI i + nI 1).toNatClampNeg), .inl (xs (nI i + nI 2).toNatClampNeg)]) (rest := [.int r]) lw_l81 (by decide) (by decide) rfl rfl rfl d30 (fun v hv => by simp at hv; rcases hv with rfl | rfl <;> trivial) rfl (Nat.le_of_ble_eq_true rfl) (eMo_event (d := 11) (by omega) g2) hP hS hl.1 dl_728 (fun H1 locs1 hP1 hS1 => ?_)
  clear hP hS
  have hP := hP1; have hS := hS1
  refine lv_icmp_eq (tgt := 1358) hx hb dl_731 (by decide) (fun _ => K _ _ _ _ hR2 hP hS hl) (fun c1 => absurd rfl c1)
/-- one call of begin and of the reference's: the same answer -/
def lw_S16 (Rel : Nat → q_H → Prop) : Prop := ∀ (n : Nat) (h : q_H), n < 512 → Rel n h → ∃ (r : Int32) (h1 : q_H) (h2 : q_H), Rp_begin h = some (r, h1) ∧ Mo_begin h1 = some (r, h2) ∧ Rel (n + 1) h2
theorem lw_l82 : Cond.methodLink R_law 82 (q_y 21) ∈ lw_tblG := q_g5 (i := 95) rfl rfl
theorem lw_l85 : Cond.methodLink R_law 85 (q_y 281) ∈ lw_tblG := q_g7 (i := 239) rfl rfl
set_option maxHeartbeats 4000000 in
set_option maxRecDepth 100000 in
theorem lw_c16 {p : Program} {l : Launch} {e : Env} {s : State} {m : MethodId} {below : List Frame} {meth : Method} {c : Code} {b L : Nat} {xs : Nat → Int32} {D : va_G} {dom : List q_R} {ad : q_R → Nat} {cA : Nat → ClassId} {tys : List (ClassId × FieldType)} {A : Nat → Prop} {X : State → Prop} {cells slots : Nat} {Q : State → Prop} (C0 : lw_CX p l s m meth c b L xs D dom ad cA tys A X cells slots) {Rel : Nat → q_H → Prop} (hst : lw_S16 Rel) {n i : Nat} (hn : n < 512) (hi : i + 6 ≤ L) (K : lw_K p l e s m below meth c b D dom ad cA cells slots Q (Rel (n + 1)) i)
    {h : q_H} {H : Heap} {locs : List Loc} {ls : Array Slot} (hR : Rel n h) (hP : va_P D vwCl (q_ws dom ad cA h) H) (hS : va_S (fun q => s.heap.size ≤ q) s.heap H locs) (hl : lv_has ls 4 [(0, .ref b), (1, .ref (ad (24, 6, 0))), (2, .ref (ad (30, 7, 0))), (3, .int (nI i))]) :
    W p l e room_1 s m #[Value.ref b] below meth c H locs cells slots Q (F0 m 736 ls []) := by
  obtain ⟨⟨hx, hb, hrt, hml, hown, hts, hX, hbl, hlocks, hgv⟩, hL, hC, hK, hXX, hXs, hE, hA, d24, d30, hcs, hsl⟩ := id C0
  have hbA : ¬ (fun q : Nat => s.heap.size ≤ q) b := Nat.not_le.mpr hbl
  obtain ⟨r, h1, h2, g1, g2, hR2⟩ := hst n h  hn hR
  refine lv_aload_n hx hb dl_736 rfl (lv_at hl 1 rfl) ?_
  refine lw_call C0 (mm := 21) (t := 24) (k := 6) (av := []) (rest := []) lw_l82 (by decide) (by decide) rfl rfl rfl d24 (fun v hv => by simp at hv) rfl (Nat.le_of_ble_eq_true rfl) (eRp_begin (d := 11) (by omega) g1) hP hS hl.1 dl_737 (fun H1 locs1 hP1 hS1 => ?_)
  clear hP hS
  have hP := hP1; have hS := hS1
  refine lv_aload_n hx hb dl_740 rfl (lv_at hl 2 rfl) ?_
  refine lw_call C0 (mm := 281) (t := 30) (k := 7) (av := []) (rest := [.int r]) lw_l85 (by decide) (by decide) rfl rfl rfl d30 (fun v hv => by simp at hv) rfl (Nat.le_of_ble_eq_true rfl) (eMo_begin (d := 11) (by omega) g2) hP hS hl.1 dl_741 (fun H1 locs1 hP1 hS1 => ?_)
  clear hP hS
  have hP := hP1; have hS := hS1
  refine lv_icmp_eq (tgt := 1358) hx hb dl_744 (by decide) (fun _ => K _ _ _ _ hR2 hP hS hl) (fun c1 => absurd rfl c1)
/-- one call of commit and of the reference's: the same answer -/
def lw_S17 (Rel : Nat → q_H → Prop) : Prop := ∀ (n : Nat) (h : q_H) (a1 : Int32), n < 512 → Rel n h → ∃ (r : Int32) (h1 : q_H) (h2 : q_H), Rp_commit a1 h = some (r, h1) ∧ Mo_commit a1 h1 = some (r, h2) ∧ Rel (n + 1) h2
theorem lw_l86 : Cond.methodLink R_law 86 (q_y 22) ∈ lw_tblG := q_g5 (i := 96) rfl rfl
theorem lw_l89 : Cond.methodLink R_law 89 (q_y 282) ∈ lw_tblG := q_g8 (i := 3) rfl rfl
set_option maxHeartbeats 4000000 in
set_option maxRecDepth 100000 in
theorem lw_c17 {p : Program} {l : Launch} {e : Env} {s : State} {m : MethodId} {below : List Frame} {meth : Method} {c : Code} {b L : Nat} {xs : Nat → Int32} {D : va_G} {dom : List q_R} {ad : q_R → Nat} {cA : Nat → ClassId} {tys : List (ClassId × FieldType)} {A : Nat → Prop} {X : State → Prop} {cells slots : Nat} {Q : State → Prop} (C0 : lw_CX p l s m meth c b L xs D dom ad cA tys A X cells slots) {Rel : Nat → q_H → Prop} (hst : lw_S17 Rel) {n i : Nat} (hn : n < 512) (hi : i + 6 ≤ L) (K : lw_K p l e s m below meth c b D dom ad cA cells slots Q (Rel (n + 1)) i)
    {h : q_H} {H : Heap} {locs : List Loc} {ls : Array Slot} (hR : Rel n h) (hP : va_P D vwCl (q_ws dom ad cA h) H) (hS : va_S (fun q => s.heap.size ≤ q) s.heap H locs) (hl : lv_has ls 4 [(0, .ref b), (1, .ref (ad (24, 6, 0))), (2, .ref (ad (30, 7, 0))), (3, .int (nI i))]) :
    W p l e room_1 s m #[Value.ref b] below meth c H locs cells slots Q (F0 m 749 ls []) := by
  obtain ⟨⟨hx, hb, hrt, hml, hown, hts, hX, hbl, hlocks, hgv⟩, hL, hC, hK, hXX, hXs, hE, hA, d24, d30, hcs, hsl⟩ := id C0
  have hbA : ¬ (fun q : Nat => s.heap.size ≤ q) b := Nat.not_le.mpr hbl
  obtain ⟨r, h1, h2, g1, g2, hR2⟩ := hst n h (xs (nI i + nI 1).toNatClampNeg) hn hR
  refine lv_aload_n hx hb dl_749 rfl (lv_at hl 1 rfl) ?_
  refine lv_aload_n hx hb dl_750 rfl (lv_at hl 0 rfl) ?_
  refine lv_iload_n hx hb dl_751 rfl (lv_at hl 3 rfl) ?_
  refine lv_iconst (v := nI 1) hx hb dl_752 rfl ?_
  refine lv_iadd hx hb dl_753 ?_
  refine va_sld hx hb hX hbl hbA hS (lw_in hL hi 1 (by omega)) dl_754 ?_
  refine lw_call C0 (mm := 22) (t := 24) (k := 6) (av := [.inl (xs (nI i + nI 1).toNatClampNeg)]) (rest := []) lw_l86 (by decide) (by decide) rfl rfl rfl d24 (fun v hv => by simp at hv; rcases hv with rfl <;> trivial) rfl (Nat.le_of_ble_eq_true rfl) (eRp_commit (d := 11) (by omega) g1) hP hS hl.1 dl_755 (fun H1 locs1 hP1 hS1 => ?_)
  clear hP hS
  have hP := hP1; have hS := hS1
  refine lv_aload_n hx hb dl_758 rfl (lv_at hl 2 rfl) ?_
  refine lv_aload_n hx hb dl_759 rfl (lv_at hl 0 rfl) ?_
  refine lv_iload_n hx hb dl_760 rfl (lv_at hl 3 rfl) ?_
  refine lv_iconst (v := nI 1) hx hb dl_761 rfl ?_
  refine lv_iadd hx hb dl_762 ?_
  refine va_sld hx hb hX hbl hbA hS (lw_in hL hi 1 (by omega)) dl_763 ?_
  refine lw_call C0 (mm := 282) (t := 30) (k := 7) (av := [.inl (xs (nI i + nI 1).toNatClampNeg)]) (rest := [.int r]) lw_l89 (by decide) (by decide) rfl rfl rfl d30 (fun v hv => by simp at hv; rcases hv with rfl <;> trivial) rfl (Nat.le_of_ble_eq_true rfl) (eMo_commit (d := 11) (by omega) g2) hP hS hl.1 dl_764 (fun H1 locs1 hP1 hS1 => ?_)
  clear hP hS
  have hP := hP1; have hS := hS1
  refine lv_icmp_eq (tgt := 1358) hx hb dl_767 (by decide) (fun _ => K _ _ _ _ hR2 hP hS hl) (fun c1 => absurd rfl c1)
/-- one call of abort and of the reference's: the same answer -/
def lw_S18 (Rel : Nat → q_H → Prop) : Prop := ∀ (n : Nat) (h : q_H) (a1 : Int32), n < 512 → Rel n h → ∃ (r : Int32) (h1 : q_H) (h2 : q_H), Rp_abort a1 h = some (r, h1) ∧ Mo_abort a1 h1 = some (r, h2) ∧ Rel (n + 1) h2
theorem lw_l90 : Cond.methodLink R_law 90 (q_y 23) ∈ lw_tblG := q_g5 (i := 97) rfl rfl
theorem lw_l93 : Cond.methodLink R_law 93 (q_y 283) ∈ lw_tblG := q_g8 (i := 7) rfl rfl
set_option maxHeartbeats 4000000 in
set_option maxRecDepth 100000 in
theorem lw_c18 {p : Program} {l : Launch} {e : Env} {s : State} {m : MethodId} {below : List Frame} {meth : Method} {c : Code} {b L : Nat} {xs : Nat → Int32} {D : va_G} {dom : List q_R} {ad : q_R → Nat} {cA : Nat → ClassId} {tys : List (ClassId × FieldType)} {A : Nat → Prop} {X : State → Prop} {cells slots : Nat} {Q : State → Prop} (C0 : lw_CX p l s m meth c b L xs D dom ad cA tys A X cells slots) {Rel : Nat → q_H → Prop} (hst : lw_S18 Rel) {n i : Nat} (hn : n < 512) (hi : i + 6 ≤ L) (K : lw_K p l e s m below meth c b D dom ad cA cells slots Q (Rel (n + 1)) i)
    {h : q_H} {H : Heap} {locs : List Loc} {ls : Array Slot} (hR : Rel n h) (hP : va_P D vwCl (q_ws dom ad cA h) H) (hS : va_S (fun q => s.heap.size ≤ q) s.heap H locs) (hl : lv_has ls 4 [(0, .ref b), (1, .ref (ad (24, 6, 0))), (2, .ref (ad (30, 7, 0))), (3, .int (nI i))]) :
    W p l e room_1 s m #[Value.ref b] below meth c H locs cells slots Q (F0 m 772 ls []) := by
  obtain ⟨⟨hx, hb, hrt, hml, hown, hts, hX, hbl, hlocks, hgv⟩, hL, hC, hK, hXX, hXs, hE, hA, d24, d30, hcs, hsl⟩ := id C0
  have hbA : ¬ (fun q : Nat => s.heap.size ≤ q) b := Nat.not_le.mpr hbl
  obtain ⟨r, h1, h2, g1, g2, hR2⟩ := hst n h (xs (nI i + nI 1).toNatClampNeg) hn hR
  refine lv_aload_n hx hb dl_772 rfl (lv_at hl 1 rfl) ?_
  refine lv_aload_n hx hb dl_773 rfl (lv_at hl 0 rfl) ?_
  refine lv_iload_n hx hb dl_774 rfl (lv_at hl 3 rfl) ?_
  refine lv_iconst (v := nI 1) hx hb dl_775 rfl ?_
  refine lv_iadd hx hb dl_776 ?_
  refine va_sld hx hb hX hbl hbA hS (lw_in hL hi 1 (by omega)) dl_777 ?_
  refine lw_call C0 (mm := 23) (t := 24) (k := 6) (av := [.inl (xs (nI i + nI 1).toNatClampNeg)]) (rest := []) lw_l90 (by decide) (by decide) rfl rfl rfl d24 (fun v hv => by simp at hv; rcases hv with rfl <;> trivial) rfl (Nat.le_of_ble_eq_true rfl) (eRp_abort (d := 11) (by omega) g1) hP hS hl.1 dl_778 (fun H1 locs1 hP1 hS1 => ?_)
  clear hP hS
  have hP := hP1; have hS := hS1
  refine lv_aload_n hx hb dl_781 rfl (lv_at hl 2 rfl) ?_
  refine lv_aload_n hx hb dl_782 rfl (lv_at hl 0 rfl) ?_
  refine lv_iload_n hx hb dl_783 rfl (lv_at hl 3 rfl) ?_
  refine lv_iconst (v := nI 1) hx hb dl_784 rfl ?_
  refine lv_iadd hx hb dl_785 ?_
  refine va_sld hx hb hX hbl hbA hS (lw_in hL hi 1 (by omega)) dl_786 ?_
  refine lw_call C0 (mm := 283) (t := 30) (k := 7) (av := [.inl (xs (nI i + nI 1).toNatClampNeg)]) (rest := [.int r]) lw_l93 (by decide) (by decide) rfl rfl rfl d30 (fun v hv => by simp at hv; rcases hv with rfl <;> trivial) rfl (Nat.le_of_ble_eq_true rfl) (eMo_abort (d := 11) (by omega) g2) hP hS hl.1 dl_787 (fun H1 locs1 hP1 hS1 => ?_)
  clear hP hS
  have hP := hP1; have hS := hS1
  refine lv_icmp_eq (tgt := 1358) hx hb dl_790 (by decide) (fun _ => K _ _ _ _ hR2 hP hS hl) (fun c1 => absurd rfl c1)
/-- one call of insert and of the reference's: the same answer -/
def lw_S19 (Rel : Nat → q_H → Prop) : Prop := ∀ (n : Nat) (h : q_H) (a1 a2 a3 a4 : Int32), n < 512 → Rel n h → ∃ (r : Int32) (h1 : q_H) (h2 : q_H), Rp_insert a1 a2 a3 a4 h = some (r, h1) ∧ Mo_insert a1 a2 a3 a4 h1 = some (r, h2) ∧ Rel (n + 1) h2
theorem lw_l94 : Cond.methodLink R_law 94 (q_y 24) ∈ lw_tblG := q_g5 (i := 98) rfl rfl
theorem lw_l98 : Cond.methodLink R_law 98 (q_y 284) ∈ lw_tblG := q_g8 (i := 11) rfl rfl
set_option maxHeartbeats 4000000 in
set_option maxRecDepth 100000 in
theorem lw_c19 {p : Program} {l : Launch} {e : Env} {s : State} {m : MethodId} {below : List Frame} {meth : Method} {c : Code} {b L : Nat} {xs : Nat → Int32} {D : va_G} {dom : List q_R} {ad : q_R → Nat} {cA : Nat → ClassId} {tys : List (ClassId × FieldType)} {A : Nat → Prop} {X : State → Prop} {cells slots : Nat} {Q : State → Prop} (C0 : lw_CX p l s m meth c b L xs D dom ad cA tys A X cells slots) {Rel : Nat → q_H → Prop} (hst : lw_S19 Rel) {n i : Nat} (hn : n < 512) (hi : i + 6 ≤ L) (K : lw_K p l e s m below meth c b D dom ad cA cells slots Q (Rel (n + 1)) i)
    {h : q_H} {H : Heap} {locs : List Loc} {ls : Array Slot} (hR : Rel n h) (hP : va_P D vwCl (q_ws dom ad cA h) H) (hS : va_S (fun q => s.heap.size ≤ q) s.heap H locs) (hl : lv_has ls 4 [(0, .ref b), (1, .ref (ad (24, 6, 0))), (2, .ref (ad (30, 7, 0))), (3, .int (nI i))]) :
    W p l e room_1 s m #[Value.ref b] below meth c H locs cells slots Q (F0 m 795 ls []) := by
  obtain ⟨⟨hx, hb, hrt, hml, hown, hts, hX, hbl, hlocks, hgv⟩, hL, hC, hK, hXX, hXs, hE, hA, d24, d30, hcs, hsl⟩ := id C0
  have hbA : ¬ (fun q : Nat => s.heap.size ≤ q) b := Nat.not_le.mpr hbl
  obtain ⟨r, h1, h2, g1, g2, hR2⟩ := hst n h (xs (nI i + nI 1).toNatClampNeg) (xs (nI i + nI 2).toNatClampNeg) (xs (nI i + nI 3).toNatClampNeg) (xs (nI i + nI 4).toNatClampNeg) hn hR
  refine lv_aload_n hx hb dl_795 rfl (lv_at hl 1 rfl) ?_
  refine lv_aload_n hx hb dl_796 rfl (lv_at hl 0 rfl) ?_
  refine lv_iload_n hx hb dl_797 rfl (lv_at hl 3 rfl) ?_
  refine lv_iconst (v := nI 1) hx hb dl_798 rfl ?_
  refine lv_iadd hx hb dl_799 ?_
  refine va_sld hx hb hX hbl hbA hS (lw_in hL hi 1 (by omega)) dl_800 ?_
  refine lv_aload_n hx hb dl_801 rfl (lv_at hl 0 rfl) ?_
  refine lv_iload_n hx hb dl_802 rfl (lv_at hl 3 rfl) ?_
  refine lv_iconst (v := nI 2) hx hb dl_803 rfl ?_
  refine lv_iadd hx hb dl_804 ?_
  refine va_sld hx hb hX hbl hbA hS (lw_in hL hi 2 (by omega)) dl_805 ?_
  refine lv_aload_n hx hb dl_806 rfl (lv_at hl 0 rfl) ?_
  refine lv_iload_n hx hb dl_807 rfl (lv_at hl 3 rfl) ?_
  refine lv_iconst (v := nI 3) hx hb dl_808 rfl ?_
  refine lv_iadd hx hb dl_809 ?_
  refine va_sld hx hb hX hbl hbA hS (lw_in hL hi 3 (by omega)) dl_810 ?_
  refine lv_aload_n hx hb dl_811 rfl (lv_at hl 0 rfl) ?_
  refine lv_iload_n hx hb dl_812 rfl (lv_at hl 3 rfl) ?_
  refine lv_iconst (v := nI 4) hx hb dl_813 rfl ?_
  refine lv_iadd hx hb dl_814 ?_
  refine va_sld hx hb hX hbl hbA hS (lw_in hL hi 4 (by omega)) dl_815 ?_
  refine lw_call C0 (mm := 24) (t := 24) (k := 6) (av := [.inl (xs (nI i + nI 1).toNatClampNeg), .inl (xs (nI i + nI 2).toNatClampNeg), .inl (xs (nI i + nI 3).toNatClampNeg), .inl (xs (nI i + nI 4).toNatClampNeg)]) (rest := []) lw_l94 (by decide) (by decide) rfl rfl rfl d24 (fun v hv => by simp at hv; rcases hv with rfl | rfl | rfl | rfl <;> trivial) rfl (Nat.le_of_ble_eq_true rfl) (eRp_insert (d := 11) (by omega) g1) hP hS hl.1 dl_816 (fun H1 locs1 hP1 hS1 => ?_)
  clear hP hS
  have hP := hP1; have hS := hS1
  refine lv_aload_n hx hb dl_819 rfl (lv_at hl 2 rfl) ?_
  refine lv_aload_n hx hb dl_820 rfl (lv_at hl 0 rfl) ?_
  refine lv_iload_n hx hb dl_821 rfl (lv_at hl 3 rfl) ?_
  refine lv_iconst (v := nI 1) hx hb dl_822 rfl ?_
  refine lv_iadd hx hb dl_823 ?_
  refine va_sld hx hb hX hbl hbA hS (lw_in hL hi 1 (by omega)) dl_824 ?_
  refine lv_aload_n hx hb dl_825 rfl (lv_at hl 0 rfl) ?_
  refine lv_iload_n hx hb dl_826 rfl (lv_at hl 3 rfl) ?_
  refine lv_iconst (v := nI 2) hx hb dl_827 rfl ?_
  refine lv_iadd hx hb dl_828 ?_
  refine va_sld hx hb hX hbl hbA hS (lw_in hL hi 2 (by omega)) dl_829 ?_
  refine lv_aload_n hx hb dl_830 rfl (lv_at hl 0 rfl) ?_
  refine lv_iload_n hx hb dl_831 rfl (lv_at hl 3 rfl) ?_
  refine lv_iconst (v := nI 3) hx hb dl_832 rfl ?_
  refine lv_iadd hx hb dl_833 ?_
  refine va_sld hx hb hX hbl hbA hS (lw_in hL hi 3 (by omega)) dl_834 ?_
  refine lv_aload_n hx hb dl_835 rfl (lv_at hl 0 rfl) ?_
  refine lv_iload_n hx hb dl_836 rfl (lv_at hl 3 rfl) ?_
  refine lv_iconst (v := nI 4) hx hb dl_837 rfl ?_
  refine lv_iadd hx hb dl_838 ?_
  refine va_sld hx hb hX hbl hbA hS (lw_in hL hi 4 (by omega)) dl_839 ?_
  refine lw_call C0 (mm := 284) (t := 30) (k := 7) (av := [.inl (xs (nI i + nI 1).toNatClampNeg), .inl (xs (nI i + nI 2).toNatClampNeg), .inl (xs (nI i + nI 3).toNatClampNeg), .inl (xs (nI i + nI 4).toNatClampNeg)]) (rest := [.int r]) lw_l98 (by decide) (by decide) rfl rfl rfl d30 (fun v hv => by simp at hv; rcases hv with rfl | rfl | rfl | rfl <;> trivial) rfl (Nat.le_of_ble_eq_true rfl) (eMo_insert (d := 11) (by omega) g2) hP hS hl.1 dl_840 (fun H1 locs1 hP1 hS1 => ?_)
  clear hP hS
  have hP := hP1; have hS := hS1
  refine lv_icmp_eq (tgt := 1358) hx hb dl_843 (by decide) (fun _ => K _ _ _ _ hR2 hP hS hl) (fun c1 => absurd rfl c1)
/-- one call of update and of the reference's: the same answer -/
def lw_S20 (Rel : Nat → q_H → Prop) : Prop := ∀ (n : Nat) (h : q_H) (a1 a2 a3 a4 a5 : Int32), n < 512 → Rel n h → ∃ (r : Int32) (h1 : q_H) (h2 : q_H), Rp_update a1 a2 a3 a4 a5 h = some (r, h1) ∧ Mo_update a1 a2 a3 a4 a5 h1 = some (r, h2) ∧ Rel (n + 1) h2
theorem lw_l99 : Cond.methodLink R_law 99 (q_y 25) ∈ lw_tblG := q_g5 (i := 99) rfl rfl
theorem lw_l102 : Cond.methodLink R_law 102 (q_y 285) ∈ lw_tblG := q_g8 (i := 15) rfl rfl
set_option maxHeartbeats 4000000 in
set_option maxRecDepth 100000 in
theorem lw_c20 {p : Program} {l : Launch} {e : Env} {s : State} {m : MethodId} {below : List Frame} {meth : Method} {c : Code} {b L : Nat} {xs : Nat → Int32} {D : va_G} {dom : List q_R} {ad : q_R → Nat} {cA : Nat → ClassId} {tys : List (ClassId × FieldType)} {A : Nat → Prop} {X : State → Prop} {cells slots : Nat} {Q : State → Prop} (C0 : lw_CX p l s m meth c b L xs D dom ad cA tys A X cells slots) {Rel : Nat → q_H → Prop} (hst : lw_S20 Rel) {n i : Nat} (hn : n < 512) (hi : i + 6 ≤ L) (K : lw_K p l e s m below meth c b D dom ad cA cells slots Q (Rel (n + 1)) i)
    {h : q_H} {H : Heap} {locs : List Loc} {ls : Array Slot} (hR : Rel n h) (hP : va_P D vwCl (q_ws dom ad cA h) H) (hS : va_S (fun q => s.heap.size ≤ q) s.heap H locs) (hl : lv_has ls 4 [(0, .ref b), (1, .ref (ad (24, 6, 0))), (2, .ref (ad (30, 7, 0))), (3, .int (nI i))]) :
    W p l e room_1 s m #[Value.ref b] below meth c H locs cells slots Q (F0 m 848 ls []) := by
  obtain ⟨⟨hx, hb, hrt, hml, hown, hts, hX, hbl, hlocks, hgv⟩, hL, hC, hK, hXX, hXs, hE, hA, d24, d30, hcs, hsl⟩ := id C0
  have hbA : ¬ (fun q : Nat => s.heap.size ≤ q) b := Nat.not_le.mpr hbl
  obtain ⟨r, h1, h2, g1, g2, hR2⟩ := hst n h (xs (nI i + nI 1).toNatClampNeg) (xs (nI i + nI 2).toNatClampNeg) (xs (nI i + nI 3).toNatClampNeg) (xs (nI i + nI 4).toNatClampNeg) (xs (nI i + nI 5).toNatClampNeg) hn hR
  refine lv_aload_n hx hb dl_848 rfl (lv_at hl 1 rfl) ?_
  refine lv_aload_n hx hb dl_849 rfl (lv_at hl 0 rfl) ?_
  refine lv_iload_n hx hb dl_850 rfl (lv_at hl 3 rfl) ?_
  refine lv_iconst (v := nI 1) hx hb dl_851 rfl ?_
  refine lv_iadd hx hb dl_852 ?_
  refine va_sld hx hb hX hbl hbA hS (lw_in hL hi 1 (by omega)) dl_853 ?_
  refine lv_aload_n hx hb dl_854 rfl (lv_at hl 0 rfl) ?_
  refine lv_iload_n hx hb dl_855 rfl (lv_at hl 3 rfl) ?_
  refine lv_iconst (v := nI 2) hx hb dl_856 rfl ?_
  refine lv_iadd hx hb dl_857 ?_
  refine va_sld hx hb hX hbl hbA hS (lw_in hL hi 2 (by omega)) dl_858 ?_
  refine lv_aload_n hx hb dl_859 rfl (lv_at hl 0 rfl) ?_
  refine lv_iload_n hx hb dl_860 rfl (lv_at hl 3 rfl) ?_
  refine lv_iconst (v := nI 3) hx hb dl_861 rfl ?_
  refine lv_iadd hx hb dl_862 ?_
  refine va_sld hx hb hX hbl hbA hS (lw_in hL hi 3 (by omega)) dl_863 ?_
  refine lv_aload_n hx hb dl_864 rfl (lv_at hl 0 rfl) ?_
  refine lv_iload_n hx hb dl_865 rfl (lv_at hl 3 rfl) ?_
  refine lv_iconst (v := nI 4) hx hb dl_866 rfl ?_
  refine lv_iadd hx hb dl_867 ?_
  refine va_sld hx hb hX hbl hbA hS (lw_in hL hi 4 (by omega)) dl_868 ?_
  refine lv_aload_n hx hb dl_869 rfl (lv_at hl 0 rfl) ?_
  refine lv_iload_n hx hb dl_870 rfl (lv_at hl 3 rfl) ?_
  refine lv_iconst (v := nI 5) hx hb dl_871 rfl ?_
  refine lv_iadd hx hb dl_872 ?_
  refine va_sld hx hb hX hbl hbA hS (lw_in hL hi 5 (by omega)) dl_873 ?_
  refine lw_call C0 (mm := 25) (t := 24) (k := 6) (av := [.inl (xs (nI i + nI 1).toNatClampNeg), .inl (xs (nI i + nI 2).toNatClampNeg), .inl (xs (nI i + nI 3).toNatClampNeg), .inl (xs (nI i + nI 4).toNatClampNeg), .inl (xs (nI i + nI 5).toNatClampNeg)]) (rest := []) lw_l99 (by decide) (by decide) rfl rfl rfl d24 (fun v hv => by simp at hv; rcases hv with rfl | rfl | rfl | rfl | rfl <;> trivial) rfl (Nat.le_of_ble_eq_true rfl) (eRp_update (d := 11) (by omega) g1) hP hS hl.1 dl_874 (fun H1 locs1 hP1 hS1 => ?_)
  clear hP hS
  have hP := hP1; have hS := hS1
  refine lv_aload_n hx hb dl_877 rfl (lv_at hl 2 rfl) ?_
  refine lv_aload_n hx hb dl_878 rfl (lv_at hl 0 rfl) ?_
  refine lv_iload_n hx hb dl_879 rfl (lv_at hl 3 rfl) ?_
  refine lv_iconst (v := nI 1) hx hb dl_880 rfl ?_
  refine lv_iadd hx hb dl_881 ?_
  refine va_sld hx hb hX hbl hbA hS (lw_in hL hi 1 (by omega)) dl_882 ?_
  refine lv_aload_n hx hb dl_883 rfl (lv_at hl 0 rfl) ?_
  refine lv_iload_n hx hb dl_884 rfl (lv_at hl 3 rfl) ?_
  refine lv_iconst (v := nI 2) hx hb dl_885 rfl ?_
  refine lv_iadd hx hb dl_886 ?_
  refine va_sld hx hb hX hbl hbA hS (lw_in hL hi 2 (by omega)) dl_887 ?_
  refine lv_aload_n hx hb dl_888 rfl (lv_at hl 0 rfl) ?_
  refine lv_iload_n hx hb dl_889 rfl (lv_at hl 3 rfl) ?_
  refine lv_iconst (v := nI 3) hx hb dl_890 rfl ?_
  refine lv_iadd hx hb dl_891 ?_
  refine va_sld hx hb hX hbl hbA hS (lw_in hL hi 3 (by omega)) dl_892 ?_
  refine lv_aload_n hx hb dl_893 rfl (lv_at hl 0 rfl) ?_
  refine lv_iload_n hx hb dl_894 rfl (lv_at hl 3 rfl) ?_
  refine lv_iconst (v := nI 4) hx hb dl_895 rfl ?_
  refine lv_iadd hx hb dl_896 ?_
  refine va_sld hx hb hX hbl hbA hS (lw_in hL hi 4 (by omega)) dl_897 ?_
  refine lv_aload_n hx hb dl_898 rfl (lv_at hl 0 rfl) ?_
  refine lv_iload_n hx hb dl_899 rfl (lv_at hl 3 rfl) ?_
  refine lv_iconst (v := nI 5) hx hb dl_900 rfl ?_
  refine lv_iadd hx hb dl_901 ?_
  refine va_sld hx hb hX hbl hbA hS (lw_in hL hi 5 (by omega)) dl_902 ?_
  refine lw_call C0 (mm := 285) (t := 30) (k := 7) (av := [.inl (xs (nI i + nI 1).toNatClampNeg), .inl (xs (nI i + nI 2).toNatClampNeg), .inl (xs (nI i + nI 3).toNatClampNeg), .inl (xs (nI i + nI 4).toNatClampNeg), .inl (xs (nI i + nI 5).toNatClampNeg)]) (rest := [.int r]) lw_l102 (by decide) (by decide) rfl rfl rfl d30 (fun v hv => by simp at hv; rcases hv with rfl | rfl | rfl | rfl | rfl <;> trivial) rfl (Nat.le_of_ble_eq_true rfl) (eMo_update (d := 11) (by omega) g2) hP hS hl.1 dl_903 (fun H1 locs1 hP1 hS1 => ?_)
  clear hP hS
  have hP := hP1; have hS := hS1
  refine lv_icmp_eq (tgt := 1358) hx hb dl_906 (by decide) (fun _ => K _ _ _ _ hR2 hP hS hl) (fun c1 => absurd rfl c1)
/-- one call of delete and of the reference's: the same answer -/
def lw_S21 (Rel : Nat → q_H → Prop) : Prop := ∀ (n : Nat) (h : q_H) (a1 a2 : Int32), n < 512 → Rel n h → ∃ (r : Int32) (h1 : q_H) (h2 : q_H), Rp_delete a1 a2 h = some (r, h1) ∧ Mo_delete a1 a2 h1 = some (r, h2) ∧ Rel (n + 1) h2
theorem lw_l103 : Cond.methodLink R_law 103 (q_y 26) ∈ lw_tblG := q_g5 (i := 100) rfl rfl
theorem lw_l106 : Cond.methodLink R_law 106 (q_y 286) ∈ lw_tblG := q_g8 (i := 19) rfl rfl
set_option maxHeartbeats 4000000 in
set_option maxRecDepth 100000 in
theorem lw_c21 {p : Program} {l : Launch} {e : Env} {s : State} {m : MethodId} {below : List Frame} {meth : Method} {c : Code} {b L : Nat} {xs : Nat → Int32} {D : va_G} {dom : List q_R} {ad : q_R → Nat} {cA : Nat → ClassId} {tys : List (ClassId × FieldType)} {A : Nat → Prop} {X : State → Prop} {cells slots : Nat} {Q : State → Prop} (C0 : lw_CX p l s m meth c b L xs D dom ad cA tys A X cells slots) {Rel : Nat → q_H → Prop} (hst : lw_S21 Rel) {n i : Nat} (hn : n < 512) (hi : i + 6 ≤ L) (K : lw_K p l e s m below meth c b D dom ad cA cells slots Q (Rel (n + 1)) i)
    {h : q_H} {H : Heap} {locs : List Loc} {ls : Array Slot} (hR : Rel n h) (hP : va_P D vwCl (q_ws dom ad cA h) H) (hS : va_S (fun q => s.heap.size ≤ q) s.heap H locs) (hl : lv_has ls 4 [(0, .ref b), (1, .ref (ad (24, 6, 0))), (2, .ref (ad (30, 7, 0))), (3, .int (nI i))]) :
    W p l e room_1 s m #[Value.ref b] below meth c H locs cells slots Q (F0 m 911 ls []) := by
  obtain ⟨⟨hx, hb, hrt, hml, hown, hts, hX, hbl, hlocks, hgv⟩, hL, hC, hK, hXX, hXs, hE, hA, d24, d30, hcs, hsl⟩ := id C0
  have hbA : ¬ (fun q : Nat => s.heap.size ≤ q) b := Nat.not_le.mpr hbl
  obtain ⟨r, h1, h2, g1, g2, hR2⟩ := hst n h (xs (nI i + nI 1).toNatClampNeg) (xs (nI i + nI 2).toNatClampNeg) hn hR
  refine lv_aload_n hx hb dl_911 rfl (lv_at hl 1 rfl) ?_
  refine lv_aload_n hx hb dl_912 rfl (lv_at hl 0 rfl) ?_
  refine lv_iload_n hx hb dl_913 rfl (lv_at hl 3 rfl) ?_
  refine lv_iconst (v := nI 1) hx hb dl_914 rfl ?_
  refine lv_iadd hx hb dl_915 ?_
  refine va_sld hx hb hX hbl hbA hS (lw_in hL hi 1 (by omega)) dl_916 ?_
  refine lv_aload_n hx hb dl_917 rfl (lv_at hl 0 rfl) ?_
  refine lv_iload_n hx hb dl_918 rfl (lv_at hl 3 rfl) ?_
  refine lv_iconst (v := nI 2) hx hb dl_919 rfl ?_
  refine lv_iadd hx hb dl_920 ?_
  refine va_sld hx hb hX hbl hbA hS (lw_in hL hi 2 (by omega)) dl_921 ?_
  refine lw_call C0 (mm := 26) (t := 24) (k := 6) (av := [.inl (xs (nI i + nI 1).toNatClampNeg), .inl (xs (nI i + nI 2).toNatClampNeg)]) (rest := []) lw_l103 (by decide) (by decide) rfl rfl rfl d24 (fun v hv => by simp at hv; rcases hv with rfl | rfl <;> trivial) rfl (Nat.le_of_ble_eq_true rfl) (eRp_delete (d := 11) (by omega) g1) hP hS hl.1 dl_922 (fun H1 locs1 hP1 hS1 => ?_)
  clear hP hS
  have hP := hP1; have hS := hS1
  refine lv_aload_n hx hb dl_925 rfl (lv_at hl 2 rfl) ?_
  refine lv_aload_n hx hb dl_926 rfl (lv_at hl 0 rfl) ?_
  refine lv_iload_n hx hb dl_927 rfl (lv_at hl 3 rfl) ?_
  refine lv_iconst (v := nI 1) hx hb dl_928 rfl ?_
  refine lv_iadd hx hb dl_929 ?_
  refine va_sld hx hb hX hbl hbA hS (lw_in hL hi 1 (by omega)) dl_930 ?_
  refine lv_aload_n hx hb dl_931 rfl (lv_at hl 0 rfl) ?_
  refine lv_iload_n hx hb dl_932 rfl (lv_at hl 3 rfl) ?_
  refine lv_iconst (v := nI 2) hx hb dl_933 rfl ?_
  refine lv_iadd hx hb dl_934 ?_
  refine va_sld hx hb hX hbl hbA hS (lw_in hL hi 2 (by omega)) dl_935 ?_
  refine lw_call C0 (mm := 286) (t := 30) (k := 7) (av := [.inl (xs (nI i + nI 1).toNatClampNeg), .inl (xs (nI i + nI 2).toNatClampNeg)]) (rest := [.int r]) lw_l106 (by decide) (by decide) rfl rfl rfl d30 (fun v hv => by simp at hv; rcases hv with rfl | rfl <;> trivial) rfl (Nat.le_of_ble_eq_true rfl) (eMo_delete (d := 11) (by omega) g2) hP hS hl.1 dl_936 (fun H1 locs1 hP1 hS1 => ?_)
  clear hP hS
  have hP := hP1; have hS := hS1
  refine lv_icmp_eq (tgt := 1358) hx hb dl_939 (by decide) (fun _ => K _ _ _ _ hR2 hP hS hl) (fun c1 => absurd rfl c1)
/-- one call of await and of the reference's: the same answer -/
def lw_S22 (Rel : Nat → q_H → Prop) : Prop := ∀ (n : Nat) (h : q_H) (a1 a2 : Int32), n < 512 → Rel n h → ∃ (r : Int32) (h1 : q_H) (h2 : q_H), Rp_await a1 a2 h = some (r, h1) ∧ Mo_await a1 a2 h1 = some (r, h2) ∧ Rel (n + 1) h2
theorem lw_l107 : Cond.methodLink R_law 107 (q_y 27) ∈ lw_tblG := q_g5 (i := 101) rfl rfl
theorem lw_l110 : Cond.methodLink R_law 110 (q_y 299) ∈ lw_tblG := q_g8 (i := 63) rfl rfl
set_option maxHeartbeats 4000000 in
set_option maxRecDepth 100000 in
theorem lw_c22 {p : Program} {l : Launch} {e : Env} {s : State} {m : MethodId} {below : List Frame} {meth : Method} {c : Code} {b L : Nat} {xs : Nat → Int32} {D : va_G} {dom : List q_R} {ad : q_R → Nat} {cA : Nat → ClassId} {tys : List (ClassId × FieldType)} {A : Nat → Prop} {X : State → Prop} {cells slots : Nat} {Q : State → Prop} (C0 : lw_CX p l s m meth c b L xs D dom ad cA tys A X cells slots) {Rel : Nat → q_H → Prop} (hst : lw_S22 Rel) {n i : Nat} (hn : n < 512) (hi : i + 6 ≤ L) (K : lw_K p l e s m below meth c b D dom ad cA cells slots Q (Rel (n + 1)) i)
    {h : q_H} {H : Heap} {locs : List Loc} {ls : Array Slot} (hR : Rel n h) (hP : va_P D vwCl (q_ws dom ad cA h) H) (hS : va_S (fun q => s.heap.size ≤ q) s.heap H locs) (hl : lv_has ls 4 [(0, .ref b), (1, .ref (ad (24, 6, 0))), (2, .ref (ad (30, 7, 0))), (3, .int (nI i))]) :
    W p l e room_1 s m #[Value.ref b] below meth c H locs cells slots Q (F0 m 944 ls []) := by
  obtain ⟨⟨hx, hb, hrt, hml, hown, hts, hX, hbl, hlocks, hgv⟩, hL, hC, hK, hXX, hXs, hE, hA, d24, d30, hcs, hsl⟩ := id C0
  have hbA : ¬ (fun q : Nat => s.heap.size ≤ q) b := Nat.not_le.mpr hbl
  obtain ⟨r, h1, h2, g1, g2, hR2⟩ := hst n h (xs (nI i + nI 1).toNatClampNeg) (xs (nI i + nI 2).toNatClampNeg) hn hR
  refine lv_aload_n hx hb dl_944 rfl (lv_at hl 1 rfl) ?_
  refine lv_aload_n hx hb dl_945 rfl (lv_at hl 0 rfl) ?_
  refine lv_iload_n hx hb dl_946 rfl (lv_at hl 3 rfl) ?_
  refine lv_iconst (v := nI 1) hx hb dl_947 rfl ?_
  refine lv_iadd hx hb dl_948 ?_
  refine va_sld hx hb hX hbl hbA hS (lw_in hL hi 1 (by omega)) dl_949 ?_
  refine lv_aload_n hx hb dl_950 rfl (lv_at hl 0 rfl) ?_
  refine lv_iload_n hx hb dl_951 rfl (lv_at hl 3 rfl) ?_
  refine lv_iconst (v := nI 2) hx hb dl_952 rfl ?_
  refine lv_iadd hx hb dl_953 ?_
  refine va_sld hx hb hX hbl hbA hS (lw_in hL hi 2 (by omega)) dl_954 ?_
  refine lw_call C0 (mm := 27) (t := 24) (k := 6) (av := [.inl (xs (nI i + nI 1).toNatClampNeg), .inl (xs (nI i + nI 2).toNatClampNeg)]) (rest := []) lw_l107 (by decide) (by decide) rfl rfl rfl d24 (fun v hv => by simp at hv; rcases hv with rfl | rfl <;> trivial) rfl (Nat.le_of_ble_eq_true rfl) (eRp_await (d := 11) (by omega) g1) hP hS hl.1 dl_955 (fun H1 locs1 hP1 hS1 => ?_)
  clear hP hS
  have hP := hP1; have hS := hS1
  refine lv_aload_n hx hb dl_958 rfl (lv_at hl 2 rfl) ?_
  refine lv_aload_n hx hb dl_959 rfl (lv_at hl 0 rfl) ?_
  refine lv_iload_n hx hb dl_960 rfl (lv_at hl 3 rfl) ?_
  refine lv_iconst (v := nI 1) hx hb dl_961 rfl ?_
  refine lv_iadd hx hb dl_962 ?_
  refine va_sld hx hb hX hbl hbA hS (lw_in hL hi 1 (by omega)) dl_963 ?_
  refine lv_aload_n hx hb dl_964 rfl (lv_at hl 0 rfl) ?_
  refine lv_iload_n hx hb dl_965 rfl (lv_at hl 3 rfl) ?_
  refine lv_iconst (v := nI 2) hx hb dl_966 rfl ?_
  refine lv_iadd hx hb dl_967 ?_
  refine va_sld hx hb hX hbl hbA hS (lw_in hL hi 2 (by omega)) dl_968 ?_
  refine lw_call C0 (mm := 299) (t := 30) (k := 7) (av := [.inl (xs (nI i + nI 1).toNatClampNeg), .inl (xs (nI i + nI 2).toNatClampNeg)]) (rest := [.int r]) lw_l110 (by decide) (by decide) rfl rfl rfl d30 (fun v hv => by simp at hv; rcases hv with rfl | rfl <;> trivial) rfl (Nat.le_of_ble_eq_true rfl) (eMo_await (d := 11) (by omega) g2) hP hS hl.1 dl_969 (fun H1 locs1 hP1 hS1 => ?_)
  clear hP hS
  have hP := hP1; have hS := hS1
  refine lv_icmp_eq (tgt := 1358) hx hb dl_972 (by decide) (fun _ => K _ _ _ _ hR2 hP hS hl) (fun c1 => absurd rfl c1)
/-- one call of prune and of the reference's: the same answer -/
def lw_S23 (Rel : Nat → q_H → Prop) : Prop := ∀ (n : Nat) (h : q_H) (a1 : Int32), n < 512 → Rel n h → ∃ (r : Int32) (h1 : q_H) (h2 : q_H), Rp_prune a1 h = some (r, h1) ∧ Mo_prune a1 h1 = some (r, h2) ∧ Rel (n + 1) h2
theorem lw_l111 : Cond.methodLink R_law 111 (q_y 28) ∈ lw_tblG := q_g5 (i := 117) rfl rfl
theorem lw_l114 : Cond.methodLink R_law 114 (q_y 287) ∈ lw_tblG := q_g8 (i := 23) rfl rfl
set_option maxHeartbeats 4000000 in
set_option maxRecDepth 100000 in
theorem lw_c23 {p : Program} {l : Launch} {e : Env} {s : State} {m : MethodId} {below : List Frame} {meth : Method} {c : Code} {b L : Nat} {xs : Nat → Int32} {D : va_G} {dom : List q_R} {ad : q_R → Nat} {cA : Nat → ClassId} {tys : List (ClassId × FieldType)} {A : Nat → Prop} {X : State → Prop} {cells slots : Nat} {Q : State → Prop} (C0 : lw_CX p l s m meth c b L xs D dom ad cA tys A X cells slots) {Rel : Nat → q_H → Prop} (hst : lw_S23 Rel) {n i : Nat} (hn : n < 512) (hi : i + 6 ≤ L) (K : lw_K p l e s m below meth c b D dom ad cA cells slots Q (Rel (n + 1)) i)
    {h : q_H} {H : Heap} {locs : List Loc} {ls : Array Slot} (hR : Rel n h) (hP : va_P D vwCl (q_ws dom ad cA h) H) (hS : va_S (fun q => s.heap.size ≤ q) s.heap H locs) (hl : lv_has ls 4 [(0, .ref b), (1, .ref (ad (24, 6, 0))), (2, .ref (ad (30, 7, 0))), (3, .int (nI i))]) :
    W p l e room_1 s m #[Value.ref b] below meth c H locs cells slots Q (F0 m 977 ls []) := by
  obtain ⟨⟨hx, hb, hrt, hml, hown, hts, hX, hbl, hlocks, hgv⟩, hL, hC, hK, hXX, hXs, hE, hA, d24, d30, hcs, hsl⟩ := id C0
  have hbA : ¬ (fun q : Nat => s.heap.size ≤ q) b := Nat.not_le.mpr hbl
  obtain ⟨r, h1, h2, g1, g2, hR2⟩ := hst n h (xs (nI i + nI 1).toNatClampNeg) hn hR
  refine lv_aload_n hx hb dl_977 rfl (lv_at hl 1 rfl) ?_
  refine lv_aload_n hx hb dl_978 rfl (lv_at hl 0 rfl) ?_
  refine lv_iload_n hx hb dl_979 rfl (lv_at hl 3 rfl) ?_
  refine lv_iconst (v := nI 1) hx hb dl_980 rfl ?_
  refine lv_iadd hx hb dl_981 ?_
  refine va_sld hx hb hX hbl hbA hS (lw_in hL hi 1 (by omega)) dl_982 ?_
  refine lw_call C0 (mm := 28) (t := 24) (k := 6) (av := [.inl (xs (nI i + nI 1).toNatClampNeg)]) (rest := []) lw_l111 (by decide) (by decide) rfl rfl rfl d24 (fun v hv => by simp at hv; rcases hv with rfl <;> trivial) rfl (Nat.le_of_ble_eq_true rfl) (eRp_prune (d := 11) (by omega) g1) hP hS hl.1 dl_983 (fun H1 locs1 hP1 hS1 => ?_)
  clear hP hS
  have hP := hP1; have hS := hS1
  refine lv_aload_n hx hb dl_986 rfl (lv_at hl 2 rfl) ?_
  refine lv_aload_n hx hb dl_987 rfl (lv_at hl 0 rfl) ?_
  refine lv_iload_n hx hb dl_988 rfl (lv_at hl 3 rfl) ?_
  refine lv_iconst (v := nI 1) hx hb dl_989 rfl ?_
  refine lv_iadd hx hb dl_990 ?_
  refine va_sld hx hb hX hbl hbA hS (lw_in hL hi 1 (by omega)) dl_991 ?_
  refine lw_call C0 (mm := 287) (t := 30) (k := 7) (av := [.inl (xs (nI i + nI 1).toNatClampNeg)]) (rest := [.int r]) lw_l114 (by decide) (by decide) rfl rfl rfl d30 (fun v hv => by simp at hv; rcases hv with rfl <;> trivial) rfl (Nat.le_of_ble_eq_true rfl) (eMo_prune (d := 11) (by omega) g2) hP hS hl.1 dl_992 (fun H1 locs1 hP1 hS1 => ?_)
  clear hP hS
  have hP := hP1; have hS := hS1
  refine lv_icmp_eq (tgt := 1358) hx hb dl_995 (by decide) (fun _ => K _ _ _ _ hR2 hP hS hl) (fun c1 => absurd rfl c1)
/-- one call of vacuum and of the reference's: the same answer -/
def lw_S24 (Rel : Nat → q_H → Prop) : Prop := ∀ (n : Nat) (h : q_H), n < 512 → Rel n h → ∃ (r : Int32) (h1 : q_H) (h2 : q_H), Rp_vacuum h = some (r, h1) ∧ Mo_vacuum h1 = some (r, h2) ∧ Rel (n + 1) h2
theorem lw_l115 : Cond.methodLink R_law 115 (q_y 29) ∈ lw_tblG := q_g5 (i := 118) rfl rfl
theorem lw_l118 : Cond.methodLink R_law 118 (q_y 288) ∈ lw_tblG := q_g8 (i := 27) rfl rfl
set_option maxHeartbeats 4000000 in
set_option maxRecDepth 100000 in
theorem lw_c24 {p : Program} {l : Launch} {e : Env} {s : State} {m : MethodId} {below : List Frame} {meth : Method} {c : Code} {b L : Nat} {xs : Nat → Int32} {D : va_G} {dom : List q_R} {ad : q_R → Nat} {cA : Nat → ClassId} {tys : List (ClassId × FieldType)} {A : Nat → Prop} {X : State → Prop} {cells slots : Nat} {Q : State → Prop} (C0 : lw_CX p l s m meth c b L xs D dom ad cA tys A X cells slots) {Rel : Nat → q_H → Prop} (hst : lw_S24 Rel) {n i : Nat} (hn : n < 512) (hi : i + 6 ≤ L) (K : lw_K p l e s m below meth c b D dom ad cA cells slots Q (Rel (n + 1)) i)
    {h : q_H} {H : Heap} {locs : List Loc} {ls : Array Slot} (hR : Rel n h) (hP : va_P D vwCl (q_ws dom ad cA h) H) (hS : va_S (fun q => s.heap.size ≤ q) s.heap H locs) (hl : lv_has ls 4 [(0, .ref b), (1, .ref (ad (24, 6, 0))), (2, .ref (ad (30, 7, 0))), (3, .int (nI i))]) :
    W p l e room_1 s m #[Value.ref b] below meth c H locs cells slots Q (F0 m 1000 ls []) := by
  obtain ⟨⟨hx, hb, hrt, hml, hown, hts, hX, hbl, hlocks, hgv⟩, hL, hC, hK, hXX, hXs, hE, hA, d24, d30, hcs, hsl⟩ := id C0
  have hbA : ¬ (fun q : Nat => s.heap.size ≤ q) b := Nat.not_le.mpr hbl
  obtain ⟨r, h1, h2, g1, g2, hR2⟩ := hst n h  hn hR
  refine lv_aload_n hx hb dl_1000 rfl (lv_at hl 1 rfl) ?_
  refine lw_call C0 (mm := 29) (t := 24) (k := 6) (av := []) (rest := []) lw_l115 (by decide) (by decide) rfl rfl rfl d24 (fun v hv => by simp at hv) rfl (Nat.le_of_ble_eq_true rfl) (eRp_vacuum (d := 11) (by omega) g1) hP hS hl.1 dl_1001 (fun H1 locs1 hP1 hS1 => ?_)
  clear hP hS
  have hP := hP1; have hS := hS1
  refine lv_aload_n hx hb dl_1004 rfl (lv_at hl 2 rfl) ?_
  refine lw_call C0 (mm := 288) (t := 30) (k := 7) (av := []) (rest := [.int r]) lw_l118 (by decide) (by decide) rfl rfl rfl d30 (fun v hv => by simp at hv) rfl (Nat.le_of_ble_eq_true rfl) (eMo_vacuum (d := 11) (by omega) g2) hP hS hl.1 dl_1005 (fun H1 locs1 hP1 hS1 => ?_)
  clear hP hS
  have hP := hP1; have hS := hS1
  refine lv_icmp_eq (tgt := 1358) hx hb dl_1008 (by decide) (fun _ => K _ _ _ _ hR2 hP hS hl) (fun c1 => absurd rfl c1)
/-- one call of look and of the reference's: the same answer -/
def lw_S25 (Rel : Nat → q_H → Prop) : Prop := ∀ (n : Nat) (h : q_H) (a1 a2 : Int32), n < 512 → Rel n h → ∃ (r : Int32) (h1 : q_H) (h2 : q_H), Rp_look a1 a2 h = some (r, h1) ∧ Mo_look a1 a2 h1 = some (r, h2) ∧ Rel (n + 1) h2
theorem lw_l119 : Cond.methodLink R_law 119 (q_y 30) ∈ lw_tblG := q_g5 (i := 119) rfl rfl
theorem lw_l122 : Cond.methodLink R_law 122 (q_y 289) ∈ lw_tblG := q_g8 (i := 31) rfl rfl
set_option maxHeartbeats 4000000 in
set_option maxRecDepth 100000 in
theorem lw_c25 {p : Program} {l : Launch} {e : Env} {s : State} {m : MethodId} {below : List Frame} {meth : Method} {c : Code} {b L : Nat} {xs : Nat → Int32} {D : va_G} {dom : List q_R} {ad : q_R → Nat} {cA : Nat → ClassId} {tys : List (ClassId × FieldType)} {A : Nat → Prop} {X : State → Prop} {cells slots : Nat} {Q : State → Prop} (C0 : lw_CX p l s m meth c b L xs D dom ad cA tys A X cells slots) {Rel : Nat → q_H → Prop} (hst : lw_S25 Rel) {n i : Nat} (hn : n < 512) (hi : i + 6 ≤ L) (K : lw_K p l e s m below meth c b D dom ad cA cells slots Q (Rel (n + 1)) i)
    {h : q_H} {H : Heap} {locs : List Loc} {ls : Array Slot} (hR : Rel n h) (hP : va_P D vwCl (q_ws dom ad cA h) H) (hS : va_S (fun q => s.heap.size ≤ q) s.heap H locs) (hl : lv_has ls 4 [(0, .ref b), (1, .ref (ad (24, 6, 0))), (2, .ref (ad (30, 7, 0))), (3, .int (nI i))]) :
    W p l e room_1 s m #[Value.ref b] below meth c H locs cells slots Q (F0 m 1013 ls []) := by
  obtain ⟨⟨hx, hb, hrt, hml, hown, hts, hX, hbl, hlocks, hgv⟩, hL, hC, hK, hXX, hXs, hE, hA, d24, d30, hcs, hsl⟩ := id C0
  have hbA : ¬ (fun q : Nat => s.heap.size ≤ q) b := Nat.not_le.mpr hbl
  obtain ⟨r, h1, h2, g1, g2, hR2⟩ := hst n h (xs (nI i + nI 1).toNatClampNeg) (xs (nI i + nI 2).toNatClampNeg) hn hR
  refine lv_aload_n hx hb dl_1013 rfl (lv_at hl 1 rfl) ?_
  refine lv_aload_n hx hb dl_1014 rfl (lv_at hl 0 rfl) ?_
  refine lv_iload_n hx hb dl_1015 rfl (lv_at hl 3 rfl) ?_
  refine lv_iconst (v := nI 1) hx hb dl_1016 rfl ?_
  refine lv_iadd hx hb dl_1017 ?_
  refine va_sld hx hb hX hbl hbA hS (lw_in hL hi 1 (by omega)) dl_1018 ?_
  refine lv_aload_n hx hb dl_1019 rfl (lv_at hl 0 rfl) ?_
  refine lv_iload_n hx hb dl_1020 rfl (lv_at hl 3 rfl) ?_
  refine lv_iconst (v := nI 2) hx hb dl_1021 rfl ?_
  refine lv_iadd hx hb dl_1022 ?_
  refine va_sld hx hb hX hbl hbA hS (lw_in hL hi 2 (by omega)) dl_1023 ?_
  refine lw_call C0 (mm := 30) (t := 24) (k := 6) (av := [.inl (xs (nI i + nI 1).toNatClampNeg), .inl (xs (nI i + nI 2).toNatClampNeg)]) (rest := []) lw_l119 (by decide) (by decide) rfl rfl rfl d24 (fun v hv => by simp at hv; rcases hv with rfl | rfl <;> trivial) rfl (Nat.le_of_ble_eq_true rfl) (eRp_look (d := 11) (by omega) g1) hP hS hl.1 dl_1024 (fun H1 locs1 hP1 hS1 => ?_)
  clear hP hS
  have hP := hP1; have hS := hS1
  refine lv_aload_n hx hb dl_1027 rfl (lv_at hl 2 rfl) ?_
  refine lv_aload_n hx hb dl_1028 rfl (lv_at hl 0 rfl) ?_
  refine lv_iload_n hx hb dl_1029 rfl (lv_at hl 3 rfl) ?_
  refine lv_iconst (v := nI 1) hx hb dl_1030 rfl ?_
  refine lv_iadd hx hb dl_1031 ?_
  refine va_sld hx hb hX hbl hbA hS (lw_in hL hi 1 (by omega)) dl_1032 ?_
  refine lv_aload_n hx hb dl_1033 rfl (lv_at hl 0 rfl) ?_
  refine lv_iload_n hx hb dl_1034 rfl (lv_at hl 3 rfl) ?_
  refine lv_iconst (v := nI 2) hx hb dl_1035 rfl ?_
  refine lv_iadd hx hb dl_1036 ?_
  refine va_sld hx hb hX hbl hbA hS (lw_in hL hi 2 (by omega)) dl_1037 ?_
  refine lw_call C0 (mm := 289) (t := 30) (k := 7) (av := [.inl (xs (nI i + nI 1).toNatClampNeg), .inl (xs (nI i + nI 2).toNatClampNeg)]) (rest := [.int r]) lw_l122 (by decide) (by decide) rfl rfl rfl d30 (fun v hv => by simp at hv; rcases hv with rfl | rfl <;> trivial) rfl (Nat.le_of_ble_eq_true rfl) (eMo_look (d := 11) (by omega) g2) hP hS hl.1 dl_1038 (fun H1 locs1 hP1 hS1 => ?_)
  clear hP hS
  have hP := hP1; have hS := hS1
  refine lv_icmp_eq (tgt := 1358) hx hb dl_1041 (by decide) (fun _ => K _ _ _ _ hR2 hP hS hl) (fun c1 => absurd rfl c1)
/-- one call of found and of the reference's: the same answer -/
def lw_S26 (Rel : Nat → q_H → Prop) : Prop := ∀ (n : Nat) (h : q_H) (a1 a2 : Int32), n < 512 → Rel n h → ∃ (r : Int32) (h1 : q_H) (h2 : q_H), Rp_found a1 a2 h = some (r, h1) ∧ Mo_found a1 a2 h1 = some (r, h2) ∧ Rel (n + 1) h2
theorem lw_l123 : Cond.methodLink R_law 123 (q_y 31) ∈ lw_tblG := q_g5 (i := 120) rfl rfl
theorem lw_l126 : Cond.methodLink R_law 126 (q_y 290) ∈ lw_tblG := q_g8 (i := 35) rfl rfl
set_option maxHeartbeats 4000000 in
set_option maxRecDepth 100000 in
theorem lw_c26 {p : Program} {l : Launch} {e : Env} {s : State} {m : MethodId} {below : List Frame} {meth : Method} {c : Code} {b L : Nat} {xs : Nat → Int32} {D : va_G} {dom : List q_R} {ad : q_R → Nat} {cA : Nat → ClassId} {tys : List (ClassId × FieldType)} {A : Nat → Prop} {X : State → Prop} {cells slots : Nat} {Q : State → Prop} (C0 : lw_CX p l s m meth c b L xs D dom ad cA tys A X cells slots) {Rel : Nat → q_H → Prop} (hst : lw_S26 Rel) {n i : Nat} (hn : n < 512) (hi : i + 6 ≤ L) (K : lw_K p l e s m below meth c b D dom ad cA cells slots Q (Rel (n + 1)) i)
    {h : q_H} {H : Heap} {locs : List Loc} {ls : Array Slot} (hR : Rel n h) (hP : va_P D vwCl (q_ws dom ad cA h) H) (hS : va_S (fun q => s.heap.size ≤ q) s.heap H locs) (hl : lv_has ls 4 [(0, .ref b), (1, .ref (ad (24, 6, 0))), (2, .ref (ad (30, 7, 0))), (3, .int (nI i))]) :
    W p l e room_1 s m #[Value.ref b] below meth c H locs cells slots Q (F0 m 1046 ls []) := by
  obtain ⟨⟨hx, hb, hrt, hml, hown, hts, hX, hbl, hlocks, hgv⟩, hL, hC, hK, hXX, hXs, hE, hA, d24, d30, hcs, hsl⟩ := id C0
  have hbA : ¬ (fun q : Nat => s.heap.size ≤ q) b := Nat.not_le.mpr hbl
  obtain ⟨r, h1, h2, g1, g2, hR2⟩ := hst n h (xs (nI i + nI 1).toNatClampNeg) (xs (nI i + nI 2).toNatClampNeg) hn hR
  refine lv_aload_n hx hb dl_1046 rfl (lv_at hl 1 rfl) ?_
  refine lv_aload_n hx hb dl_1047 rfl (lv_at hl 0 rfl) ?_
  refine lv_iload_n hx hb dl_1048 rfl (lv_at hl 3 rfl) ?_
  refine lv_iconst (v := nI 1) hx hb dl_1049 rfl ?_
  refine lv_iadd hx hb dl_1050 ?_
  refine va_sld hx hb hX hbl hbA hS (lw_in hL hi 1 (by omega)) dl_1051 ?_
  refine lv_aload_n hx hb dl_1052 rfl (lv_at hl 0 rfl) ?_
  refine lv_iload_n hx hb dl_1053 rfl (lv_at hl 3 rfl) ?_
  refine lv_iconst (v := nI 2) hx hb dl_1054 rfl ?_
  refine lv_iadd hx hb dl_1055 ?_
  refine va_sld hx hb hX hbl hbA hS (lw_in hL hi 2 (by omega)) dl_1056 ?_
  refine lw_call C0 (mm := 31) (t := 24) (k := 6) (av := [.inl (xs (nI i + nI 1).toNatClampNeg), .inl (xs (nI i + nI 2).toNatClampNeg)]) (rest := []) lw_l123 (by decide) (by decide) rfl rfl rfl d24 (fun v hv => by simp at hv; rcases hv with rfl | rfl <;> trivial) rfl (Nat.le_of_ble_eq_true rfl) (eRp_found (d := 11) (by omega) g1) hP hS hl.1 dl_1057 (fun H1 locs1 hP1 hS1 => ?_)
  clear hP hS
  have hP := hP1; have hS := hS1
  refine lv_aload_n hx hb dl_1060 rfl (lv_at hl 2 rfl) ?_
  refine lv_aload_n hx hb dl_1061 rfl (lv_at hl 0 rfl) ?_
  refine lv_iload_n hx hb dl_1062 rfl (lv_at hl 3 rfl) ?_
  refine lv_iconst (v := nI 1) hx hb dl_1063 rfl ?_
  refine lv_iadd hx hb dl_1064 ?_
  refine va_sld hx hb hX hbl hbA hS (lw_in hL hi 1 (by omega)) dl_1065 ?_
  refine lv_aload_n hx hb dl_1066 rfl (lv_at hl 0 rfl) ?_
  refine lv_iload_n hx hb dl_1067 rfl (lv_at hl 3 rfl) ?_
  refine lv_iconst (v := nI 2) hx hb dl_1068 rfl ?_
  refine lv_iadd hx hb dl_1069 ?_
  refine va_sld hx hb hX hbl hbA hS (lw_in hL hi 2 (by omega)) dl_1070 ?_
  refine lw_call C0 (mm := 290) (t := 30) (k := 7) (av := [.inl (xs (nI i + nI 1).toNatClampNeg), .inl (xs (nI i + nI 2).toNatClampNeg)]) (rest := [.int r]) lw_l126 (by decide) (by decide) rfl rfl rfl d30 (fun v hv => by simp at hv; rcases hv with rfl | rfl <;> trivial) rfl (Nat.le_of_ble_eq_true rfl) (eMo_found (d := 11) (by omega) g2) hP hS hl.1 dl_1071 (fun H1 locs1 hP1 hS1 => ?_)
  clear hP hS
  have hP := hP1; have hS := hS1
  refine lv_icmp_eq (tgt := 1358) hx hb dl_1074 (by decide) (fun _ => K _ _ _ _ hR2 hP hS hl) (fun c1 => absurd rfl c1)
/-- one call of repack and of the reference's: the same answer -/
def lw_S27 (Rel : Nat → q_H → Prop) : Prop := ∀ (n : Nat) (h : q_H), n < 512 → Rel n h → ∃ (r : Int32) (h1 : q_H) (h2 : q_H), Rp_repack h = some (r, h1) ∧ Mo_repack h1 = some (r, h2) ∧ Rel (n + 1) h2
theorem lw_l127 : Cond.methodLink R_law 127 (q_y 32) ∈ lw_tblG := q_g5 (i := 131) rfl rfl
theorem lw_l130 : Cond.methodLink R_law 130 (q_y 291) ∈ lw_tblG := q_g8 (i := 39) rfl rfl
set_option maxHeartbeats 4000000 in
set_option maxRecDepth 100000 in
theorem lw_c27 {p : Program} {l : Launch} {e : Env} {s : State} {m : MethodId} {below : List Frame} {meth : Method} {c : Code} {b L : Nat} {xs : Nat → Int32} {D : va_G} {dom : List q_R} {ad : q_R → Nat} {cA : Nat → ClassId} {tys : List (ClassId × FieldType)} {A : Nat → Prop} {X : State → Prop} {cells slots : Nat} {Q : State → Prop} (C0 : lw_CX p l s m meth c b L xs D dom ad cA tys A X cells slots) {Rel : Nat → q_H → Prop} (hst : lw_S27 Rel) {n i : Nat} (hn : n < 512) (hi : i + 6 ≤ L) (K : lw_K p l e s m below meth c b D dom ad cA cells slots Q (Rel (n + 1)) i)
    {h : q_H} {H : Heap} {locs : List Loc} {ls : Array Slot} (hR : Rel n h) (hP : va_P D vwCl (q_ws dom ad cA h) H) (hS : va_S (fun q => s.heap.size ≤ q) s.heap H locs) (hl : lv_has ls 4 [(0, .ref b), (1, .ref (ad (24, 6, 0))), (2, .ref (ad (30, 7, 0))), (3, .int (nI i))]) :
    W p l e room_1 s m #[Value.ref b] below meth c H locs cells slots Q (F0 m 1079 ls []) := by
  obtain ⟨⟨hx, hb, hrt, hml, hown, hts, hX, hbl, hlocks, hgv⟩, hL, hC, hK, hXX, hXs, hE, hA, d24, d30, hcs, hsl⟩ := id C0
  have hbA : ¬ (fun q : Nat => s.heap.size ≤ q) b := Nat.not_le.mpr hbl
  obtain ⟨r, h1, h2, g1, g2, hR2⟩ := hst n h  hn hR
  refine lv_aload_n hx hb dl_1079 rfl (lv_at hl 1 rfl) ?_
  refine lw_call C0 (mm := 32) (t := 24) (k := 6) (av := []) (rest := []) lw_l127 (by decide) (by decide) rfl rfl rfl d24 (fun v hv => by simp at hv) rfl (Nat.le_of_ble_eq_true rfl) (eRp_repack (d := 11) (by omega) g1) hP hS hl.1 dl_1080 (fun H1 locs1 hP1 hS1 => ?_)
  clear hP hS
  have hP := hP1; have hS := hS1
  refine lv_aload_n hx hb dl_1083 rfl (lv_at hl 2 rfl) ?_
  refine lw_call C0 (mm := 291) (t := 30) (k := 7) (av := []) (rest := [.int r]) lw_l130 (by decide) (by decide) rfl rfl rfl d30 (fun v hv => by simp at hv) rfl (Nat.le_of_ble_eq_true rfl) (eMo_repack (d := 11) (by omega) g2) hP hS hl.1 dl_1084 (fun H1 locs1 hP1 hS1 => ?_)
  clear hP hS
  have hP := hP1; have hS := hS1
  refine lv_icmp_eq (tgt := 1358) hx hb dl_1087 (by decide) (fun _ => K _ _ _ _ hR2 hP hS hl) (fun c1 => absurd rfl c1)
/-- one call of set and of the reference's: the same answer -/
def lw_S28 (Rel : Nat → q_H → Prop) : Prop := ∀ (n : Nat) (h : q_H) (a1 a2 : Int32), n < 512 → Rel n h → ∃ (r : Int32) (h1 : q_H) (h2 : q_H), Rp_set a1 a2 h = some (r, h1) ∧ Mo_set a1 a2 h1 = some (r, h2) ∧ Rel (n + 1) h2
theorem lw_l131 : Cond.methodLink R_law 131 (q_y 33) ∈ lw_tblG := q_g5 (i := 132) rfl rfl
theorem lw_l134 : Cond.methodLink R_law 134 (q_y 292) ∈ lw_tblG := q_g8 (i := 43) rfl rfl
set_option maxHeartbeats 4000000 in
set_option maxRecDepth 100000 in
theorem lw_c28 {p : Program} {l : Launch} {e : Env} {s : State} {m : MethodId} {below : List Frame} {meth : Method} {c : Code} {b L : Nat} {xs : Nat → Int32} {D : va_G} {dom : List q_R} {ad : q_R → Nat} {cA : Nat → ClassId} {tys : List (ClassId × FieldType)} {A : Nat → Prop} {X : State → Prop} {cells slots : Nat} {Q : State → Prop} (C0 : lw_CX p l s m meth c b L xs D dom ad cA tys A X cells slots) {Rel : Nat → q_H → Prop} (hst : lw_S28 Rel) {n i : Nat} (hn : n < 512) (hi : i + 6 ≤ L) (K : lw_K p l e s m below meth c b D dom ad cA cells slots Q (Rel (n + 1)) i)
    {h : q_H} {H : Heap} {locs : List Loc} {ls : Array Slot} (hR : Rel n h) (hP : va_P D vwCl (q_ws dom ad cA h) H) (hS : va_S (fun q => s.heap.size ≤ q) s.heap H locs) (hl : lv_has ls 4 [(0, .ref b), (1, .ref (ad (24, 6, 0))), (2, .ref (ad (30, 7, 0))), (3, .int (nI i))]) :
    W p l e room_1 s m #[Value.ref b] below meth c H locs cells slots Q (F0 m 1092 ls []) := by
  obtain ⟨⟨hx, hb, hrt, hml, hown, hts, hX, hbl, hlocks, hgv⟩, hL, hC, hK, hXX, hXs, hE, hA, d24, d30, hcs, hsl⟩ := id C0
  have hbA : ¬ (fun q : Nat => s.heap.size ≤ q) b := Nat.not_le.mpr hbl
  obtain ⟨r, h1, h2, g1, g2, hR2⟩ := hst n h (xs (nI i + nI 1).toNatClampNeg) (xs (nI i + nI 2).toNatClampNeg) hn hR
  refine lv_aload_n hx hb dl_1092 rfl (lv_at hl 1 rfl) ?_
  refine lv_aload_n hx hb dl_1093 rfl (lv_at hl 0 rfl) ?_
  refine lv_iload_n hx hb dl_1094 rfl (lv_at hl 3 rfl) ?_
  refine lv_iconst (v := nI 1) hx hb dl_1095 rfl ?_
  refine lv_iadd hx hb dl_1096 ?_
  refine va_sld hx hb hX hbl hbA hS (lw_in hL hi 1 (by omega)) dl_1097 ?_
  refine lv_aload_n hx hb dl_1098 rfl (lv_at hl 0 rfl) ?_
  refine lv_iload_n hx hb dl_1099 rfl (lv_at hl 3 rfl) ?_
  refine lv_iconst (v := nI 2) hx hb dl_1100 rfl ?_
  refine lv_iadd hx hb dl_1101 ?_
  refine va_sld hx hb hX hbl hbA hS (lw_in hL hi 2 (by omega)) dl_1102 ?_
  refine lw_call C0 (mm := 33) (t := 24) (k := 6) (av := [.inl (xs (nI i + nI 1).toNatClampNeg), .inl (xs (nI i + nI 2).toNatClampNeg)]) (rest := []) lw_l131 (by decide) (by decide) rfl rfl rfl d24 (fun v hv => by simp at hv; rcases hv with rfl | rfl <;> trivial) rfl (Nat.le_of_ble_eq_true rfl) (eRp_set (d := 11) (by omega) g1) hP hS hl.1 dl_1103 (fun H1 locs1 hP1 hS1 => ?_)
  clear hP hS
  have hP := hP1; have hS := hS1
  refine lv_aload_n hx hb dl_1106 rfl (lv_at hl 2 rfl) ?_
  refine lv_aload_n hx hb dl_1107 rfl (lv_at hl 0 rfl) ?_
  refine lv_iload_n hx hb dl_1108 rfl (lv_at hl 3 rfl) ?_
  refine lv_iconst (v := nI 1) hx hb dl_1109 rfl ?_
  refine lv_iadd hx hb dl_1110 ?_
  refine va_sld hx hb hX hbl hbA hS (lw_in hL hi 1 (by omega)) dl_1111 ?_
  refine lv_aload_n hx hb dl_1112 rfl (lv_at hl 0 rfl) ?_
  refine lv_iload_n hx hb dl_1113 rfl (lv_at hl 3 rfl) ?_
  refine lv_iconst (v := nI 2) hx hb dl_1114 rfl ?_
  refine lv_iadd hx hb dl_1115 ?_
  refine va_sld hx hb hX hbl hbA hS (lw_in hL hi 2 (by omega)) dl_1116 ?_
  refine lw_call C0 (mm := 292) (t := 30) (k := 7) (av := [.inl (xs (nI i + nI 1).toNatClampNeg), .inl (xs (nI i + nI 2).toNatClampNeg)]) (rest := [.int r]) lw_l134 (by decide) (by decide) rfl rfl rfl d30 (fun v hv => by simp at hv; rcases hv with rfl | rfl <;> trivial) rfl (Nat.le_of_ble_eq_true rfl) (eMo_set (d := 11) (by omega) g2) hP hS hl.1 dl_1117 (fun H1 locs1 hP1 hS1 => ?_)
  clear hP hS
  have hP := hP1; have hS := hS1
  refine lv_icmp_eq (tgt := 1358) hx hb dl_1120 (by decide) (fun _ => K _ _ _ _ hR2 hP hS hl) (fun c1 => absurd rfl c1)
/-- one call of mark and of the reference's: the same answer -/
def lw_S29 (Rel : Nat → q_H → Prop) : Prop := ∀ (n : Nat) (h : q_H), n < 512 → Rel n h → ∃ (r : Int32) (h1 : q_H) (h2 : q_H), Rp_mark h = some (r, h1) ∧ Mo_mark h1 = some (r, h2) ∧ Rel (n + 1) h2
theorem lw_l135 : Cond.methodLink R_law 135 (q_y 34) ∈ lw_tblG := q_g5 (i := 136) rfl rfl
theorem lw_l138 : Cond.methodLink R_law 138 (q_y 293) ∈ lw_tblG := q_g8 (i := 47) rfl rfl
set_option maxHeartbeats 4000000 in
set_option maxRecDepth 100000 in
theorem lw_c29 {p : Program} {l : Launch} {e : Env} {s : State} {m : MethodId} {below : List Frame} {meth : Method} {c : Code} {b L : Nat} {xs : Nat → Int32} {D : va_G} {dom : List q_R} {ad : q_R → Nat} {cA : Nat → ClassId} {tys : List (ClassId × FieldType)} {A : Nat → Prop} {X : State → Prop} {cells slots : Nat} {Q : State → Prop} (C0 : lw_CX p l s m meth c b L xs D dom ad cA tys A X cells slots) {Rel : Nat → q_H → Prop} (hst : lw_S29 Rel) {n i : Nat} (hn : n < 512) (hi : i + 6 ≤ L) (K : lw_K p l e s m below meth c b D dom ad cA cells slots Q (Rel (n + 1)) i)
    {h : q_H} {H : Heap} {locs : List Loc} {ls : Array Slot} (hR : Rel n h) (hP : va_P D vwCl (q_ws dom ad cA h) H) (hS : va_S (fun q => s.heap.size ≤ q) s.heap H locs) (hl : lv_has ls 4 [(0, .ref b), (1, .ref (ad (24, 6, 0))), (2, .ref (ad (30, 7, 0))), (3, .int (nI i))]) :
    W p l e room_1 s m #[Value.ref b] below meth c H locs cells slots Q (F0 m 1125 ls []) := by
  obtain ⟨⟨hx, hb, hrt, hml, hown, hts, hX, hbl, hlocks, hgv⟩, hL, hC, hK, hXX, hXs, hE, hA, d24, d30, hcs, hsl⟩ := id C0
  have hbA : ¬ (fun q : Nat => s.heap.size ≤ q) b := Nat.not_le.mpr hbl
  obtain ⟨r, h1, h2, g1, g2, hR2⟩ := hst n h  hn hR
  refine lv_aload_n hx hb dl_1125 rfl (lv_at hl 1 rfl) ?_
  refine lw_call C0 (mm := 34) (t := 24) (k := 6) (av := []) (rest := []) lw_l135 (by decide) (by decide) rfl rfl rfl d24 (fun v hv => by simp at hv) rfl (Nat.le_of_ble_eq_true rfl) (eRp_mark (d := 11) (by omega) g1) hP hS hl.1 dl_1126 (fun H1 locs1 hP1 hS1 => ?_)
  clear hP hS
  have hP := hP1; have hS := hS1
  refine lv_aload_n hx hb dl_1129 rfl (lv_at hl 2 rfl) ?_
  refine lw_call C0 (mm := 293) (t := 30) (k := 7) (av := []) (rest := [.int r]) lw_l138 (by decide) (by decide) rfl rfl rfl d30 (fun v hv => by simp at hv) rfl (Nat.le_of_ble_eq_true rfl) (eMo_mark (d := 11) (by omega) g2) hP hS hl.1 dl_1130 (fun H1 locs1 hP1 hS1 => ?_)
  clear hP hS
  have hP := hP1; have hS := hS1
  refine lv_icmp_eq (tgt := 1358) hx hb dl_1133 (by decide) (fun _ => K _ _ _ _ hR2 hP hS hl) (fun c1 => absurd rfl c1)
/-- one call of back and of the reference's: the same answer -/
def lw_S30 (Rel : Nat → q_H → Prop) : Prop := ∀ (n : Nat) (h : q_H), n < 512 → Rel n h → ∃ (r : Int32) (h1 : q_H) (h2 : q_H), Rp_back h = some (r, h1) ∧ Mo_back h1 = some (r, h2) ∧ Rel (n + 1) h2
theorem lw_l139 : Cond.methodLink R_law 139 (q_y 35) ∈ lw_tblG := q_g5 (i := 140) rfl rfl
theorem lw_l142 : Cond.methodLink R_law 142 (q_y 294) ∈ lw_tblG := q_g8 (i := 51) rfl rfl
set_option maxHeartbeats 4000000 in
set_option maxRecDepth 100000 in
theorem lw_c30 {p : Program} {l : Launch} {e : Env} {s : State} {m : MethodId} {below : List Frame} {meth : Method} {c : Code} {b L : Nat} {xs : Nat → Int32} {D : va_G} {dom : List q_R} {ad : q_R → Nat} {cA : Nat → ClassId} {tys : List (ClassId × FieldType)} {A : Nat → Prop} {X : State → Prop} {cells slots : Nat} {Q : State → Prop} (C0 : lw_CX p l s m meth c b L xs D dom ad cA tys A X cells slots) {Rel : Nat → q_H → Prop} (hst : lw_S30 Rel) {n i : Nat} (hn : n < 512) (hi : i + 6 ≤ L) (K : lw_K p l e s m below meth c b D dom ad cA cells slots Q (Rel (n + 1)) i)
    {h : q_H} {H : Heap} {locs : List Loc} {ls : Array Slot} (hR : Rel n h) (hP : va_P D vwCl (q_ws dom ad cA h) H) (hS : va_S (fun q => s.heap.size ≤ q) s.heap H locs) (hl : lv_has ls 4 [(0, .ref b), (1, .ref (ad (24, 6, 0))), (2, .ref (ad (30, 7, 0))), (3, .int (nI i))]) :
    W p l e room_1 s m #[Value.ref b] below meth c H locs cells slots Q (F0 m 1138 ls []) := by
  obtain ⟨⟨hx, hb, hrt, hml, hown, hts, hX, hbl, hlocks, hgv⟩, hL, hC, hK, hXX, hXs, hE, hA, d24, d30, hcs, hsl⟩ := id C0
  have hbA : ¬ (fun q : Nat => s.heap.size ≤ q) b := Nat.not_le.mpr hbl
  obtain ⟨r, h1, h2, g1, g2, hR2⟩ := hst n h  hn hR
  refine lv_aload_n hx hb dl_1138 rfl (lv_at hl 1 rfl) ?_
  refine lw_call C0 (mm := 35) (t := 24) (k := 6) (av := []) (rest := []) lw_l139 (by decide) (by decide) rfl rfl rfl d24 (fun v hv => by simp at hv) rfl (Nat.le_of_ble_eq_true rfl) (eRp_back (d := 11) (by omega) g1) hP hS hl.1 dl_1139 (fun H1 locs1 hP1 hS1 => ?_)
  clear hP hS
  have hP := hP1; have hS := hS1
  refine lv_aload_n hx hb dl_1142 rfl (lv_at hl 2 rfl) ?_
  refine lw_call C0 (mm := 294) (t := 30) (k := 7) (av := []) (rest := [.int r]) lw_l142 (by decide) (by decide) rfl rfl rfl d30 (fun v hv => by simp at hv) rfl (Nat.le_of_ble_eq_true rfl) (eMo_back (d := 11) (by omega) g2) hP hS hl.1 dl_1143 (fun H1 locs1 hP1 hS1 => ?_)
  clear hP hS
  have hP := hP1; have hS := hS1
  refine lv_icmp_eq (tgt := 1358) hx hb dl_1146 (by decide) (fun _ => K _ _ _ _ hR2 hP hS hl) (fun c1 => absurd rfl c1)
/-- one call of without and of the reference's: the same answer -/
def lw_S31 (Rel : Nat → q_H → Prop) : Prop := ∀ (n : Nat) (h : q_H) (a1 : Int32), n < 512 → Rel n h → ∃ (r : Int32) (h1 : q_H) (h2 : q_H), Rp_without a1 h = some (r, h1) ∧ Mo_without a1 h1 = some (r, h2) ∧ Rel (n + 1) h2
theorem lw_l143 : Cond.methodLink R_law 143 (q_y 36) ∈ lw_tblG := q_g5 (i := 144) rfl rfl
theorem lw_l146 : Cond.methodLink R_law 146 (q_y 296) ∈ lw_tblG := q_g8 (i := 55) rfl rfl
set_option maxHeartbeats 4000000 in
set_option maxRecDepth 100000 in
theorem lw_c31 {p : Program} {l : Launch} {e : Env} {s : State} {m : MethodId} {below : List Frame} {meth : Method} {c : Code} {b L : Nat} {xs : Nat → Int32} {D : va_G} {dom : List q_R} {ad : q_R → Nat} {cA : Nat → ClassId} {tys : List (ClassId × FieldType)} {A : Nat → Prop} {X : State → Prop} {cells slots : Nat} {Q : State → Prop} (C0 : lw_CX p l s m meth c b L xs D dom ad cA tys A X cells slots) {Rel : Nat → q_H → Prop} (hst : lw_S31 Rel) {n i : Nat} (hn : n < 512) (hi : i + 6 ≤ L) (K : lw_K p l e s m below meth c b D dom ad cA cells slots Q (Rel (n + 1)) i)
    {h : q_H} {H : Heap} {locs : List Loc} {ls : Array Slot} (hR : Rel n h) (hP : va_P D vwCl (q_ws dom ad cA h) H) (hS : va_S (fun q => s.heap.size ≤ q) s.heap H locs) (hl : lv_has ls 4 [(0, .ref b), (1, .ref (ad (24, 6, 0))), (2, .ref (ad (30, 7, 0))), (3, .int (nI i))]) :
    W p l e room_1 s m #[Value.ref b] below meth c H locs cells slots Q (F0 m 1151 ls []) := by
  obtain ⟨⟨hx, hb, hrt, hml, hown, hts, hX, hbl, hlocks, hgv⟩, hL, hC, hK, hXX, hXs, hE, hA, d24, d30, hcs, hsl⟩ := id C0
  have hbA : ¬ (fun q : Nat => s.heap.size ≤ q) b := Nat.not_le.mpr hbl
  obtain ⟨r, h1, h2, g1, g2, hR2⟩ := hst n h (xs (nI i + nI 1).toNatClampNeg) hn hR
  refine lv_aload_n hx hb dl_1151 rfl (lv_at hl 1 rfl) ?_
  refine lv_aload_n hx hb dl_1152 rfl (lv_at hl 0 rfl) ?_
  refine lv_iload_n hx hb dl_1153 rfl (lv_at hl 3 rfl) ?_
  refine lv_iconst (v := nI 1) hx hb dl_1154 rfl ?_
  refine lv_iadd hx hb dl_1155 ?_
  refine va_sld hx hb hX hbl hbA hS (lw_in hL hi 1 (by omega)) dl_1156 ?_
  refine lw_call C0 (mm := 36) (t := 24) (k := 6) (av := [.inl (xs (nI i + nI 1).toNatClampNeg)]) (rest := []) lw_l143 (by decide) (by decide) rfl rfl rfl d24 (fun v hv => by simp at hv; rcases hv with rfl <;> trivial) rfl (Nat.le_of_ble_eq_true rfl) (eRp_without (d := 11) (by omega) g1) hP hS hl.1 dl_1157 (fun H1 locs1 hP1 hS1 => ?_)
  clear hP hS
  have hP := hP1; have hS := hS1
  refine lv_aload_n hx hb dl_1160 rfl (lv_at hl 2 rfl) ?_
  refine lv_aload_n hx hb dl_1161 rfl (lv_at hl 0 rfl) ?_
  refine lv_iload_n hx hb dl_1162 rfl (lv_at hl 3 rfl) ?_
  refine lv_iconst (v := nI 1) hx hb dl_1163 rfl ?_
  refine lv_iadd hx hb dl_1164 ?_
  refine va_sld hx hb hX hbl hbA hS (lw_in hL hi 1 (by omega)) dl_1165 ?_
  refine lw_call C0 (mm := 296) (t := 30) (k := 7) (av := [.inl (xs (nI i + nI 1).toNatClampNeg)]) (rest := [.int r]) lw_l146 (by decide) (by decide) rfl rfl rfl d30 (fun v hv => by simp at hv; rcases hv with rfl <;> trivial) rfl (Nat.le_of_ble_eq_true rfl) (eMo_without (d := 11) (by omega) g2) hP hS hl.1 dl_1166 (fun H1 locs1 hP1 hS1 => ?_)
  clear hP hS
  have hP := hP1; have hS := hS1
  refine lv_icmp_eq (tgt := 1358) hx hb dl_1169 (by decide) (fun _ => K _ _ _ _ hR2 hP hS hl) (fun c1 => absurd rfl c1)
/-- one call of ring and of the reference's: the same answer -/
def lw_S32 (Rel : Nat → q_H → Prop) : Prop := ∀ (n : Nat) (h : q_H) (a1 a2 : Int32), n < 512 → Rel n h → ∃ (r : Int32) (h1 : q_H) (h2 : q_H), Rp_ring a1 a2 h = some (r, h1) ∧ Mo_ring a1 a2 h1 = some (r, h2) ∧ Rel (n + 1) h2
theorem lw_l147 : Cond.methodLink R_law 147 (q_y 37) ∈ lw_tblG := q_g5 (i := 149) rfl rfl
theorem lw_l150 : Cond.methodLink R_law 150 (q_y 300) ∈ lw_tblG := q_g8 (i := 75) rfl rfl
set_option maxHeartbeats 4000000 in
set_option maxRecDepth 100000 in
theorem lw_c32 {p : Program} {l : Launch} {e : Env} {s : State} {m : MethodId} {below : List Frame} {meth : Method} {c : Code} {b L : Nat} {xs : Nat → Int32} {D : va_G} {dom : List q_R} {ad : q_R → Nat} {cA : Nat → ClassId} {tys : List (ClassId × FieldType)} {A : Nat → Prop} {X : State → Prop} {cells slots : Nat} {Q : State → Prop} (C0 : lw_CX p l s m meth c b L xs D dom ad cA tys A X cells slots) {Rel : Nat → q_H → Prop} (hst : lw_S32 Rel) {n i : Nat} (hn : n < 512) (hi : i + 6 ≤ L) (K : lw_K p l e s m below meth c b D dom ad cA cells slots Q (Rel (n + 1)) i)
    {h : q_H} {H : Heap} {locs : List Loc} {ls : Array Slot} (hR : Rel n h) (hP : va_P D vwCl (q_ws dom ad cA h) H) (hS : va_S (fun q => s.heap.size ≤ q) s.heap H locs) (hl : lv_has ls 4 [(0, .ref b), (1, .ref (ad (24, 6, 0))), (2, .ref (ad (30, 7, 0))), (3, .int (nI i))]) :
    W p l e room_1 s m #[Value.ref b] below meth c H locs cells slots Q (F0 m 1174 ls []) := by
  obtain ⟨⟨hx, hb, hrt, hml, hown, hts, hX, hbl, hlocks, hgv⟩, hL, hC, hK, hXX, hXs, hE, hA, d24, d30, hcs, hsl⟩ := id C0
  have hbA : ¬ (fun q : Nat => s.heap.size ≤ q) b := Nat.not_le.mpr hbl
  obtain ⟨r, h1, h2, g1, g2, hR2⟩ := hst n h (xs (nI i + nI 1).toNatClampNeg) (xs (nI i + nI 2).toNatClampNeg) hn hR
  refine lv_aload_n hx hb dl_1174 rfl (lv_at hl 1 rfl) ?_
  refine lv_aload_n hx hb dl_1175 rfl (lv_at hl 0 rfl) ?_
  refine lv_iload_n hx hb dl_1176 rfl (lv_at hl 3 rfl) ?_
  refine lv_iconst (v := nI 1) hx hb dl_1177 rfl ?_
  refine lv_iadd hx hb dl_1178 ?_
  refine va_sld hx hb hX hbl hbA hS (lw_in hL hi 1 (by omega)) dl_1179 ?_
  refine lv_aload_n hx hb dl_1180 rfl (lv_at hl 0 rfl) ?_
  refine lv_iload_n hx hb dl_1181 rfl (lv_at hl 3 rfl) ?_
  refine lv_iconst (v := nI 2) hx hb dl_1182 rfl ?_
  refine lv_iadd hx hb dl_1183 ?_
  refine va_sld hx hb hX hbl hbA hS (lw_in hL hi 2 (by omega)) dl_1184 ?_
  refine lw_call C0 (mm := 37) (t := 24) (k := 6) (av := [.inl (xs (nI i + nI 1).toNatClampNeg), .inl (xs (nI i + nI 2).toNatClampNeg)]) (rest := []) lw_l147 (by decide) (by decide) rfl rfl rfl d24 (fun v hv => by simp at hv; rcases hv with rfl | rfl <;> trivial) rfl (Nat.le_of_ble_eq_true rfl) (eRp_ring (d := 11) (by omega) g1) hP hS hl.1 dl_1185 (fun H1 locs1 hP1 hS1 => ?_)
  clear hP hS
  have hP := hP1; have hS := hS1
  refine lv_aload_n hx hb dl_1188 rfl (lv_at hl 2 rfl) ?_
  refine lv_aload_n hx hb dl_1189 rfl (lv_at hl 0 rfl) ?_
  refine lv_iload_n hx hb dl_1190 rfl (lv_at hl 3 rfl) ?_
  refine lv_iconst (v := nI 1) hx hb dl_1191 rfl ?_
  refine lv_iadd hx hb dl_1192 ?_
  refine va_sld hx hb hX hbl hbA hS (lw_in hL hi 1 (by omega)) dl_1193 ?_
  refine lv_aload_n hx hb dl_1194 rfl (lv_at hl 0 rfl) ?_
  refine lv_iload_n hx hb dl_1195 rfl (lv_at hl 3 rfl) ?_
  refine lv_iconst (v := nI 2) hx hb dl_1196 rfl ?_
  refine lv_iadd hx hb dl_1197 ?_
  refine va_sld hx hb hX hbl hbA hS (lw_in hL hi 2 (by omega)) dl_1198 ?_
  refine lw_call C0 (mm := 300) (t := 30) (k := 7) (av := [.inl (xs (nI i + nI 1).toNatClampNeg), .inl (xs (nI i + nI 2).toNatClampNeg)]) (rest := [.int r]) lw_l150 (by decide) (by decide) rfl rfl rfl d30 (fun v hv => by simp at hv; rcases hv with rfl | rfl <;> trivial) rfl (Nat.le_of_ble_eq_true rfl) (eMo_ring (d := 11) (by omega) g2) hP hS hl.1 dl_1199 (fun H1 locs1 hP1 hS1 => ?_)
  clear hP hS
  have hP := hP1; have hS := hS1
  refine lv_icmp_eq (tgt := 1358) hx hb dl_1202 (by decide) (fun _ => K _ _ _ _ hR2 hP hS hl) (fun c1 => absurd rfl c1)
/-- one call of blocks and of the reference's: the same answer -/
def lw_S33 (Rel : Nat → q_H → Prop) : Prop := ∀ (n : Nat) (h : q_H) (a1 : Int32), n < 512 → Rel n h → ∃ (r : Int32) (h1 : q_H) (h2 : q_H), Rp_blocks a1 h = some (r, h1) ∧ Mo_blocks a1 h1 = some (r, h2) ∧ Rel (n + 1) h2
theorem lw_l151 : Cond.methodLink R_law 151 (q_y 38) ∈ lw_tblG := q_g5 (i := 153) rfl rfl
theorem lw_l154 : Cond.methodLink R_law 154 (q_y 301) ∈ lw_tblG := q_g8 (i := 79) rfl rfl
set_option maxHeartbeats 4000000 in
set_option maxRecDepth 100000 in
theorem lw_c33 {p : Program} {l : Launch} {e : Env} {s : State} {m : MethodId} {below : List Frame} {meth : Method} {c : Code} {b L : Nat} {xs : Nat → Int32} {D : va_G} {dom : List q_R} {ad : q_R → Nat} {cA : Nat → ClassId} {tys : List (ClassId × FieldType)} {A : Nat → Prop} {X : State → Prop} {cells slots : Nat} {Q : State → Prop} (C0 : lw_CX p l s m meth c b L xs D dom ad cA tys A X cells slots) {Rel : Nat → q_H → Prop} (hst : lw_S33 Rel) {n i : Nat} (hn : n < 512) (hi : i + 6 ≤ L) (K : lw_K p l e s m below meth c b D dom ad cA cells slots Q (Rel (n + 1)) i)
    {h : q_H} {H : Heap} {locs : List Loc} {ls : Array Slot} (hR : Rel n h) (hP : va_P D vwCl (q_ws dom ad cA h) H) (hS : va_S (fun q => s.heap.size ≤ q) s.heap H locs) (hl : lv_has ls 4 [(0, .ref b), (1, .ref (ad (24, 6, 0))), (2, .ref (ad (30, 7, 0))), (3, .int (nI i))]) :
    W p l e room_1 s m #[Value.ref b] below meth c H locs cells slots Q (F0 m 1207 ls []) := by
  obtain ⟨⟨hx, hb, hrt, hml, hown, hts, hX, hbl, hlocks, hgv⟩, hL, hC, hK, hXX, hXs, hE, hA, d24, d30, hcs, hsl⟩ := id C0
  have hbA : ¬ (fun q : Nat => s.heap.size ≤ q) b := Nat.not_le.mpr hbl
  obtain ⟨r, h1, h2, g1, g2, hR2⟩ := hst n h (xs (nI i + nI 1).toNatClampNeg) hn hR
  refine lv_aload_n hx hb dl_1207 rfl (lv_at hl 1 rfl) ?_
  refine lv_aload_n hx hb dl_1208 rfl (lv_at hl 0 rfl) ?_
  refine lv_iload_n hx hb dl_1209 rfl (lv_at hl 3 rfl) ?_
  refine lv_iconst (v := nI 1) hx hb dl_1210 rfl ?_
  refine lv_iadd hx hb dl_1211 ?_
  refine va_sld hx hb hX hbl hbA hS (lw_in hL hi 1 (by omega)) dl_1212 ?_
  refine lw_call C0 (mm := 38) (t := 24) (k := 6) (av := [.inl (xs (nI i + nI 1).toNatClampNeg)]) (rest := []) lw_l151 (by decide) (by decide) rfl rfl rfl d24 (fun v hv => by simp at hv; rcases hv with rfl <;> trivial) rfl (Nat.le_of_ble_eq_true rfl) (eRp_blocks (d := 11) (by omega) g1) hP hS hl.1 dl_1213 (fun H1 locs1 hP1 hS1 => ?_)
  clear hP hS
  have hP := hP1; have hS := hS1
  refine lv_aload_n hx hb dl_1216 rfl (lv_at hl 2 rfl) ?_
  refine lv_aload_n hx hb dl_1217 rfl (lv_at hl 0 rfl) ?_
  refine lv_iload_n hx hb dl_1218 rfl (lv_at hl 3 rfl) ?_
  refine lv_iconst (v := nI 1) hx hb dl_1219 rfl ?_
  refine lv_iadd hx hb dl_1220 ?_
  refine va_sld hx hb hX hbl hbA hS (lw_in hL hi 1 (by omega)) dl_1221 ?_
  refine lw_call C0 (mm := 301) (t := 30) (k := 7) (av := [.inl (xs (nI i + nI 1).toNatClampNeg)]) (rest := [.int r]) lw_l154 (by decide) (by decide) rfl rfl rfl d30 (fun v hv => by simp at hv; rcases hv with rfl <;> trivial) rfl (Nat.le_of_ble_eq_true rfl) (eMo_blocks (d := 11) (by omega) g2) hP hS hl.1 dl_1222 (fun H1 locs1 hP1 hS1 => ?_)
  clear hP hS
  have hP := hP1; have hS := hS1
  refine lv_icmp_eq (tgt := 1358) hx hb dl_1225 (by decide) (fun _ => K _ _ _ _ hR2 hP hS hl) (fun c1 => absurd rfl c1)
/-- one call of holder and of the reference's: the same answer -/
def lw_S34 (Rel : Nat → q_H → Prop) : Prop := ∀ (n : Nat) (h : q_H), n < 512 → Rel n h → ∃ (r : Int32) (h1 : q_H) (h2 : q_H), Rp_holder h = some (r, h1) ∧ Mo_holder h1 = some (r, h2) ∧ Rel (n + 1) h2
theorem lw_l155 : Cond.methodLink R_law 155 (q_y 39) ∈ lw_tblG := q_g5 (i := 162) rfl rfl
theorem lw_l158 : Cond.methodLink R_law 158 (q_y 302) ∈ lw_tblG := q_g8 (i := 83) rfl rfl
set_option maxHeartbeats 4000000 in
set_option maxRecDepth 100000 in
theorem lw_c34 {p : Program} {l : Launch} {e : Env} {s : State} {m : MethodId} {below : List Frame} {meth : Method} {c : Code} {b L : Nat} {xs : Nat → Int32} {D : va_G} {dom : List q_R} {ad : q_R → Nat} {cA : Nat → ClassId} {tys : List (ClassId × FieldType)} {A : Nat → Prop} {X : State → Prop} {cells slots : Nat} {Q : State → Prop} (C0 : lw_CX p l s m meth c b L xs D dom ad cA tys A X cells slots) {Rel : Nat → q_H → Prop} (hst : lw_S34 Rel) {n i : Nat} (hn : n < 512) (hi : i + 6 ≤ L) (K : lw_K p l e s m below meth c b D dom ad cA cells slots Q (Rel (n + 1)) i)
    {h : q_H} {H : Heap} {locs : List Loc} {ls : Array Slot} (hR : Rel n h) (hP : va_P D vwCl (q_ws dom ad cA h) H) (hS : va_S (fun q => s.heap.size ≤ q) s.heap H locs) (hl : lv_has ls 4 [(0, .ref b), (1, .ref (ad (24, 6, 0))), (2, .ref (ad (30, 7, 0))), (3, .int (nI i))]) :
    W p l e room_1 s m #[Value.ref b] below meth c H locs cells slots Q (F0 m 1230 ls []) := by
  obtain ⟨⟨hx, hb, hrt, hml, hown, hts, hX, hbl, hlocks, hgv⟩, hL, hC, hK, hXX, hXs, hE, hA, d24, d30, hcs, hsl⟩ := id C0
  have hbA : ¬ (fun q : Nat => s.heap.size ≤ q) b := Nat.not_le.mpr hbl
  obtain ⟨r, h1, h2, g1, g2, hR2⟩ := hst n h  hn hR
  refine lv_aload_n hx hb dl_1230 rfl (lv_at hl 1 rfl) ?_
  refine lw_call C0 (mm := 39) (t := 24) (k := 6) (av := []) (rest := []) lw_l155 (by decide) (by decide) rfl rfl rfl d24 (fun v hv => by simp at hv) rfl (Nat.le_of_ble_eq_true rfl) (eRp_holder (d := 11) (by omega) g1) hP hS hl.1 dl_1231 (fun H1 locs1 hP1 hS1 => ?_)
  clear hP hS
  have hP := hP1; have hS := hS1
  refine lv_aload_n hx hb dl_1234 rfl (lv_at hl 2 rfl) ?_
  refine lw_call C0 (mm := 302) (t := 30) (k := 7) (av := []) (rest := [.int r]) lw_l158 (by decide) (by decide) rfl rfl rfl d30 (fun v hv => by simp at hv) rfl (Nat.le_of_ble_eq_true rfl) (eMo_holder (d := 11) (by omega) g2) hP hS hl.1 dl_1235 (fun H1 locs1 hP1 hS1 => ?_)
  clear hP hS
  have hP := hP1; have hS := hS1
  refine lv_icmp_eq (tgt := 1358) hx hb dl_1238 (by decide) (fun _ => K _ _ _ _ hR2 hP hS hl) (fun c1 => absurd rfl c1)
/-- one call of holds and of the reference's: the same answer -/
def lw_S35 (Rel : Nat → q_H → Prop) : Prop := ∀ (n : Nat) (h : q_H) (a1 : Int32), n < 512 → Rel n h → ∃ (r : Int32) (h1 : q_H) (h2 : q_H), Rp_holds a1 h = some (r, h1) ∧ Mo_holds a1 h1 = some (r, h2) ∧ Rel (n + 1) h2
theorem lw_l159 : Cond.methodLink R_law 159 (q_y 40) ∈ lw_tblG := q_g5 (i := 170) rfl rfl
theorem lw_l162 : Cond.methodLink R_law 162 (q_y 304) ∈ lw_tblG := q_g8 (i := 87) rfl rfl
set_option maxHeartbeats 4000000 in
set_option maxRecDepth 100000 in
theorem lw_c35 {p : Program} {l : Launch} {e : Env} {s : State} {m : MethodId} {below : List Frame} {meth : Method} {c : Code} {b L : Nat} {xs : Nat → Int32} {D : va_G} {dom : List q_R} {ad : q_R → Nat} {cA : Nat → ClassId} {tys : List (ClassId × FieldType)} {A : Nat → Prop} {X : State → Prop} {cells slots : Nat} {Q : State → Prop} (C0 : lw_CX p l s m meth c b L xs D dom ad cA tys A X cells slots) {Rel : Nat → q_H → Prop} (hst : lw_S35 Rel) {n i : Nat} (hn : n < 512) (hi : i + 6 ≤ L) (K : lw_K p l e s m below meth c b D dom ad cA cells slots Q (Rel (n + 1)) i)
    {h : q_H} {H : Heap} {locs : List Loc} {ls : Array Slot} (hR : Rel n h) (hP : va_P D vwCl (q_ws dom ad cA h) H) (hS : va_S (fun q => s.heap.size ≤ q) s.heap H locs) (hl : lv_has ls 4 [(0, .ref b), (1, .ref (ad (24, 6, 0))), (2, .ref (ad (30, 7, 0))), (3, .int (nI i))]) :
    W p l e room_1 s m #[Value.ref b] below meth c H locs cells slots Q (F0 m 1243 ls []) := by
  obtain ⟨⟨hx, hb, hrt, hml, hown, hts, hX, hbl, hlocks, hgv⟩, hL, hC, hK, hXX, hXs, hE, hA, d24, d30, hcs, hsl⟩ := id C0
  have hbA : ¬ (fun q : Nat => s.heap.size ≤ q) b := Nat.not_le.mpr hbl
  obtain ⟨r, h1, h2, g1, g2, hR2⟩ := hst n h (xs (nI i + nI 1).toNatClampNeg) hn hR
  refine lv_aload_n hx hb dl_1243 rfl (lv_at hl 1 rfl) ?_
  refine lv_aload_n hx hb dl_1244 rfl (lv_at hl 0 rfl) ?_
  refine lv_iload_n hx hb dl_1245 rfl (lv_at hl 3 rfl) ?_
  refine lv_iconst (v := nI 1) hx hb dl_1246 rfl ?_
  refine lv_iadd hx hb dl_1247 ?_
  refine va_sld hx hb hX hbl hbA hS (lw_in hL hi 1 (by omega)) dl_1248 ?_
  refine lw_call C0 (mm := 40) (t := 24) (k := 6) (av := [.inl (xs (nI i + nI 1).toNatClampNeg)]) (rest := []) lw_l159 (by decide) (by decide) rfl rfl rfl d24 (fun v hv => by simp at hv; rcases hv with rfl <;> trivial) rfl (Nat.le_of_ble_eq_true rfl) (eRp_holds (d := 11) (by omega) g1) hP hS hl.1 dl_1249 (fun H1 locs1 hP1 hS1 => ?_)
  clear hP hS
  have hP := hP1; have hS := hS1
  refine lv_aload_n hx hb dl_1252 rfl (lv_at hl 2 rfl) ?_
  refine lv_aload_n hx hb dl_1253 rfl (lv_at hl 0 rfl) ?_
  refine lv_iload_n hx hb dl_1254 rfl (lv_at hl 3 rfl) ?_
  refine lv_iconst (v := nI 1) hx hb dl_1255 rfl ?_
  refine lv_iadd hx hb dl_1256 ?_
  refine va_sld hx hb hX hbl hbA hS (lw_in hL hi 1 (by omega)) dl_1257 ?_
  refine lw_call C0 (mm := 304) (t := 30) (k := 7) (av := [.inl (xs (nI i + nI 1).toNatClampNeg)]) (rest := [.int r]) lw_l162 (by decide) (by decide) rfl rfl rfl d30 (fun v hv => by simp at hv; rcases hv with rfl <;> trivial) rfl (Nat.le_of_ble_eq_true rfl) (eMo_holds (d := 11) (by omega) g2) hP hS hl.1 dl_1258 (fun H1 locs1 hP1 hS1 => ?_)
  clear hP hS
  have hP := hP1; have hS := hS1
  refine lv_icmp_eq (tgt := 1358) hx hb dl_1261 (by decide) (fun _ => K _ _ _ _ hR2 hP hS hl) (fun c1 => absurd rfl c1)
/-- one call of gains and of the reference's: the same answer -/
def lw_S36 (Rel : Nat → q_H → Prop) : Prop := ∀ (n : Nat) (h : q_H) (a1 : Int32), n < 512 → Rel n h → ∃ (r : Int32) (h1 : q_H) (h2 : q_H), Rp_gains a1 h = some (r, h1) ∧ Mo_gains a1 h1 = some (r, h2) ∧ Rel (n + 1) h2
theorem lw_l163 : Cond.methodLink R_law 163 (q_y 41) ∈ lw_tblG := q_g5 (i := 179) rfl rfl
theorem lw_l166 : Cond.methodLink R_law 166 (q_y 306) ∈ lw_tblG := q_g8 (i := 95) rfl rfl
set_option maxHeartbeats 4000000 in
set_option maxRecDepth 100000 in
theorem lw_c36 {p : Program} {l : Launch} {e : Env} {s : State} {m : MethodId} {below : List Frame} {meth : Method} {c : Code} {b L : Nat} {xs : Nat → Int32} {D : va_G} {dom : List q_R} {ad : q_R → Nat} {cA : Nat → ClassId} {tys : List (ClassId × FieldType)} {A : Nat → Prop} {X : State → Prop} {cells slots : Nat} {Q : State → Prop} (C0 : lw_CX p l s m meth c b L xs D dom ad cA tys A X cells slots) {Rel : Nat → q_H → Prop} (hst : lw_S36 Rel) {n i : Nat} (hn : n < 512) (hi : i + 6 ≤ L) (K : lw_K p l e s m below meth c b D dom ad cA cells slots Q (Rel (n + 1)) i)
    {h : q_H} {H : Heap} {locs : List Loc} {ls : Array Slot} (hR : Rel n h) (hP : va_P D vwCl (q_ws dom ad cA h) H) (hS : va_S (fun q => s.heap.size ≤ q) s.heap H locs) (hl : lv_has ls 4 [(0, .ref b), (1, .ref (ad (24, 6, 0))), (2, .ref (ad (30, 7, 0))), (3, .int (nI i))]) :
    W p l e room_1 s m #[Value.ref b] below meth c H locs cells slots Q (F0 m 1266 ls []) := by
  obtain ⟨⟨hx, hb, hrt, hml, hown, hts, hX, hbl, hlocks, hgv⟩, hL, hC, hK, hXX, hXs, hE, hA, d24, d30, hcs, hsl⟩ := id C0
  have hbA : ¬ (fun q : Nat => s.heap.size ≤ q) b := Nat.not_le.mpr hbl
  obtain ⟨r, h1, h2, g1, g2, hR2⟩ := hst n h (xs (nI i + nI 1).toNatClampNeg) hn hR
  refine lv_aload_n hx hb dl_1266 rfl (lv_at hl 1 rfl) ?_
  refine lv_aload_n hx hb dl_1267 rfl (lv_at hl 0 rfl) ?_
  refine lv_iload_n hx hb dl_1268 rfl (lv_at hl 3 rfl) ?_
  refine lv_iconst (v := nI 1) hx hb dl_1269 rfl ?_
  refine lv_iadd hx hb dl_1270 ?_
  refine va_sld hx hb hX hbl hbA hS (lw_in hL hi 1 (by omega)) dl_1271 ?_
  refine lw_call C0 (mm := 41) (t := 24) (k := 6) (av := [.inl (xs (nI i + nI 1).toNatClampNeg)]) (rest := []) lw_l163 (by decide) (by decide) rfl rfl rfl d24 (fun v hv => by simp at hv; rcases hv with rfl <;> trivial) rfl (Nat.le_of_ble_eq_true rfl) (eRp_gains (d := 11) (by omega) g1) hP hS hl.1 dl_1272 (fun H1 locs1 hP1 hS1 => ?_)
  clear hP hS
  have hP := hP1; have hS := hS1
  refine lv_aload_n hx hb dl_1275 rfl (lv_at hl 2 rfl) ?_
  refine lv_aload_n hx hb dl_1276 rfl (lv_at hl 0 rfl) ?_
  refine lv_iload_n hx hb dl_1277 rfl (lv_at hl 3 rfl) ?_
  refine lv_iconst (v := nI 1) hx hb dl_1278 rfl ?_
  refine lv_iadd hx hb dl_1279 ?_
  refine va_sld hx hb hX hbl hbA hS (lw_in hL hi 1 (by omega)) dl_1280 ?_
  refine lw_call C0 (mm := 306) (t := 30) (k := 7) (av := [.inl (xs (nI i + nI 1).toNatClampNeg)]) (rest := [.int r]) lw_l166 (by decide) (by decide) rfl rfl rfl d30 (fun v hv => by simp at hv; rcases hv with rfl <;> trivial) rfl (Nat.le_of_ble_eq_true rfl) (eMo_gains (d := 11) (by omega) g2) hP hS hl.1 dl_1281 (fun H1 locs1 hP1 hS1 => ?_)
  clear hP hS
  have hP := hP1; have hS := hS1
  refine lv_icmp_eq (tgt := 1358) hx hb dl_1284 (by decide) (fun _ => K _ _ _ _ hR2 hP hS hl) (fun c1 => absurd rfl c1)
/-- one call of best and of the reference's: the same answer -/
def lw_S37 (Rel : Nat → q_H → Prop) : Prop := ∀ (n : Nat) (h : q_H), n < 512 → Rel n h → ∃ (r : Int32) (h1 : q_H) (h2 : q_H), Rp_best h = some (r, h1) ∧ Mo_best h1 = some (r, h2) ∧ Rel (n + 1) h2
theorem lw_l167 : Cond.methodLink R_law 167 (q_y 42) ∈ lw_tblG := q_g5 (i := 191) rfl rfl
theorem lw_l170 : Cond.methodLink R_law 170 (q_y 307) ∈ lw_tblG := q_g8 (i := 103) rfl rfl
set_option maxHeartbeats 4000000 in
set_option maxRecDepth 100000 in
theorem lw_c37 {p : Program} {l : Launch} {e : Env} {s : State} {m : MethodId} {below : List Frame} {meth : Method} {c : Code} {b L : Nat} {xs : Nat → Int32} {D : va_G} {dom : List q_R} {ad : q_R → Nat} {cA : Nat → ClassId} {tys : List (ClassId × FieldType)} {A : Nat → Prop} {X : State → Prop} {cells slots : Nat} {Q : State → Prop} (C0 : lw_CX p l s m meth c b L xs D dom ad cA tys A X cells slots) {Rel : Nat → q_H → Prop} (hst : lw_S37 Rel) {n i : Nat} (hn : n < 512) (hi : i + 6 ≤ L) (K : lw_K p l e s m below meth c b D dom ad cA cells slots Q (Rel (n + 1)) i)
    {h : q_H} {H : Heap} {locs : List Loc} {ls : Array Slot} (hR : Rel n h) (hP : va_P D vwCl (q_ws dom ad cA h) H) (hS : va_S (fun q => s.heap.size ≤ q) s.heap H locs) (hl : lv_has ls 4 [(0, .ref b), (1, .ref (ad (24, 6, 0))), (2, .ref (ad (30, 7, 0))), (3, .int (nI i))]) :
    W p l e room_1 s m #[Value.ref b] below meth c H locs cells slots Q (F0 m 1289 ls []) := by
  obtain ⟨⟨hx, hb, hrt, hml, hown, hts, hX, hbl, hlocks, hgv⟩, hL, hC, hK, hXX, hXs, hE, hA, d24, d30, hcs, hsl⟩ := id C0
  have hbA : ¬ (fun q : Nat => s.heap.size ≤ q) b := Nat.not_le.mpr hbl
  obtain ⟨r, h1, h2, g1, g2, hR2⟩ := hst n h  hn hR
  refine lv_aload_n hx hb dl_1289 rfl (lv_at hl 1 rfl) ?_
  refine lw_call C0 (mm := 42) (t := 24) (k := 6) (av := []) (rest := []) lw_l167 (by decide) (by decide) rfl rfl rfl d24 (fun v hv => by simp at hv) rfl (Nat.le_of_ble_eq_true rfl) (eRp_best (d := 11) (by omega) g1) hP hS hl.1 dl_1290 (fun H1 locs1 hP1 hS1 => ?_)
  clear hP hS
  have hP := hP1; have hS := hS1
  refine lv_aload_n hx hb dl_1293 rfl (lv_at hl 2 rfl) ?_
  refine lw_call C0 (mm := 307) (t := 30) (k := 7) (av := []) (rest := [.int r]) lw_l170 (by decide) (by decide) rfl rfl rfl d30 (fun v hv => by simp at hv) rfl (Nat.le_of_ble_eq_true rfl) (eMo_best (d := 11) (by omega) g2) hP hS hl.1 dl_1294 (fun H1 locs1 hP1 hS1 => ?_)
  clear hP hS
  have hP := hP1; have hS := hS1
  refine lv_icmp_eq (tgt := 1358) hx hb dl_1297 (by decide) (fun _ => K _ _ _ _ hR2 hP hS hl) (fun c1 => absurd rfl c1)
/-- one call of reads and of the reference's: the same answer -/
def lw_S38 (Rel : Nat → q_H → Prop) : Prop := ∀ (n : Nat) (h : q_H) (a1 a2 : Int32), n < 512 → Rel n h → ∃ (r : Int32) (h1 : q_H) (h2 : q_H), Rp_reads a1 a2 h = some (r, h1) ∧ Mo_reads_ a1 a2 h1 = some (r, h2) ∧ Rel (n + 1) h2
theorem lw_l171 : Cond.methodLink R_law 171 (q_y 43) ∈ lw_tblG := q_g5 (i := 195) rfl rfl
theorem lw_l174 : Cond.methodLink R_law 174 (q_y 308) ∈ lw_tblG := q_g8 (i := 107) rfl rfl
set_option maxHeartbeats 4000000 in
set_option maxRecDepth 100000 in
theorem lw_c38 {p : Program} {l : Launch} {e : Env} {s : State} {m : MethodId} {below : List Frame} {meth : Method} {c : Code} {b L : Nat} {xs : Nat → Int32} {D : va_G} {dom : List q_R} {ad : q_R → Nat} {cA : Nat → ClassId} {tys : List (ClassId × FieldType)} {A : Nat → Prop} {X : State → Prop} {cells slots : Nat} {Q : State → Prop} (C0 : lw_CX p l s m meth c b L xs D dom ad cA tys A X cells slots) {Rel : Nat → q_H → Prop} (hst : lw_S38 Rel) {n i : Nat} (hn : n < 512) (hi : i + 6 ≤ L) (K : lw_K p l e s m below meth c b D dom ad cA cells slots Q (Rel (n + 1)) i)
    {h : q_H} {H : Heap} {locs : List Loc} {ls : Array Slot} (hR : Rel n h) (hP : va_P D vwCl (q_ws dom ad cA h) H) (hS : va_S (fun q => s.heap.size ≤ q) s.heap H locs) (hl : lv_has ls 4 [(0, .ref b), (1, .ref (ad (24, 6, 0))), (2, .ref (ad (30, 7, 0))), (3, .int (nI i))]) :
    W p l e room_1 s m #[Value.ref b] below meth c H locs cells slots Q (F0 m 1302 ls []) := by
  obtain ⟨⟨hx, hb, hrt, hml, hown, hts, hX, hbl, hlocks, hgv⟩, hL, hC, hK, hXX, hXs, hE, hA, d24, d30, hcs, hsl⟩ := id C0
  have hbA : ¬ (fun q : Nat => s.heap.size ≤ q) b := Nat.not_le.mpr hbl
  obtain ⟨r, h1, h2, g1, g2, hR2⟩ := hst n h (xs (nI i + nI 1).toNatClampNeg) (xs (nI i + nI 2).toNatClampNeg) hn hR
  refine lv_aload_n hx hb dl_1302 rfl (lv_at hl 1 rfl) ?_
  refine lv_aload_n hx hb dl_1303 rfl (lv_at hl 0 rfl) ?_
  refine lv_iload_n hx hb dl_1304 rfl (lv_at hl 3 rfl) ?_
  refine lv_iconst (v := nI 1) hx hb dl_1305 rfl ?_
  refine lv_iadd hx hb dl_1306 ?_
  refine va_sld hx hb hX hbl hbA hS (lw_in hL hi 1 (by omega)) dl_1307 ?_
  refine lv_aload_n hx hb dl_1308 rfl (lv_at hl 0 rfl) ?_
  refine lv_iload_n hx hb dl_1309 rfl (lv_at hl 3 rfl) ?_
  refine lv_iconst (v := nI 2) hx hb dl_1310 rfl ?_
  refine lv_iadd hx hb dl_1311 ?_
  refine va_sld hx hb hX hbl hbA hS (lw_in hL hi 2 (by omega)) dl_1312 ?_
  refine lw_call C0 (mm := 43) (t := 24) (k := 6) (av := [.inl (xs (nI i + nI 1).toNatClampNeg), .inl (xs (nI i + nI 2).toNatClampNeg)]) (rest := []) lw_l171 (by decide) (by decide) rfl rfl rfl d24 (fun v hv => by simp at hv; rcases hv with rfl | rfl <;> trivial) rfl (Nat.le_of_ble_eq_true rfl) (eRp_reads (d := 11) (by omega) g1) hP hS hl.1 dl_1313 (fun H1 locs1 hP1 hS1 => ?_)
  clear hP hS
  have hP := hP1; have hS := hS1
  refine lv_aload_n hx hb dl_1316 rfl (lv_at hl 2 rfl) ?_
  refine lv_aload_n hx hb dl_1317 rfl (lv_at hl 0 rfl) ?_
  refine lv_iload_n hx hb dl_1318 rfl (lv_at hl 3 rfl) ?_
  refine lv_iconst (v := nI 1) hx hb dl_1319 rfl ?_
  refine lv_iadd hx hb dl_1320 ?_
  refine va_sld hx hb hX hbl hbA hS (lw_in hL hi 1 (by omega)) dl_1321 ?_
  refine lv_aload_n hx hb dl_1322 rfl (lv_at hl 0 rfl) ?_
  refine lv_iload_n hx hb dl_1323 rfl (lv_at hl 3 rfl) ?_
  refine lv_iconst (v := nI 2) hx hb dl_1324 rfl ?_
  refine lv_iadd hx hb dl_1325 ?_
  refine va_sld hx hb hX hbl hbA hS (lw_in hL hi 2 (by omega)) dl_1326 ?_
  refine lw_call C0 (mm := 308) (t := 30) (k := 7) (av := [.inl (xs (nI i + nI 1).toNatClampNeg), .inl (xs (nI i + nI 2).toNatClampNeg)]) (rest := [.int r]) lw_l174 (by decide) (by decide) rfl rfl rfl d30 (fun v hv => by simp at hv; rcases hv with rfl | rfl <;> trivial) rfl (Nat.le_of_ble_eq_true rfl) (eMo_reads_ (d := 11) (by omega) g2) hP hS hl.1 dl_1327 (fun H1 locs1 hP1 hS1 => ?_)
  clear hP hS
  have hP := hP1; have hS := hS1
  refine lv_icmp_eq (tgt := 1358) hx hb dl_1330 (by decide) (fun _ => K _ _ _ _ hR2 hP hS hl) (fun c1 => absurd rfl c1)
/-- one call of most and of the reference's: the same answer -/
def lw_S39 (Rel : Nat → q_H → Prop) : Prop := ∀ (n : Nat) (h : q_H) (a1 : Int32), n < 512 → Rel n h → ∃ (r : Int32) (h1 : q_H) (h2 : q_H), Rp_most a1 h = some (r, h1) ∧ Mo_most a1 h1 = some (r, h2) ∧ Rel (n + 1) h2
theorem lw_l175 : Cond.methodLink R_law 175 (q_y 44) ∈ lw_tblG := q_g5 (i := 203) rfl rfl
theorem lw_l178 : Cond.methodLink R_law 178 (q_y 309) ∈ lw_tblG := q_g8 (i := 111) rfl rfl
set_option maxHeartbeats 4000000 in
set_option maxRecDepth 100000 in
theorem lw_c39 {p : Program} {l : Launch} {e : Env} {s : State} {m : MethodId} {below : List Frame} {meth : Method} {c : Code} {b L : Nat} {xs : Nat → Int32} {D : va_G} {dom : List q_R} {ad : q_R → Nat} {cA : Nat → ClassId} {tys : List (ClassId × FieldType)} {A : Nat → Prop} {X : State → Prop} {cells slots : Nat} {Q : State → Prop} (C0 : lw_CX p l s m meth c b L xs D dom ad cA tys A X cells slots) {Rel : Nat → q_H → Prop} (hst : lw_S39 Rel) {n i : Nat} (hn : n < 512) (hi : i + 6 ≤ L) (K : lw_K p l e s m below meth c b D dom ad cA cells slots Q (Rel (n + 1)) i)
    {h : q_H} {H : Heap} {locs : List Loc} {ls : Array Slot} (hR : Rel n h) (hP : va_P D vwCl (q_ws dom ad cA h) H) (hS : va_S (fun q => s.heap.size ≤ q) s.heap H locs) (hl : lv_has ls 4 [(0, .ref b), (1, .ref (ad (24, 6, 0))), (2, .ref (ad (30, 7, 0))), (3, .int (nI i))]) :
    W p l e room_1 s m #[Value.ref b] below meth c H locs cells slots Q (F0 m 1335 ls []) := by
  obtain ⟨⟨hx, hb, hrt, hml, hown, hts, hX, hbl, hlocks, hgv⟩, hL, hC, hK, hXX, hXs, hE, hA, d24, d30, hcs, hsl⟩ := id C0
  have hbA : ¬ (fun q : Nat => s.heap.size ≤ q) b := Nat.not_le.mpr hbl
  obtain ⟨r, h1, h2, g1, g2, hR2⟩ := hst n h (xs (nI i + nI 1).toNatClampNeg) hn hR
  refine lv_aload_n hx hb dl_1335 rfl (lv_at hl 1 rfl) ?_
  refine lv_aload_n hx hb dl_1336 rfl (lv_at hl 0 rfl) ?_
  refine lv_iload_n hx hb dl_1337 rfl (lv_at hl 3 rfl) ?_
  refine lv_iconst (v := nI 1) hx hb dl_1338 rfl ?_
  refine lv_iadd hx hb dl_1339 ?_
  refine va_sld hx hb hX hbl hbA hS (lw_in hL hi 1 (by omega)) dl_1340 ?_
  refine lw_call C0 (mm := 44) (t := 24) (k := 6) (av := [.inl (xs (nI i + nI 1).toNatClampNeg)]) (rest := []) lw_l175 (by decide) (by decide) rfl rfl rfl d24 (fun v hv => by simp at hv; rcases hv with rfl <;> trivial) rfl (Nat.le_of_ble_eq_true rfl) (eRp_most (d := 11) (by omega) g1) hP hS hl.1 dl_1341 (fun H1 locs1 hP1 hS1 => ?_)
  clear hP hS
  have hP := hP1; have hS := hS1
  refine lv_aload_n hx hb dl_1344 rfl (lv_at hl 2 rfl) ?_
  refine lv_aload_n hx hb dl_1345 rfl (lv_at hl 0 rfl) ?_
  refine lv_iload_n hx hb dl_1346 rfl (lv_at hl 3 rfl) ?_
  refine lv_iconst (v := nI 1) hx hb dl_1347 rfl ?_
  refine lv_iadd hx hb dl_1348 ?_
  refine va_sld hx hb hX hbl hbA hS (lw_in hL hi 1 (by omega)) dl_1349 ?_
  refine lw_call C0 (mm := 309) (t := 30) (k := 7) (av := [.inl (xs (nI i + nI 1).toNatClampNeg)]) (rest := [.int r]) lw_l178 (by decide) (by decide) rfl rfl rfl d30 (fun v hv => by simp at hv; rcases hv with rfl <;> trivial) rfl (Nat.le_of_ble_eq_true rfl) (eMo_most (d := 11) (by omega) g2) hP hS hl.1 dl_1350 (fun H1 locs1 hP1 hS1 => ?_)
  clear hP hS
  have hP := hP1; have hS := hS1
  refine lv_icmp_eq (tgt := 1358) hx hb dl_1353 (by decide) (fun _ => K _ _ _ _ hR2 hP hS hl) (fun c1 => absurd rfl c1)
