set_option maxRecDepth 100000 in
theorem jw_CS : Cond.fieldLink RJ0 38 "java/lang/String" "COMPACT_STRINGS" "Z" ∈ lw_tblG := q_g3 (i := 34) rfl rfl
set_option maxRecDepth 100000 in
theorem jw_co : Cond.fieldLink RJ0 15 "java/lang/String" "coder" "B" ∈ lw_tblG := q_g8 (i := 116) rfl rfl
set_option maxRecDepth 100000 in
theorem jw_va : Cond.fieldLink RJ0 9 "java/lang/String" "value" "[B" ∈ lw_tblG := q_g8 (i := 115) rfl rfl
set_option maxRecDepth 100000 in
theorem jw_SI : Cond.fieldLink RJ0 1053 "jdk/internal/util/Preconditions" "SIOOBE_FORMATTER" "Ljava/util/function/BiFunction;" ∈ lw_tblG := q_g3 (i := 50) rfl rfl
set_option maxRecDepth 100000 in
theorem jw_J0co_c : Cond.code yJ0_coder_7d493 cJ0_coder_7d493 1 (some .byte) ∈ lw_tblG := q_g3 (i := 33) rfl rfl
set_option maxRecDepth 100000 in
theorem jw_J0co_i : Cond.initialized yJ0_coder_7d493.cls ∈ lw_tblG := q_g1 (i := 13) rfl rfl
set_option maxRecDepth 100000 in
theorem jw_J0co_v : Cond.instanceMethod yJ0_coder_7d493 ∈ lw_tblG := q_g3 (i := 31) rfl rfl
set_option maxRecDepth 100000 in
theorem jw_J0co_s : Cond.selects yJ0_coder_7d493.cls yJ0_coder_7d493 yJ0_coder_7d493 ∈ lw_tblG := q_g3 (i := 32) rfl rfl
set_option maxRecDepth 100000 in
theorem jw_J0is_c : Cond.code yJ0_isLatin1_aae02 cJ0_isLatin1_aae02 1 (some .boolean) ∈ lw_tblG := q_g3 (i := 43) rfl rfl
set_option maxRecDepth 100000 in
theorem jw_J0is_i : Cond.initialized yJ0_isLatin1_aae02.cls ∈ lw_tblG := q_g1 (i := 13) rfl rfl
set_option maxRecDepth 100000 in
theorem jw_J0is_v : Cond.instanceMethod yJ0_isLatin1_aae02 ∈ lw_tblG := q_g3 (i := 41) rfl rfl
set_option maxRecDepth 100000 in
theorem jw_J0is_s : Cond.selects yJ0_isLatin1_aae02.cls yJ0_isLatin1_aae02 yJ0_isLatin1_aae02 ∈ lw_tblG := q_g3 (i := 42) rfl rfl
set_option maxRecDepth 100000 in
theorem jw_J1ch_c : Cond.code yJ1_charAt_3b067 cJ1_charAt_3b067 2 (some .char) ∈ lw_tblG := q_g3 (i := 46) rfl rfl
set_option maxRecDepth 100000 in
theorem jw_J1ch_i : Cond.initialized yJ1_charAt_3b067.cls ∈ lw_tblG := q_g1 (i := 14) rfl rfl
set_option maxRecDepth 100000 in
theorem jw_J1ch_v : Cond.static yJ1_charAt_3b067 ∈ lw_tblG := q_g3 (i := 45) rfl rfl
set_option maxRecDepth 100000 in
theorem jw_J0ch_c : Cond.code yJ0_checkIndex_df160 cJ0_checkIndex_df160 2 none ∈ lw_tblG := q_g3 (i := 49) rfl rfl
set_option maxRecDepth 100000 in
theorem jw_J0ch_i : Cond.initialized yJ0_checkIndex_df160.cls ∈ lw_tblG := q_g1 (i := 13) rfl rfl
set_option maxRecDepth 100000 in
theorem jw_J0ch_v : Cond.static yJ0_checkIndex_df160 ∈ lw_tblG := q_g3 (i := 48) rfl rfl
set_option maxRecDepth 100000 in
theorem jw_J3ch_c : Cond.code yJ3_checkIndex_8e157 cJ3_checkIndex_8e157 3 (some .int) ∈ lw_tblG := q_g3 (i := 54) rfl rfl
set_option maxRecDepth 100000 in
theorem jw_J3ch_i : Cond.initialized yJ3_checkIndex_8e157.cls ∈ lw_tblG := q_g1 (i := 15) rfl rfl
set_option maxRecDepth 100000 in
theorem jw_J3ch_v : Cond.static yJ3_checkIndex_8e157 ∈ lw_tblG := q_g3 (i := 53) rfl rfl
set_option maxRecDepth 100000 in
theorem jw_l335 : Cond.methodLink RJ0 335 yJ0_coder_7d493 ∈ lw_tblG := q_g3 (i := 30) rfl rfl
set_option maxRecDepth 100000 in
theorem jw_l492 : Cond.methodLink RJ0 492 yJ0_isLatin1_aae02 ∈ lw_tblG := q_g3 (i := 40) rfl rfl
set_option maxRecDepth 100000 in
theorem jw_l495 : Cond.methodLink RJ0 495 yJ1_charAt_3b067 ∈ lw_tblG := q_g3 (i := 44) rfl rfl
set_option maxRecDepth 100000 in
theorem jw_l9 : Cond.methodLink RJ1 9 yJ0_checkIndex_df160 ∈ lw_tblG := q_g3 (i := 47) rfl rfl
set_option maxRecDepth 100000 in
theorem jw_l1059 : Cond.methodLink RJ0 1059 yJ3_checkIndex_8e157 ∈ lw_tblG := q_g3 (i := 52) rfl rfl
theorem dJ0_length_8abf5_0 : decode cJ0_length_8abf5 0 = .ok (.aload_n 0, 1) := by decide +kernel
theorem dJ0_length_8abf5_1 : decode cJ0_length_8abf5 1 = .ok (.getfield 9, 3) := by decide +kernel
theorem dJ0_length_8abf5_4 : decode cJ0_length_8abf5 4 = .ok (.arraylength, 1) := by decide +kernel
theorem dJ0_length_8abf5_5 : decode cJ0_length_8abf5 5 = .ok (.aload_n 0, 1) := by decide +kernel
theorem dJ0_length_8abf5_6 : decode cJ0_length_8abf5 6 = .ok (.invokevirtual 335, 3) := by decide +kernel
theorem dJ0_length_8abf5_9 : decode cJ0_length_8abf5 9 = .ok (.ishr, 1) := by decide +kernel
theorem dJ0_length_8abf5_10 : decode cJ0_length_8abf5 10 = .ok (.ireturn, 1) := by decide +kernel
theorem dJ0_charAt_5068e_0 : decode cJ0_charAt_5068e 0 = .ok (.aload_n 0, 1) := by decide +kernel
theorem dJ0_charAt_5068e_1 : decode cJ0_charAt_5068e 1 = .ok (.invokevirtual 492, 3) := by decide +kernel
theorem dJ0_charAt_5068e_4 : decode cJ0_charAt_5068e 4 = .ok (.ifCond .eq 12, 3) := by decide +kernel
theorem dJ0_charAt_5068e_7 : decode cJ0_charAt_5068e 7 = .ok (.aload_n 0, 1) := by decide +kernel
theorem dJ0_charAt_5068e_8 : decode cJ0_charAt_5068e 8 = .ok (.getfield 9, 3) := by decide +kernel
theorem dJ0_charAt_5068e_11 : decode cJ0_charAt_5068e 11 = .ok (.iload_n 1, 1) := by decide +kernel
theorem dJ0_charAt_5068e_12 : decode cJ0_charAt_5068e 12 = .ok (.invokestatic 495, 3) := by decide +kernel
theorem dJ0_charAt_5068e_15 : decode cJ0_charAt_5068e 15 = .ok (.ireturn, 1) := by decide +kernel
theorem dJ0_charAt_5068e_16 : decode cJ0_charAt_5068e 16 = .ok (.aload_n 0, 1) := by decide +kernel
theorem dJ0_charAt_5068e_17 : decode cJ0_charAt_5068e 17 = .ok (.getfield 9, 3) := by decide +kernel
theorem dJ0_charAt_5068e_20 : decode cJ0_charAt_5068e 20 = .ok (.iload_n 1, 1) := by decide +kernel
theorem dJ0_charAt_5068e_21 : decode cJ0_charAt_5068e 21 = .ok (.invokestatic 498, 3) := by decide +kernel
theorem dJ0_charAt_5068e_24 : decode cJ0_charAt_5068e 24 = .ok (.ireturn, 1) := by decide +kernel
theorem dJ0_coder_7d493_0 : decode cJ0_coder_7d493 0 = .ok (.getstatic 38, 3) := by decide +kernel
theorem dJ0_coder_7d493_3 : decode cJ0_coder_7d493 3 = .ok (.ifCond .eq 10, 3) := by decide +kernel
theorem dJ0_coder_7d493_6 : decode cJ0_coder_7d493 6 = .ok (.aload_n 0, 1) := by decide +kernel
theorem dJ0_coder_7d493_7 : decode cJ0_coder_7d493 7 = .ok (.getfield 15, 3) := by decide +kernel
theorem dJ0_coder_7d493_10 : decode cJ0_coder_7d493 10 = .ok (.goto 4, 3) := by decide +kernel
theorem dJ0_coder_7d493_13 : decode cJ0_coder_7d493 13 = .ok (.iconst 1, 1) := by decide +kernel
theorem dJ0_coder_7d493_14 : decode cJ0_coder_7d493 14 = .ok (.ireturn, 1) := by decide +kernel
theorem dJ0_isLatin1_aae02_0 : decode cJ0_isLatin1_aae02 0 = .ok (.getstatic 38, 3) := by decide +kernel
theorem dJ0_isLatin1_aae02_3 : decode cJ0_isLatin1_aae02 3 = .ok (.ifCond .eq 14, 3) := by decide +kernel
theorem dJ0_isLatin1_aae02_6 : decode cJ0_isLatin1_aae02 6 = .ok (.aload_n 0, 1) := by decide +kernel
theorem dJ0_isLatin1_aae02_7 : decode cJ0_isLatin1_aae02 7 = .ok (.getfield 15, 3) := by decide +kernel
theorem dJ0_isLatin1_aae02_10 : decode cJ0_isLatin1_aae02 10 = .ok (.ifCond .ne 7, 3) := by decide +kernel
theorem dJ0_isLatin1_aae02_13 : decode cJ0_isLatin1_aae02 13 = .ok (.iconst 1, 1) := by decide +kernel
theorem dJ0_isLatin1_aae02_14 : decode cJ0_isLatin1_aae02 14 = .ok (.goto 4, 3) := by decide +kernel
theorem dJ0_isLatin1_aae02_17 : decode cJ0_isLatin1_aae02 17 = .ok (.iconst 0, 1) := by decide +kernel
theorem dJ0_isLatin1_aae02_18 : decode cJ0_isLatin1_aae02 18 = .ok (.ireturn, 1) := by decide +kernel
theorem dJ0_checkIndex_df160_0 : decode cJ0_checkIndex_df160 0 = .ok (.iload_n 0, 1) := by decide +kernel
theorem dJ0_checkIndex_df160_1 : decode cJ0_checkIndex_df160 1 = .ok (.iload_n 1, 1) := by decide +kernel
theorem dJ0_checkIndex_df160_2 : decode cJ0_checkIndex_df160 2 = .ok (.getstatic 1053, 3) := by decide +kernel
theorem dJ0_checkIndex_df160_5 : decode cJ0_checkIndex_df160 5 = .ok (.invokestatic 1059, 3) := by decide +kernel
theorem dJ0_checkIndex_df160_8 : decode cJ0_checkIndex_df160 8 = .ok (.pop, 1) := by decide +kernel
theorem dJ0_checkIndex_df160_9 : decode cJ0_checkIndex_df160 9 = .ok (.return_, 1) := by decide +kernel
theorem dJ1_charAt_3b067_0 : decode cJ1_charAt_3b067 0 = .ok (.iload_n 1, 1) := by decide +kernel
theorem dJ1_charAt_3b067_1 : decode cJ1_charAt_3b067 1 = .ok (.aload_n 0, 1) := by decide +kernel
theorem dJ1_charAt_3b067_2 : decode cJ1_charAt_3b067 2 = .ok (.arraylength, 1) := by decide +kernel
theorem dJ1_charAt_3b067_3 : decode cJ1_charAt_3b067 3 = .ok (.invokestatic 9, 3) := by decide +kernel
theorem dJ1_charAt_3b067_6 : decode cJ1_charAt_3b067 6 = .ok (.aload_n 0, 1) := by decide +kernel
theorem dJ1_charAt_3b067_7 : decode cJ1_charAt_3b067 7 = .ok (.iload_n 1, 1) := by decide +kernel
theorem dJ1_charAt_3b067_8 : decode cJ1_charAt_3b067 8 = .ok (.baload, 1) := by decide +kernel
theorem dJ1_charAt_3b067_9 : decode cJ1_charAt_3b067 9 = .ok (.sipush 255, 3) := by decide +kernel
theorem dJ1_charAt_3b067_12 : decode cJ1_charAt_3b067 12 = .ok (.iand, 1) := by decide +kernel
theorem dJ1_charAt_3b067_13 : decode cJ1_charAt_3b067 13 = .ok (.i2c, 1) := by decide +kernel
theorem dJ1_charAt_3b067_14 : decode cJ1_charAt_3b067 14 = .ok (.ireturn, 1) := by decide +kernel
theorem dJ3_checkIndex_8e157_0 : decode cJ3_checkIndex_8e157 0 = .ok (.iload_n 0, 1) := by decide +kernel
theorem dJ3_checkIndex_8e157_1 : decode cJ3_checkIndex_8e157 1 = .ok (.ifCond .lt 8, 3) := by decide +kernel
theorem dJ3_checkIndex_8e157_4 : decode cJ3_checkIndex_8e157 4 = .ok (.iload_n 0, 1) := by decide +kernel
theorem dJ3_checkIndex_8e157_5 : decode cJ3_checkIndex_8e157 5 = .ok (.iload_n 1, 1) := by decide +kernel
theorem dJ3_checkIndex_8e157_6 : decode cJ3_checkIndex_8e157 6 = .ok (.if_icmp .lt 10, 3) := by decide +kernel
theorem dJ3_checkIndex_8e157_9 : decode cJ3_checkIndex_8e157 9 = .ok (.aload_n 2, 1) := by decide +kernel
theorem dJ3_checkIndex_8e157_10 : decode cJ3_checkIndex_8e157 10 = .ok (.iload_n 0, 1) := by decide +kernel
theorem dJ3_checkIndex_8e157_11 : decode cJ3_checkIndex_8e157 11 = .ok (.iload_n 1, 1) := by decide +kernel
theorem dJ3_checkIndex_8e157_12 : decode cJ3_checkIndex_8e157 12 = .ok (.invokestatic 95, 3) := by decide +kernel
theorem dJ3_checkIndex_8e157_15 : decode cJ3_checkIndex_8e157 15 = .ok (.athrow, 1) := by decide +kernel
theorem dJ3_checkIndex_8e157_16 : decode cJ3_checkIndex_8e157 16 = .ok (.iload_n 0, 1) := by decide +kernel
theorem dJ3_checkIndex_8e157_17 : decode cJ3_checkIndex_8e157 17 = .ok (.ireturn, 1) := by decide +kernel
def j_M (l : Launch) (D : va_G) (dom : List q_R) (ad : q_R → Nat) (cA : Nat → ClassId) (tys : List (ClassId × FieldType)) (A : Nat → Prop) (X : State → Prop) (d : Nat) (y : MethodName) (b : ByteArray) (ml : Nat) (rt : Option FieldType) (vs : List Value) (h : q_H) (res : q_O) : Prop :=
  Met l y (Cond.code y b ml rt :: lw_tblG) (q_rm d) (va_Pc vs (fun U => va_P D vwCl (q_ws dom ad cA h) U.heap ∧ va_K D vwCl tys U ∧ X U)) (q_Qc D dom ad cA A res) 0 0 A
theorem j_wsin {y : MethodName} {b : ByteArray} {ml : Nat} {rt : Option FieldType} (k1 : Cond.code y b ml rt ∈ lw_tblG) : GoodIn lw_tblG (Cond.code y b ml rt :: lw_tblG) := by
  intro w hw
  have hg : ∀ w ∈ lw_tblG, w ∈ lw_tblG ∧ ((w.onTables && w.keeps) = true ∨ ∃ ty, w = .arrayClass ty) := fun w h => ⟨h, good_of_word (List.mem_filter.mp h).2⟩
  rcases List.mem_cons.mp hw with rfl | hw
  · exact hg _ k1
  · exact hg _ hw
section JJ
variable {l : Launch} {D : va_G} {dom : List q_R} {ad : q_R → Nat} {cA : Nat → ClassId} {tys : List (ClassId × FieldType)} {A : Nat → Prop} {X : State → Prop} {d : Nat}
theorem j_met {y : MethodName} {b : ByteArray} {ml : Nat} {rt : Option FieldType} {vs : List Value} {h : q_H} {res : q_O} (hpl : plainName y.cls = true) (hct : (lg_sl vs).length ≤ ml)
    (body : ∀ (p : Program) (e : Env) (s : State) (m : MethodId) (below : List Frame) (meth : Method) (c : Code) (ls : Array Slot), p.tables.exec = Jvm.exec → c.code = b → c.maxLocals = ml → meth.sig.returnType = rt → meth.locks = false → s.vm.findClass y.cls = some m.cls → (∀ w ∈ lw_tblG, w.before vs.toArray s = true) → va_P D vwCl (q_ws dom ad cA h) s.heap → va_K D vwCl tys s → X s → ls.size = ml → (∀ q ∈ lv_args 0 vs, ls[q.1]? = some (.val q.2)) →
      W p l e (q_rm d) s m vs.toArray below meth c s.heap [] 0 0 (MQ below (q_Qc D dom ad cA A res) vs.toArray s 0 0 A) (F0 m 0 ls [])) : j_M l D dom ad cA tys A X d y b ml rt vs h res := by
  refine Met.ofW (cc := b) (maxL := ml) (ret := rt) (ws' := lw_tblG) hpl rfl ?_
  intro p e s mi args below meth c s₁ B hml hv
  obtain ⟨rfl, hP, hK, hXs⟩ := hv
  have hts := atoms_spec (ws := Cond.code y b ml rt :: lw_tblG) B.pre
  have hl := lv_entry vs (n := ml) hct
  rw [lg_entry_eq]
  exact body p e s mi below meth c _ B.exec B.bytes hml B.returns B.notSynchronized (findClass_of_methodNamed B.named) (fun w hw => hts w (List.mem_cons_of_mem _ hw)) hP hK hXs hl.1 hl.2.2
variable {p : Program} {e : Env} {R : Room} {s : State} {m : MethodId} {args : Array Value} {below : List Frame} {meth : Method} {c : Code} {cc : ByteArray} {nL : Nat}
theorem j_hp (hK : va_K D vwCl tys s) (hX : q_XX ad A X) (hXs : X s) {H : Heap} {locs : List Loc} {h : q_H} (hP : va_P D vwCl (q_ws dom ad cA h) H) (hS : va_S A s.heap H locs) (As : List Value) :
    PreS s H (va_Pc As (fun U => va_P D vwCl (q_ws dom ad cA h) U.heap ∧ va_K D vwCl tys U ∧ X U)) As :=
  ⟨fun a U g mk q => ⟨q.1, q.2.1, va_K.moved (u := U) (U := U.calling g mk a) (Vm.Alike.refl U.vm) q.2.2.1, hX.2.1 a U g mk q.2.2.2⟩,
   fun U hU hW => ⟨rfl, by rw [hU]; exact hP, va_K.moved hW.alike hK, hX.1 s U hW (by rw [hU]; exact hS.1) (fun q h1 h2 => by rw [hU]; exact hS.2.1 q h1 h2) hXs⟩⟩
theorem j_cS {y : MethodName} {b : ByteArray} {ml : Nat} {rt : Option FieldType} {own : String} {index pc : Nat} {As rest : List Value} {res : q_O} {h : q_H} {Q : State → Prop} {H : Heap} {locs : List Loc} {ls : Array Slot} (hR : R = q_rm (d + 1)) (hx : p.tables.exec = Jvm.exec) (hb : c.code = cc) (hmlc : c.maxLocals = nL) (hown : s.vm.findClass own = some m.cls) (hts : ∀ w ∈ lw_tblG, w.before args s = true) (hX : q_XX ad A X) (hXs : X s) (hK : va_K D vwCl tys s)
    (hP : va_P D vwCl (q_ws dom ad cA h) H) (hS : va_S A s.heap H locs) (hM : j_M l D dom ad cA tys A X d y b ml rt As h res) (k1 : Cond.code y b ml rt ∈ lw_tblG) (k2 : Cond.initialized y.cls ∈ lw_tblG) (k3 : Cond.static y ∈ lw_tblG) (k4 : Cond.methodLink own index y ∈ lw_tblG) (hn : y.cls ≠ "java/lang/invoke/MethodHandle" ∧ y.cls ≠ "java/lang/invoke/VarHandle")
    (hsig : ∀ sig, parseMethodDescriptor y.desc = some sig → As.length = sig.parameters.length) (h11 : ml ≤ 11) (hls : ls.size = nL) (hct : (rest.map fun v => v.category).sum ≤ 8) (hdg : decode cc pc = .ok (.invokestatic index, 3))
    (kk : ∀ (H1 : Heap) (locs1 : List Loc), va_P D vwCl (q_ws dom ad cA res.2) H1 → va_S A s.heap H1 locs1 → W p l e R s m args below meth c H1 locs1 0 0 Q (F0 m (pc + 3) ls ((res.1.map (q_v ad)).toList ++ rest))) :
    W p l e R s m args below meth c H locs 0 0 Q (F0 m pc ls (As.reverse ++ rest)) := by
  have hrun := va_runS (p := p) (l := l) (e := e) (R := R) (below := below) (meth := meth) (locs := locs) (cells := 0) (slots := 0) (g := F0 m pc ls (As.reverse ++ rest)) (As := As) (rest := rest) (n := As.length) (H := H) (ret := rt) (bytes := b) (maxL := ml) (show CallFix p m c cc nL s args lw_tblG own from ⟨hx, hb, hmlc, hown, hts⟩) hM
    ⟨⟨rfl, rfl, by rw [hR]; exact Nat.le_refl _, by rw [hR]; show 8 + (ml + 11) + 30 * d ≤ 30 * (d + 1); omega, pay_in hts (j_wsin k1), List.mem_cons_self, hts _ k1, hts _ k2, hn, hsig, hts _ k4⟩, hts _ k3⟩
    (j_hp hK hX hXs hP hS As) rfl rfl hls rfl (lv_room hct) hdg ⟨by rw [hR]; exact Nat.le_refl _, by rw [hR]; exact Nat.le_refl _⟩
  exact q_callx hrun hS (fun H1 locs1 _ hP1 hS1 => kk H1 locs1 hP1 hS1)
theorem j_cV {y : MethodName} {b : ByteArray} {ml : Nat} {rt : Option FieldType} {own : String} {index pc r : Nat} {As rest : List Value} {res : q_O} {h : q_H} {Q : State → Prop} {H : Heap} {locs : List Loc} {ls : Array Slot} (hR : R = q_rm (d + 1)) (hx : p.tables.exec = Jvm.exec) (hb : c.code = cc) (hmlc : c.maxLocals = nL) (hown : s.vm.findClass own = some m.cls) (hts : ∀ w ∈ lw_tblG, w.before args s = true) (hX : q_XX ad A X) (hXs : X s) (hK : va_K D vwCl tys s)
    (hP : va_P D vwCl (q_ws dom ad cA h) H) (hS : va_S A s.heap H locs) (hM : j_M l D dom ad cA tys A X d y b ml rt (.ref r :: As) h res) (k1 : Cond.code y b ml rt ∈ lw_tblG) (k2 : Cond.initialized y.cls ∈ lw_tblG) (k3 : Cond.instanceMethod y ∈ lw_tblG) (k5 : Cond.selects y.cls y y ∈ lw_tblG) (k4 : Cond.methodLink own index y ∈ lw_tblG) (hn : y.cls ≠ "java/lang/invoke/MethodHandle" ∧ y.cls ≠ "java/lang/invoke/VarHandle")
    (hrc : ∃ cellB : Cell, H[r]? = some cellB ∧ cellB.vm.isStatics = false ∧ s.vm.findClass y.cls = some cellB.cls)
    (hsig : ∀ sig, parseMethodDescriptor y.desc = some sig → As.length = sig.parameters.length) (h11 : ml ≤ 11) (hls : ls.size = nL) (hct : (rest.map fun v => v.category).sum ≤ 8) (hdg : decode cc pc = .ok (.invokevirtual index, 3))
    (kk : ∀ (H1 : Heap) (locs1 : List Loc), va_P D vwCl (q_ws dom ad cA res.2) H1 → va_S A s.heap H1 locs1 → W p l e R s m args below meth c H1 locs1 0 0 Q (F0 m (pc + 3) ls ((res.1.map (q_v ad)).toList ++ rest))) :
    W p l e R s m args below meth c H locs 0 0 Q (F0 m pc ls (As.reverse ++ .ref r :: rest)) := by
  have hp := j_hp hK hX hXs hP hS (.ref r :: As)
  have hrun := va_runV (p := p) (l := l) (e := e) (R := R) (below := below) (meth := meth) (locs := locs) (cells := 0) (slots := 0) (g := F0 m pc ls (As.reverse ++ .ref r :: rest)) (As := As) (rest := rest) (n := As.length) (C := y.cls) (b := r) (H := H) (ret := rt) (bytes := b) (maxL := ml) (show CallFix p m c cc nL s args lw_tblG own from ⟨hx, hb, hmlc, hown, hts⟩) hM
    ⟨⟨rfl, rfl, by rw [hR]; exact Nat.le_refl _, by rw [hR]; show 8 + (ml + 11) + 30 * d ≤ 30 * (d + 1); omega, pay_in hts (j_wsin k1), List.mem_cons_self, hts _ k1, hts _ k2, hn, hsig, hts _ k4⟩, hts _ k3, hts _ k5⟩
    ⟨hp.1, hrc, hp.2⟩ rfl rfl hls rfl (lv_room hct) hdg ⟨by rw [hR]; exact Nat.le_refl _, by rw [hR]; exact Nat.le_refl _⟩
  exact q_callx hrun hS (fun H1 locs1 _ hP1 hS1 => kk H1 locs1 hP1 hS1)
end JJ
theorem j_ch : ∀ i, i < 14 → ∀ j, j < q_len.getD i 0 → (((((q_byt.getD i []).getD j 0) &&& 255).toUInt32 % 65536).toInt32 = Int32.ofNat ((q_strs.getD i []).getD j 0)) ∧ ((Int32.ofNat ((q_strs.getD i []).getD j 0)).toUInt32 % 65536).toInt32 = Int32.ofNat ((q_strs.getD i []).getD j 0) := by decide +kernel
theorem j_l31 : ∀ i, i < 14 → q_len.getD i 0 < 2 ^ 31 := by decide
theorem j_ls : ∀ i, i < 14 → q_strs[i]? = some (q_strs.getD i []) ∧ (q_strs.getD i []).length = q_len.getD i 0 := by decide
theorem j_nc {z : Int32} (h : (z.toUInt32 % 65536).toInt32 = z) : narrow .char (.int z) = .int z := by
  show Value.int _ = _
  exact congrArg Value.int h
section JK
variable {l : Launch} {D : va_G} {dom : List q_R} {ad : q_R → Nat} {cA : Nat → ClassId} {tys : List (ClassId × FieldType)} {A : Nat → Prop} {adV : Nat → Nat}
theorem j_coder (d i : Nat) (hi : i < 14) (h : q_H) : j_M l D dom ad cA tys A (lw_X (fun i => ad (60, 0, i)) adV A) d yJ0_coder_7d493 cJ0_coder_7d493 1 (some .byte) [.ref (ad (60, 0, i))] h (some (.inl 0), h) := by
  refine j_met (by decide +kernel) (Nat.le_of_ble_eq_true rfl) (fun p e s m below meth c ls hx hb hml hr hlk hown hts hP hK hXs hsz hls => ?_)
  have hE := (hXs.2.2.1.1 i hi).2.1
  have h0 := hls (0, .ref (ad (60, 0, i))) (by simp [lv_args])
  have hS : va_S A s.heap s.heap [] := va_S.rf
  refine va_gets hx hb hXs.2.2.2.1 hS hown (hts _ jw_CS) (fun x h => h) dJ0_coder_7d493_0 ?_
  refine lv_if_eq hx hb dJ0_coder_7d493_3 (tgt := 13) rfl (fun z => absurd z (by decide)) (fun _ => ?_)
  refine lv_aload_n hx hb dJ0_coder_7d493_6 rfl h0 ?_
  refine vk_getf hx hb hE hS hown (hts _ jw_co) (fun x h => h) dJ0_coder_7d493_7 ?_
  refine lv_goto hx hb dJ0_coder_7d493_10 (tgt := 14) rfl ?_
  exact W.zret hx hb hr (by decide) (fun t ht _ => ⟨⟨rfl, by rw [ht]; exact hP, fun w hw => by cases hw; trivial⟩, hS.F ht⟩) hS.2.2 dJ0_coder_7d493_14 hlk
theorem j_latin (d i : Nat) (hi : i < 14) (h : q_H) : j_M l D dom ad cA tys A (lw_X (fun i => ad (60, 0, i)) adV A) d yJ0_isLatin1_aae02 cJ0_isLatin1_aae02 1 (some .boolean) [.ref (ad (60, 0, i))] h (some (.inl 1), h) := by
  refine j_met (by decide +kernel) (Nat.le_of_ble_eq_true rfl) (fun p e s m below meth c ls hx hb hml hr hlk hown hts hP hK hXs hsz hls => ?_)
  have hE := (hXs.2.2.1.1 i hi).2.1
  have h0 := hls (0, .ref (ad (60, 0, i))) (by simp [lv_args])
  have hS : va_S A s.heap s.heap [] := va_S.rf
  refine va_gets hx hb hXs.2.2.2.1 hS hown (hts _ jw_CS) (fun x h => h) dJ0_isLatin1_aae02_0 ?_
  refine lv_if_eq hx hb dJ0_isLatin1_aae02_3 (tgt := 17) rfl (fun z => absurd z (by decide)) (fun _ => ?_)
  refine lv_aload_n hx hb dJ0_isLatin1_aae02_6 rfl h0 ?_
  refine vk_getf hx hb hE hS hown (hts _ jw_co) (fun x h => h) dJ0_isLatin1_aae02_7 ?_
  refine lv_if_ne hx hb dJ0_isLatin1_aae02_10 (tgt := 17) rfl (fun z => absurd rfl z) (fun _ => ?_)
  refine lv_iconst hx hb dJ0_isLatin1_aae02_13 rfl ?_
  refine lv_goto hx hb dJ0_isLatin1_aae02_14 (tgt := 18) rfl ?_
  exact W.zret hx hb hr (by decide) (fun t ht _ => ⟨⟨rfl, by rw [ht]; exact hP, fun w hw => by cases hw; trivial⟩, hS.F ht⟩) hS.2.2 dJ0_isLatin1_aae02_18 hlk
theorem j_chk3 {X : State → Prop} (d : Nat) (i n : Int32) (v : Value) (hv : v = .null ∨ ∃ t, v = .ref t) (h1 : ¬ i < 0) (h2 : i < n) (h : q_H) : j_M l D dom ad cA tys A X d yJ3_checkIndex_8e157 cJ3_checkIndex_8e157 3 (some .int) [.int i, .int n, v] h (some (.inl i), h) := by
  refine j_met (by decide +kernel) (by rcases hv with rfl | ⟨t, rfl⟩ <;> exact Nat.le_of_ble_eq_true rfl) (fun p e s m below meth c ls hx hb hml hr hlk hown hts hP hK hXs hsz hls => ?_)
  have h0 := hls (0, .int i) (by simp [lv_args])
  have h1' := hls (1, .int n) (by simp [lv_args, Value.category])
  have hS : va_S A s.heap s.heap [] := va_S.rf
  refine lv_iload_n hx hb dJ3_checkIndex_8e157_0 rfl h0 ?_
  refine lv_if_lt hx hb dJ3_checkIndex_8e157_1 (tgt := 9) rfl (fun z => absurd z h1) (fun _ => ?_)
  refine lv_iload_n hx hb dJ3_checkIndex_8e157_4 rfl h0 ?_
  refine lv_iload_n hx hb dJ3_checkIndex_8e157_5 rfl h1' ?_
  refine lv_icmp_lt hx hb dJ3_checkIndex_8e157_6 (tgt := 16) rfl (fun _ => ?_) (fun z => absurd h2 z)
  refine lv_iload_n hx hb dJ3_checkIndex_8e157_16 rfl h0 ?_
  exact W.iret hx hb hr (fun t ht _ => ⟨⟨rfl, by rw [ht]; exact hP, fun w hw => by cases hw; trivial⟩, hS.F ht⟩) hS.2.2 dJ3_checkIndex_8e157_17 hlk
theorem j_chk0 (d : Nat) (i n : Int32) (h1 : ¬ i < 0) (h2 : i < n) (h : q_H) : j_M l D dom ad cA tys A (lw_X (fun i => ad (60, 0, i)) adV A) (d + 1) yJ0_checkIndex_df160 cJ0_checkIndex_df160 2 none [.int i, .int n] h (none, h) := by
  refine j_met (by decide +kernel) (Nat.le_of_ble_eq_true rfl) (fun p e s m below meth c ls hx hb hml hr hlk hown hts hP hK hXs hsz hls => ?_)
  have h0 := hls (0, .int i) (by simp [lv_args])
  have h1' := hls (1, .int n) (by simp [lv_args, Value.category])
  have hS : va_S A s.heap s.heap [] := va_S.rf
  have go : ∀ v : Value, (v = .null ∨ ∃ t, v = .ref t) → va_Z "jdk/internal/util/Preconditions" "SIOOBE_FORMATTER" "Ljava/util/function/BiFunction;" v A s s.heap → W p l e (q_rm (d + 1)) s m [Value.int i, Value.int n].toArray below meth c s.heap [] 0 0 (MQ below (q_Qc D dom ad cA A (none, h)) [Value.int i, Value.int n].toArray s 0 0 A) (F0 m 0 ls []) := by
    intro v hv hZ
    refine lv_iload_n hx hb dJ0_checkIndex_df160_0 rfl h0 ?_
    refine lv_iload_n hx hb dJ0_checkIndex_df160_1 rfl h1' ?_
    refine va_gets hx hb hZ hS hown (hts _ jw_SI) (fun x h => h) dJ0_checkIndex_df160_2 ?_
    refine j_cS (As := [.int i, .int n, v]) (rest := []) rfl hx hb hml hown hts lw_X_XX hXs hK hP hS (j_chk3 d i n v hv h1 h2 h) jw_J3ch_c jw_J3ch_i jw_J3ch_v jw_l1059 (by decide) (fun sig hsig => by have e : parseMethodDescriptor yJ3_checkIndex_8e157.desc = some sig := hsig; rw [show parseMethodDescriptor yJ3_checkIndex_8e157.desc = some ⟨[.int, .int, .object "java/util/function/BiFunction"], some .int⟩ from by decide +kernel] at e; cases e; rfl) (by decide) hsz (by decide) dJ0_checkIndex_df160_5 (fun H1 locs1 hP1 hS1 => ?_)
    refine lv_pop hx hb dJ0_checkIndex_df160_8 rfl ?_
    exact W.vret hx hb hr (fun t ht _ => ⟨⟨rfl, by rw [ht]; exact hP1, fun w hw => by cases hw⟩, hS1.F ht⟩) hS1.2.2 dJ0_checkIndex_df160_9 hlk
  rcases hXs.2.2.2.2 with hZ | ⟨t, hZ⟩
  · exact go .null (Or.inl rfl) hZ
  · exact go (.ref t) (Or.inr ⟨t, rfl⟩) hZ
theorem j_char1 (d i k : Nat) (hi : i < 14) (hk : k < q_len.getD i 0) (h : q_H) : j_M l D dom ad cA tys A (lw_X (fun i => ad (60, 0, i)) adV A) (d + 2) yJ1_charAt_3b067 cJ1_charAt_3b067 2 (some .char) [.ref (adV i), .int (nI k)] h (some (.inl (Int32.ofNat ((q_strs.getD i []).getD k 0))), h) := by
  refine j_met (by decide +kernel) (Nat.le_of_ble_eq_true rfl) (fun p e s m below meth c ls hx hb hml hr hlk hown hts hP hK hXs hsz hls => ?_)
  have h0 := hls (0, .ref (adV i)) (by simp [lv_args])
  have h1' := hls (1, .int (nI k)) (by simp [lv_args, Value.category])
  have hS : va_S A s.heap s.heap [] := va_S.rf
  have hT := (hXs.2.2.1.1 i hi).2.2.2
  have hl := j_l31 i hi
  refine lv_iload_n hx hb dJ1_charAt_3b067_0 rfl h1' ?_
  refine lv_aload_n hx hb dJ1_charAt_3b067_1 rfl h0 ?_
  refine va_tlen hx hb hT hS (v := nI (q_len.getD i 0)) rfl dJ1_charAt_3b067_2 ?_
  refine j_cS (As := [.int (nI k), .int (nI (q_len.getD i 0))]) (rest := []) rfl hx hb hml hown hts lw_X_XX hXs hK hP hS (j_chk0 d (nI k) (nI (q_len.getD i 0)) (nI_pos (by omega)) (nI_lt hk hl) h) jw_J0ch_c jw_J0ch_i jw_J0ch_v jw_l9 (by decide) (fun sig hsig => by have e : parseMethodDescriptor yJ0_checkIndex_df160.desc = some sig := hsig; rw [show parseMethodDescriptor yJ0_checkIndex_df160.desc = some ⟨[.int, .int], none⟩ from by decide +kernel] at e; cases e; rfl) (by decide) hsz (by decide) dJ1_charAt_3b067_3 (fun H1 locs1 hP1 hS1 => ?_)
  refine lv_aload_n hx hb dJ1_charAt_3b067_6 rfl h0 ?_
  refine lv_iload_n hx hb dJ1_charAt_3b067_7 rfl h1' ?_
  refine va_tb hx hb hT hS1 (vp_in_nI hk hl) (v := .int ((q_byt.getD i []).getD k 0)) (by rw [nI_clamp (by omega)]) dJ1_charAt_3b067_8 ?_
  refine lv_sipush hx hb dJ1_charAt_3b067_9 (v := 255) (by decide) ?_
  refine lv_iand hx hb dJ1_charAt_3b067_12 ?_
  refine lv_i2c hx hb dJ1_charAt_3b067_13 (j_ch i hi k hk).1 ?_
  exact W.zret hx hb hr (j_nc (j_ch i hi k hk).2) (fun t ht _ => ⟨⟨rfl, by rw [ht]; exact hP1, fun w hw => by cases hw; trivial⟩, hS1.F ht⟩) hS1.2.2 dJ1_charAt_3b067_14 hlk
theorem j_shr (x : Int32) : x >>> ((0 : Int32) &&& 31) = x := by
  rw [show ((0 : Int32) &&& 31) = 0 from by decide]
  exact Int32.shiftRight_zero
theorem j_length (d i : Nat) (hi : i < 14) (h : q_H) : j_M l D dom ad cA tys A (lw_X (fun i => ad (60, 0, i)) adV A) (d + 1) yJ0_length_8abf5 cJ0_length_8abf5 1 (some .int) [.ref (ad (60, 0, i))] h (some (.inl (nI (q_len.getD i 0))), h) := by
  refine j_met (by decide +kernel) (Nat.le_of_ble_eq_true rfl) (fun p e s m below meth c ls hx hb hml hr hlk hown hts hP hK hXs hsz hls => ?_)
  have h0 := hls (0, .ref (ad (60, 0, i))) (by simp [lv_args])
  have hS : va_S A s.heap s.heap [] := va_S.rf
  refine lv_aload_n hx hb dJ0_length_8abf5_0 rfl h0 ?_
  refine vk_getf hx hb (hXs.2.2.1.1 i hi).2.2.1 hS hown (hts _ jw_va) (fun x h => h) dJ0_length_8abf5_1 ?_
  refine va_tlen hx hb (hXs.2.2.1.1 i hi).2.2.2 hS (v := nI (q_len.getD i 0)) rfl dJ0_length_8abf5_4 ?_
  refine lv_aload_n hx hb dJ0_length_8abf5_5 rfl h0 ?_
  refine j_cV (As := []) (rest := [.int (nI (q_len.getD i 0))]) rfl hx hb hml hown hts lw_X_XX hXs hK hP hS (j_coder d i hi h) jw_J0co_c jw_J0co_i jw_J0co_v jw_J0co_s jw_l335 (by decide) (vk_recv (adK := fun i => ad (60, 0, i)) hXs.2.2.1 hi hS) (fun sig hsig => by have e : parseMethodDescriptor yJ0_coder_7d493.desc = some sig := hsig; rw [show parseMethodDescriptor yJ0_coder_7d493.desc = some ⟨[], some .byte⟩ from by decide +kernel] at e; cases e; rfl) (by decide) hsz (by simp [Value.category]) dJ0_length_8abf5_6 (fun H1 locs1 hP1 hS1 => ?_)
  refine lv_ishr hx hb dJ0_length_8abf5_9 ?_
  rw [j_shr]
  exact W.iret hx hb hr (fun t ht _ => ⟨⟨rfl, by rw [ht]; exact hP1, fun w hw => by cases hw; trivial⟩, hS1.F ht⟩) hS1.2.2 dJ0_length_8abf5_10 hlk
theorem j_charAt (d i k : Nat) (hi : i < 14) (hk : k < q_len.getD i 0) (h : q_H) : j_M l D dom ad cA tys A (lw_X (fun i => ad (60, 0, i)) adV A) (d + 3) yJ0_charAt_5068e cJ0_charAt_5068e 2 (some .char) [.ref (ad (60, 0, i)), .int (nI k)] h (some (.inl (Int32.ofNat ((q_strs.getD i []).getD k 0))), h) := by
  refine j_met (by decide +kernel) (Nat.le_of_ble_eq_true rfl) (fun p e s m below meth c ls hx hb hml hr hlk hown hts hP hK hXs hsz hls => ?_)
  have h0 := hls (0, .ref (ad (60, 0, i))) (by simp [lv_args])
  have h1' := hls (1, .int (nI k)) (by simp [lv_args, Value.category])
  have hS : va_S A s.heap s.heap [] := va_S.rf
  refine lv_aload_n hx hb dJ0_charAt_5068e_0 rfl h0 ?_
  refine j_cV (As := []) (rest := []) rfl hx hb hml hown hts lw_X_XX hXs hK hP hS (j_latin (d + 2) i hi h) jw_J0is_c jw_J0is_i jw_J0is_v jw_J0is_s jw_l492 (by decide) (vk_recv (adK := fun i => ad (60, 0, i)) hXs.2.2.1 hi hS) (fun sig hsig => by have e : parseMethodDescriptor yJ0_isLatin1_aae02.desc = some sig := hsig; rw [show parseMethodDescriptor yJ0_isLatin1_aae02.desc = some ⟨[], some .boolean⟩ from by decide +kernel] at e; cases e; rfl) (by decide) hsz (by decide) dJ0_charAt_5068e_1 (fun H1 locs1 hP1 hS1 => ?_)
  refine lv_if_eq hx hb dJ0_charAt_5068e_4 (tgt := 16) rfl (fun z => absurd z (by decide)) (fun _ => ?_)
  refine lv_aload_n hx hb dJ0_charAt_5068e_7 rfl h0 ?_
  refine vk_getf hx hb (hXs.2.2.1.1 i hi).2.2.1 hS1 hown (hts _ jw_va) (fun x h => h) dJ0_charAt_5068e_8 ?_
  refine lv_iload_n hx hb dJ0_charAt_5068e_11 rfl h1' ?_
  refine j_cS (As := [.ref (adV i), .int (nI k)]) (rest := []) rfl hx hb hml hown hts lw_X_XX hXs hK hP1 hS1 (j_char1 d i k hi hk h) jw_J1ch_c jw_J1ch_i jw_J1ch_v jw_l495 (by decide) (fun sig hsig => by have e : parseMethodDescriptor yJ1_charAt_3b067.desc = some sig := hsig; rw [show parseMethodDescriptor yJ1_charAt_3b067.desc = some ⟨[.array .byte, .int], some .char⟩ from by decide +kernel] at e; cases e; rfl) (by decide) hsz (by decide) dJ0_charAt_5068e_12 (fun H2 locs2 hP2 hS2 => ?_)
  exact W.zret hx hb hr (j_nc (j_ch i hi k hk).2) (fun t ht _ => ⟨⟨rfl, by rw [ht]; exact hP2, fun w hw => by cases hw; trivial⟩, hS2.F ht⟩) hS2.2.2 dJ0_charAt_5068e_15 hlk
theorem lw_EXT : q_EXT l D dom ad cA tys A (lw_X (fun i => ad (60, 0, i)) adV A) := by
  intro d m av h res hd h1 h2 hq
  have hm : m = 1 ∨ m = 2 := by omega
  obtain ⟨d0, rfl⟩ : ∃ d0, d = d0 + 2 := ⟨d - 2, by omega⟩
  rcases hm with rfl | rfl
  · unfold q_xt at hq
    simp only at hq
    split at hq
    · next i =>
      split at hq
      · next t ht =>
        have hi : i < 14 := (List.getElem?_eq_some_iff.mp ht).1
        cases hq
        obtain ⟨e1, e2⟩ := j_ls i hi
        rw [ht] at e1
        have e1 := Option.some.inj e1
        rw [e1, e2]
        exact j_length (d0 + 2) i hi h
      · cases hq
    · cases hq
  · have hq : q_xt 2 av h = some res := hq
    unfold q_xt at hq
    rw [show Nat.beq 2 1 = false from rfl, show Nat.beq 2 2 = true from rfl] at hq
    simp only [cond_false, cond_true] at hq
    · split at hq
      · next i j _ =>
        split at hq
        · next t ht =>
          have hi : i < 14 := (List.getElem?_eq_some_iff.mp ht).1
          obtain ⟨e1, e2⟩ := j_ls i hi
          rw [ht] at e1
          have e1 := Option.some.inj e1
          subst e1
          rw [e2] at hq
          cases hin : q_in j (q_len.getD i 0) with
          | false => rw [hin] at hq; cases hq
          | true =>
            rw [hin] at hq
            cases hq
            obtain ⟨k, hk, rfl⟩ := vp_in_of (q_in_vp hin) (j_l31 i hi)
            have hl := j_l31 i hi
            rw [nI_clamp (by omega)]
            exact j_charAt d0 i k hi hk h
        · cases hq
      · cases hq
end JK
