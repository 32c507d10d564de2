/-! RowPrunerModel -/
section NM
variable {p : Program} {l : Launch} {e : Env} {R : Room} {s : State} {m : MethodId} {args : Array Value} {below : List Frame} {meth : Method} {c : Code} {H : Heap} {locs : List Loc} {cells slots : Nat} {Q : State → Prop}
variable {cc : ByteArray} {pc : Nat} {ls : Array Slot} {rest : List Value} {D : va_G} {A : Nat → Prop} {a : Nat} {tys : List (ClassId × FieldType)} {H0 : Heap}
theorem nw_iast (hexec : p.tables.exec = Jvm.exec) (hb : c.code = cc) {t0 n j : Nat} {c0 : ClassId} {f : Nat → Int32} {x : Int32} (hK : va_K D vwCl tys s) (ha : va_at D vwCl (a, .inl (c0, n, .inl f)) H) (ht : tys[t0]? = some (c0, .int)) (hj : j < n) (hn : n < 2 ^ 31) (hS : va_S A H0 H locs) (hA : A a) (hdg : decode cc pc = .ok (.iastore, 1))
    (kk : ∀ (H1 : Heap) (locs1 : List Loc), va_at D vwCl (a, .inl (c0, n, .inl (va_up f j x))) H1 → H1.size = H.size → (∀ q, q ≠ a → H1[q]? = H[q]?) → va_S A H0 H1 locs1 → W p l e R s m args below meth c H1 locs1 cells slots Q (F0 m (pc + 1) ls rest)) : W p l e R s m args below meth c H locs cells slots Q (F0 m pc ls (.int x :: .int (nI j) :: .ref a :: rest)) := by
  have ha' : H[a]? = some (vp_cell c0 (n, .inl f)) := ha
  refine W.iast hexec hb ha' ((hK.2 t0 _ ht).1 n (fun j => .int (f j))) (fun q => by cases q) (by show ¬ (nI j < 0 ∨ (arrV _ _ _).slots.size ≤ _); rw [arrV_size]; exact vp_in_nI hj hn) rfl rfl hdg fun H1 e z oq => ?_
  refine kk H1 _ ?_ z oq (hS.put z oq hA)
  show H1[a]? = some (vp_cell _ _)
  rw [e, nI_clamp (show j < 2 ^ 31 by omega), vp_cell_i, vp_cell_i, arrV_store]
  congr 2
  funext q
  by_cases hq : q = j
  · subst hq
    simp [updV, va_up]
  · simp [updV, va_up, hq]
theorem nw_last (hexec : p.tables.exec = Jvm.exec) (hb : c.code = cc) {t0 n j : Nat} {c0 : ClassId} {f : Nat → Int64} {x : Int64} (hK : va_K D vwCl tys s) (ha : va_at D vwCl (a, .inl (c0, n, .inr (.inl f))) H) (ht : tys[t0]? = some (c0, .long)) (hj : j < n) (hn : n < 2 ^ 31) (hS : va_S A H0 H locs) (hA : A a) (hdg : decode cc pc = .ok (.lastore, 1))
    (kk : ∀ (H1 : Heap) (locs1 : List Loc), va_at D vwCl (a, .inl (c0, n, .inr (.inl (va_up f j x)))) H1 → H1.size = H.size → (∀ q, q ≠ a → H1[q]? = H[q]?) → va_S A H0 H1 locs1 → W p l e R s m args below meth c H1 locs1 cells slots Q (F0 m (pc + 1) ls rest)) : W p l e R s m args below meth c H locs cells slots Q (F0 m pc ls (.long x :: .int (nI j) :: .ref a :: rest)) := by
  have ha' : H[a]? = some (vp_cell c0 (n, .inr (.inl f))) := ha
  refine W.last hexec hb ha' ((hK.2 t0 _ ht).1 n (fun j => .long (f j))) (fun q => by cases q) (by show ¬ (nI j < 0 ∨ (arrV _ _ _).slots.size ≤ _); rw [arrV_size]; exact vp_in_nI hj hn) rfl rfl hdg fun H1 e z oq => ?_
  refine kk H1 _ ?_ z oq (hS.put z oq hA)
  show H1[a]? = some (vp_cell _ _)
  rw [e, nI_clamp (show j < 2 ^ 31 by omega), vp_cell_l, vp_cell_l, arrV_store]
  congr 2
  funext q
  by_cases hq : q = j
  · subst hq
    simp [updV, va_up]
  · simp [updV, va_up, hq]
end NM
def nw_hM : q_H := (fun t f k i => if t = 31 then 0 else z_h0.1 t f k i, z_h0.2)
def nw_dM : List q_R := [(31, 7, 0), (32, 7, 0), (33, 7, 0), (34, 7, 0), (35, 7, 0), (36, 7, 0), (37, 7, 0), (38, 7, 0), (39, 7, 0), (40, 7, 0), (41, 7, 0)]
theorem nw_dM_1 : ∀ r ∈ (30, 7, 0) :: nw_dM, r = (r.1, 7, 0) ∧ 30 ≤ r.1 ∧ r.1 < 60 := by decide
theorem nw_dM_2 : ((30, 7, 0) :: nw_dM).Nodup := by decide
theorem nw_dM_3 : ∀ r ∈ (30, 7, 0) :: nw_dM, r.1 ≠ 60 ∧ ((q_fl r.1).isEmpty = true → q_at r.1 < 3) ∧ q_at r.1 ≠ 3 ∧ q_at r.1 ≠ 4 := by decide
theorem nw_dM_4 : ∀ r ∈ (30, 7, 0) :: nw_dM, ∀ c ∈ q_fl r.1, 3 ≤ c → q_rf c r.2.1 ∈ (30, 7, 0) :: nw_dM := by decide
theorem nw_dM_a {B : Nat} {adK : Nat → Nat} : ∀ r ∈ (30, 7, 0) :: nw_dM, nw_ad B adK r = (B + 479) + r.1 := fun r hr => by
  obtain ⟨h1, h2, h3⟩ := nw_dM_1 r hr
  rw [h1, nw_ad_md h2 h3]
  exact (Nat.add_assoc _ _ _).symm
theorem nw_CxM {B : Nat} {adK : Nat → Nat} {cA : Nat → ClassId} : q_Cx ((30, 7, 0) :: nw_dM) (nw_ad B adK) cA (nw_tys cA) (fun q => nw_ad B adK (30, 7, 0) ≤ q) :=
  nw_Cx1 (K := 7) (C := B + 479) (fun r hr => (nw_dM_1 r hr).1) nw_dM_a nw_dM_2 (fun r hr => by
    rw [nw_dM_a r hr, nw_dM_a (30, 7, 0) List.mem_cons_self]
    have := (nw_dM_1 r hr).2.1
    show B + 479 + 30 ≤ _
    omega) nw_dM_3 (fun r hr f c hf hc => nw_dM_4 r hr c (List.mem_of_getElem? hf) hc)
set_option maxRecDepth 100000 in
theorem cw_ol9 : Cond.methodLink RX9 1 objectInit ∈ lw_tblG := q_g5 (i := 217) rfl rfl
theorem dX9_init_0 : decode cX9_init 0 = .ok (.aload_n 0, 1) := by decide +kernel
theorem dX9_init_1 : decode cX9_init 1 = .ok (.invokespecial 1, 3) := by decide +kernel
theorem dX9_init_4 : decode cX9_init 4 = .ok (.aload_n 0, 1) := by decide +kernel
theorem dX9_init_5 : decode cX9_init 5 = .ok (.sipush 1644, 3) := by decide +kernel
theorem dX9_init_8 : decode cX9_init 8 = .ok (.newarray .int, 2) := by decide +kernel
theorem dX9_init_10 : decode cX9_init 10 = .ok (.putfield 7, 3) := by decide +kernel
theorem dX9_init_13 : decode cX9_init 13 = .ok (.aload_n 0, 1) := by decide +kernel
theorem dX9_init_14 : decode cX9_init 14 = .ok (.sipush 1644, 3) := by decide +kernel
theorem dX9_init_17 : decode cX9_init 17 = .ok (.newarray .int, 2) := by decide +kernel
theorem dX9_init_19 : decode cX9_init 19 = .ok (.putfield 13, 3) := by decide +kernel
theorem dX9_init_22 : decode cX9_init 22 = .ok (.aload_n 0, 1) := by decide +kernel
theorem dX9_init_23 : decode cX9_init 23 = .ok (.sipush 1644, 3) := by decide +kernel
theorem dX9_init_26 : decode cX9_init 26 = .ok (.newarray .int, 2) := by decide +kernel
theorem dX9_init_28 : decode cX9_init 28 = .ok (.putfield 16, 3) := by decide +kernel
theorem dX9_init_31 : decode cX9_init 31 = .ok (.aload_n 0, 1) := by decide +kernel
theorem dX9_init_32 : decode cX9_init 32 = .ok (.sipush 1644, 3) := by decide +kernel
theorem dX9_init_35 : decode cX9_init 35 = .ok (.newarray .int, 2) := by decide +kernel
theorem dX9_init_37 : decode cX9_init 37 = .ok (.putfield 19, 3) := by decide +kernel
theorem dX9_init_40 : decode cX9_init 40 = .ok (.aload_n 0, 1) := by decide +kernel
theorem dX9_init_41 : decode cX9_init 41 = .ok (.sipush 4932, 3) := by decide +kernel
theorem dX9_init_44 : decode cX9_init 44 = .ok (.newarray .int, 2) := by decide +kernel
theorem dX9_init_46 : decode cX9_init 46 = .ok (.putfield 22, 3) := by decide +kernel
theorem dX9_init_49 : decode cX9_init 49 = .ok (.aload_n 0, 1) := by decide +kernel
theorem dX9_init_50 : decode cX9_init 50 = .ok (.bipush 60, 2) := by decide +kernel
theorem dX9_init_52 : decode cX9_init 52 = .ok (.newarray .int, 2) := by decide +kernel
theorem dX9_init_54 : decode cX9_init 54 = .ok (.putfield 25, 3) := by decide +kernel
theorem dX9_init_57 : decode cX9_init 57 = .ok (.aload_n 0, 1) := by decide +kernel
theorem dX9_init_58 : decode cX9_init 58 = .ok (.bipush 60, 2) := by decide +kernel
theorem dX9_init_60 : decode cX9_init 60 = .ok (.newarray .int, 2) := by decide +kernel
theorem dX9_init_62 : decode cX9_init 62 = .ok (.putfield 28, 3) := by decide +kernel
theorem dX9_init_65 : decode cX9_init 65 = .ok (.aload_n 0, 1) := by decide +kernel
theorem dX9_init_66 : decode cX9_init 66 = .ok (.sipush 700, 3) := by decide +kernel
theorem dX9_init_69 : decode cX9_init 69 = .ok (.newarray .byte, 2) := by decide +kernel
theorem dX9_init_71 : decode cX9_init 71 = .ok (.putfield 31, 3) := by decide +kernel
theorem dX9_init_74 : decode cX9_init 74 = .ok (.aload_n 0, 1) := by decide +kernel
theorem dX9_init_75 : decode cX9_init 75 = .ok (.iconst (-1), 1) := by decide +kernel
theorem dX9_init_76 : decode cX9_init 76 = .ok (.putfield 35, 3) := by decide +kernel
theorem dX9_init_79 : decode cX9_init 79 = .ok (.aload_n 0, 1) := by decide +kernel
theorem dX9_init_80 : decode cX9_init 80 = .ok (.iconst (-1), 1) := by decide +kernel
theorem dX9_init_81 : decode cX9_init 81 = .ok (.putfield 39, 3) := by decide +kernel
theorem dX9_init_84 : decode cX9_init 84 = .ok (.aload_n 0, 1) := by decide +kernel
theorem dX9_init_85 : decode cX9_init 85 = .ok (.bipush 14, 2) := by decide +kernel
theorem dX9_init_87 : decode cX9_init 87 = .ok (.newarray .long, 2) := by decide +kernel
theorem dX9_init_89 : decode cX9_init 89 = .ok (.dup, 1) := by decide +kernel
theorem dX9_init_90 : decode cX9_init 90 = .ok (.iconst 0, 1) := by decide +kernel
theorem dX9_init_91 : decode cX9_init 91 = .ok (.ldc2_w 42, 3) := by decide +kernel
theorem dX9_init_94 : decode cX9_init 94 = .ok (.lastore, 1) := by decide +kernel
theorem dX9_init_95 : decode cX9_init 95 = .ok (.dup, 1) := by decide +kernel
theorem dX9_init_96 : decode cX9_init 96 = .ok (.iconst 1, 1) := by decide +kernel
theorem dX9_init_97 : decode cX9_init 97 = .ok (.ldc2_w 44, 3) := by decide +kernel
theorem dX9_init_100 : decode cX9_init 100 = .ok (.lastore, 1) := by decide +kernel
theorem dX9_init_101 : decode cX9_init 101 = .ok (.dup, 1) := by decide +kernel
theorem dX9_init_102 : decode cX9_init 102 = .ok (.iconst 2, 1) := by decide +kernel
theorem dX9_init_103 : decode cX9_init 103 = .ok (.ldc2_w 46, 3) := by decide +kernel
theorem dX9_init_106 : decode cX9_init 106 = .ok (.lastore, 1) := by decide +kernel
theorem dX9_init_107 : decode cX9_init 107 = .ok (.dup, 1) := by decide +kernel
theorem dX9_init_108 : decode cX9_init 108 = .ok (.iconst 3, 1) := by decide +kernel
theorem dX9_init_109 : decode cX9_init 109 = .ok (.ldc2_w 48, 3) := by decide +kernel
theorem dX9_init_112 : decode cX9_init 112 = .ok (.lastore, 1) := by decide +kernel
theorem dX9_init_113 : decode cX9_init 113 = .ok (.dup, 1) := by decide +kernel
theorem dX9_init_114 : decode cX9_init 114 = .ok (.iconst 4, 1) := by decide +kernel
theorem dX9_init_115 : decode cX9_init 115 = .ok (.ldc2_w 50, 3) := by decide +kernel
theorem dX9_init_118 : decode cX9_init 118 = .ok (.lastore, 1) := by decide +kernel
theorem dX9_init_119 : decode cX9_init 119 = .ok (.dup, 1) := by decide +kernel
theorem dX9_init_120 : decode cX9_init 120 = .ok (.iconst 5, 1) := by decide +kernel
theorem dX9_init_121 : decode cX9_init 121 = .ok (.ldc2_w 52, 3) := by decide +kernel
theorem dX9_init_124 : decode cX9_init 124 = .ok (.lastore, 1) := by decide +kernel
theorem dX9_init_125 : decode cX9_init 125 = .ok (.dup, 1) := by decide +kernel
theorem dX9_init_126 : decode cX9_init 126 = .ok (.bipush 6, 2) := by decide +kernel
theorem dX9_init_128 : decode cX9_init 128 = .ok (.ldc2_w 54, 3) := by decide +kernel
theorem dX9_init_131 : decode cX9_init 131 = .ok (.lastore, 1) := by decide +kernel
theorem dX9_init_132 : decode cX9_init 132 = .ok (.dup, 1) := by decide +kernel
theorem dX9_init_133 : decode cX9_init 133 = .ok (.bipush 7, 2) := by decide +kernel
theorem dX9_init_135 : decode cX9_init 135 = .ok (.ldc2_w 56, 3) := by decide +kernel
theorem dX9_init_138 : decode cX9_init 138 = .ok (.lastore, 1) := by decide +kernel
theorem dX9_init_139 : decode cX9_init 139 = .ok (.dup, 1) := by decide +kernel
theorem dX9_init_140 : decode cX9_init 140 = .ok (.bipush 8, 2) := by decide +kernel
theorem dX9_init_142 : decode cX9_init 142 = .ok (.ldc2_w 58, 3) := by decide +kernel
theorem dX9_init_145 : decode cX9_init 145 = .ok (.lastore, 1) := by decide +kernel
theorem dX9_init_146 : decode cX9_init 146 = .ok (.dup, 1) := by decide +kernel
theorem dX9_init_147 : decode cX9_init 147 = .ok (.bipush 9, 2) := by decide +kernel
theorem dX9_init_149 : decode cX9_init 149 = .ok (.ldc2_w 60, 3) := by decide +kernel
theorem dX9_init_152 : decode cX9_init 152 = .ok (.lastore, 1) := by decide +kernel
theorem dX9_init_153 : decode cX9_init 153 = .ok (.dup, 1) := by decide +kernel
theorem dX9_init_154 : decode cX9_init 154 = .ok (.bipush 10, 2) := by decide +kernel
theorem dX9_init_156 : decode cX9_init 156 = .ok (.ldc2_w 62, 3) := by decide +kernel
theorem dX9_init_159 : decode cX9_init 159 = .ok (.lastore, 1) := by decide +kernel
theorem dX9_init_160 : decode cX9_init 160 = .ok (.dup, 1) := by decide +kernel
theorem dX9_init_161 : decode cX9_init 161 = .ok (.bipush 11, 2) := by decide +kernel
theorem dX9_init_163 : decode cX9_init 163 = .ok (.ldc2_w 64, 3) := by decide +kernel
theorem dX9_init_166 : decode cX9_init 166 = .ok (.lastore, 1) := by decide +kernel
theorem dX9_init_167 : decode cX9_init 167 = .ok (.dup, 1) := by decide +kernel
theorem dX9_init_168 : decode cX9_init 168 = .ok (.bipush 12, 2) := by decide +kernel
theorem dX9_init_170 : decode cX9_init 170 = .ok (.ldc2_w 66, 3) := by decide +kernel
theorem dX9_init_173 : decode cX9_init 173 = .ok (.lastore, 1) := by decide +kernel
theorem dX9_init_174 : decode cX9_init 174 = .ok (.dup, 1) := by decide +kernel
theorem dX9_init_175 : decode cX9_init 175 = .ok (.bipush 13, 2) := by decide +kernel
theorem dX9_init_177 : decode cX9_init 177 = .ok (.ldc2_w 68, 3) := by decide +kernel
theorem dX9_init_180 : decode cX9_init 180 = .ok (.lastore, 1) := by decide +kernel
theorem dX9_init_181 : decode cX9_init 181 = .ok (.putfield 70, 3) := by decide +kernel
theorem dX9_init_184 : decode cX9_init 184 = .ok (.aload_n 0, 1) := by decide +kernel
theorem dX9_init_185 : decode cX9_init 185 = .ok (.bipush 14, 2) := by decide +kernel
theorem dX9_init_187 : decode cX9_init 187 = .ok (.newarray .int, 2) := by decide +kernel
theorem dX9_init_189 : decode cX9_init 189 = .ok (.dup, 1) := by decide +kernel
theorem dX9_init_190 : decode cX9_init 190 = .ok (.iconst 0, 1) := by decide +kernel
theorem dX9_init_191 : decode cX9_init 191 = .ok (.iconst 1, 1) := by decide +kernel
theorem dX9_init_192 : decode cX9_init 192 = .ok (.iastore, 1) := by decide +kernel
theorem dX9_init_193 : decode cX9_init 193 = .ok (.dup, 1) := by decide +kernel
theorem dX9_init_194 : decode cX9_init 194 = .ok (.iconst 1, 1) := by decide +kernel
theorem dX9_init_195 : decode cX9_init 195 = .ok (.iconst 1, 1) := by decide +kernel
theorem dX9_init_196 : decode cX9_init 196 = .ok (.iastore, 1) := by decide +kernel
theorem dX9_init_197 : decode cX9_init 197 = .ok (.dup, 1) := by decide +kernel
theorem dX9_init_198 : decode cX9_init 198 = .ok (.iconst 2, 1) := by decide +kernel
theorem dX9_init_199 : decode cX9_init 199 = .ok (.iconst 1, 1) := by decide +kernel
theorem dX9_init_200 : decode cX9_init 200 = .ok (.iastore, 1) := by decide +kernel
theorem dX9_init_201 : decode cX9_init 201 = .ok (.dup, 1) := by decide +kernel
theorem dX9_init_202 : decode cX9_init 202 = .ok (.iconst 3, 1) := by decide +kernel
theorem dX9_init_203 : decode cX9_init 203 = .ok (.iconst 3, 1) := by decide +kernel
theorem dX9_init_204 : decode cX9_init 204 = .ok (.iastore, 1) := by decide +kernel
theorem dX9_init_205 : decode cX9_init 205 = .ok (.dup, 1) := by decide +kernel
theorem dX9_init_206 : decode cX9_init 206 = .ok (.iconst 4, 1) := by decide +kernel
theorem dX9_init_207 : decode cX9_init 207 = .ok (.iconst 0, 1) := by decide +kernel
theorem dX9_init_208 : decode cX9_init 208 = .ok (.iastore, 1) := by decide +kernel
theorem dX9_init_209 : decode cX9_init 209 = .ok (.dup, 1) := by decide +kernel
theorem dX9_init_210 : decode cX9_init 210 = .ok (.iconst 5, 1) := by decide +kernel
theorem dX9_init_211 : decode cX9_init 211 = .ok (.iconst 4, 1) := by decide +kernel
theorem dX9_init_212 : decode cX9_init 212 = .ok (.iastore, 1) := by decide +kernel
theorem dX9_init_213 : decode cX9_init 213 = .ok (.dup, 1) := by decide +kernel
theorem dX9_init_214 : decode cX9_init 214 = .ok (.bipush 6, 2) := by decide +kernel
theorem dX9_init_216 : decode cX9_init 216 = .ok (.iconst 5, 1) := by decide +kernel
theorem dX9_init_217 : decode cX9_init 217 = .ok (.iastore, 1) := by decide +kernel
theorem dX9_init_218 : decode cX9_init 218 = .ok (.dup, 1) := by decide +kernel
theorem dX9_init_219 : decode cX9_init 219 = .ok (.bipush 7, 2) := by decide +kernel
theorem dX9_init_221 : decode cX9_init 221 = .ok (.iconst 2, 1) := by decide +kernel
theorem dX9_init_222 : decode cX9_init 222 = .ok (.iastore, 1) := by decide +kernel
theorem dX9_init_223 : decode cX9_init 223 = .ok (.dup, 1) := by decide +kernel
theorem dX9_init_224 : decode cX9_init 224 = .ok (.bipush 8, 2) := by decide +kernel
theorem dX9_init_226 : decode cX9_init 226 = .ok (.iconst 1, 1) := by decide +kernel
theorem dX9_init_227 : decode cX9_init 227 = .ok (.iastore, 1) := by decide +kernel
theorem dX9_init_228 : decode cX9_init 228 = .ok (.dup, 1) := by decide +kernel
theorem dX9_init_229 : decode cX9_init 229 = .ok (.bipush 9, 2) := by decide +kernel
theorem dX9_init_231 : decode cX9_init 231 = .ok (.iconst 1, 1) := by decide +kernel
theorem dX9_init_232 : decode cX9_init 232 = .ok (.iastore, 1) := by decide +kernel
theorem dX9_init_233 : decode cX9_init 233 = .ok (.dup, 1) := by decide +kernel
theorem dX9_init_234 : decode cX9_init 234 = .ok (.bipush 10, 2) := by decide +kernel
theorem dX9_init_236 : decode cX9_init 236 = .ok (.iconst 1, 1) := by decide +kernel
theorem dX9_init_237 : decode cX9_init 237 = .ok (.iastore, 1) := by decide +kernel
theorem dX9_init_238 : decode cX9_init 238 = .ok (.dup, 1) := by decide +kernel
theorem dX9_init_239 : decode cX9_init 239 = .ok (.bipush 11, 2) := by decide +kernel
theorem dX9_init_241 : decode cX9_init 241 = .ok (.iconst 0, 1) := by decide +kernel
theorem dX9_init_242 : decode cX9_init 242 = .ok (.iastore, 1) := by decide +kernel
theorem dX9_init_243 : decode cX9_init 243 = .ok (.dup, 1) := by decide +kernel
theorem dX9_init_244 : decode cX9_init 244 = .ok (.bipush 12, 2) := by decide +kernel
theorem dX9_init_246 : decode cX9_init 246 = .ok (.iconst 2, 1) := by decide +kernel
theorem dX9_init_247 : decode cX9_init 247 = .ok (.iastore, 1) := by decide +kernel
theorem dX9_init_248 : decode cX9_init 248 = .ok (.dup, 1) := by decide +kernel
theorem dX9_init_249 : decode cX9_init 249 = .ok (.bipush 13, 2) := by decide +kernel
theorem dX9_init_251 : decode cX9_init 251 = .ok (.iconst 0, 1) := by decide +kernel
theorem dX9_init_252 : decode cX9_init 252 = .ok (.iastore, 1) := by decide +kernel
theorem dX9_init_253 : decode cX9_init 253 = .ok (.putfield 74, 3) := by decide +kernel
theorem dX9_init_256 : decode cX9_init 256 = .ok (.aload_n 0, 1) := by decide +kernel
theorem dX9_init_257 : decode cX9_init 257 = .ok (.iconst 5, 1) := by decide +kernel
theorem dX9_init_258 : decode cX9_init 258 = .ok (.newarray .int, 2) := by decide +kernel
theorem dX9_init_260 : decode cX9_init 260 = .ok (.putfield 77, 3) := by decide +kernel
theorem dX9_init_263 : decode cX9_init 263 = .ok (.aload_n 0, 1) := by decide +kernel
theorem dX9_init_264 : decode cX9_init 264 = .ok (.invokevirtual 80, 3) := by decide +kernel
theorem dX9_init_267 : decode cX9_init 267 = .ok (.return_, 1) := by decide +kernel
set_option maxRecDepth 100000 in
theorem cw_f9_7 : Cond.fieldLink RX9 7 "RowPrunerModel" "c" "[I" ∈ lw_tblG := q_g5 (i := 236) rfl rfl
set_option maxRecDepth 100000 in
theorem cw_f9_13 : Cond.fieldLink RX9 13 "RowPrunerModel" "aside" "[I" ∈ lw_tblG := q_g5 (i := 237) rfl rfl
set_option maxRecDepth 100000 in
theorem cw_f9_16 : Cond.fieldLink RX9 16 "RowPrunerModel" "paper" "[I" ∈ lw_tblG := q_g5 (i := 238) rfl rfl
set_option maxRecDepth 100000 in
theorem cw_f9_19 : Cond.fieldLink RX9 19 "RowPrunerModel" "whole" "[I" ∈ lw_tblG := q_g5 (i := 239) rfl rfl
set_option maxRecDepth 100000 in
theorem cw_f9_22 : Cond.fieldLink RX9 22 "RowPrunerModel" "marks" "[I" ∈ lw_tblG := q_g6 (i := 0) rfl rfl
set_option maxRecDepth 100000 in
theorem cw_f9_25 : Cond.fieldLink RX9 25 "RowPrunerModel" "stubs" "[I" ∈ lw_tblG := q_g6 (i := 4) rfl rfl
set_option maxRecDepth 100000 in
theorem cw_f9_28 : Cond.fieldLink RX9 28 "RowPrunerModel" "stays" "[I" ∈ lw_tblG := q_g6 (i := 6) rfl rfl
set_option maxRecDepth 100000 in
theorem cw_f9_31 : Cond.fieldLink RX9 31 "RowPrunerModel" "tape" "[B" ∈ lw_tblG := q_g6 (i := 7) rfl rfl
set_option maxRecDepth 100000 in
theorem cw_f9_35 : Cond.fieldLink RX9 35 "RowPrunerModel" "faultKind" "I" ∈ lw_tblG := q_g6 (i := 9) rfl rfl
set_option maxRecDepth 100000 in
theorem cw_f9_39 : Cond.fieldLink RX9 39 "RowPrunerModel" "faultAt" "I" ∈ lw_tblG := q_g6 (i := 10) rfl rfl
set_option maxRecDepth 100000 in
theorem cw_f9_70 : Cond.fieldLink RX9 70 "RowPrunerModel" "words" "[J" ∈ lw_tblG := q_g6 (i := 19) rfl rfl
set_option maxRecDepth 100000 in
theorem cw_f9_74 : Cond.fieldLink RX9 74 "RowPrunerModel" "takes" "[I" ∈ lw_tblG := q_g6 (i := 20) rfl rfl
set_option maxRecDepth 100000 in
theorem cw_f9_77 : Cond.fieldLink RX9 77 "RowPrunerModel" "told" "[I" ∈ lw_tblG := q_g6 (i := 21) rfl rfl
set_option maxRecDepth 100000 in
theorem nw_inX9 : Cond.instantiable RX9 29 ∈ lw_tblG := q_g5 (i := 213) rfl rfl
set_option maxRecDepth 100000 in
theorem nw_iiX9 : Cond.initialized RX9 ∈ lw_tblG := q_g1 (i := 10) rfl rfl
set_option maxRecDepth 100000 in
theorem nw_coX9 : Cond.code yX9_init cX9_init 1 none ∈ lw_tblG := q_g5 (i := 216) rfl rfl
set_option maxRecDepth 100000 in
theorem nw_imX9 : Cond.instanceMethod yX9_init ∈ lw_tblG := q_g5 (i := 215) rfl rfl
theorem nw_fsX9 : ∀ j, j < 29 → defaultValue (tyX9 j) = vp_V (c_df 30) j := fun j hj => by
  rcases (show j = 0 ∨ j = 1 ∨ j = 2 ∨ j = 3 ∨ j = 4 ∨ j = 5 ∨ j = 6 ∨ j = 7 ∨ j = 8 ∨ j = 9 ∨ j = 10 ∨ j = 11 ∨ j = 12 ∨ j = 13 ∨ j = 14 ∨ j = 15 ∨ j = 16 ∨ j = 17 ∨ j = 18 ∨ j = 19 ∨ j = 20 ∨ j = 21 ∨ j = 22 ∨ j = 23 ∨ j = 24 ∨ j = 25 ∨ j = 26 ∨ j = 27 ∨ j = 28 by omega) with rfl | rfl | rfl | rfl | rfl | rfl | rfl | rfl | rfl | rfl | rfl | rfl | rfl | rfl | rfl | rfl | rfl | rfl | rfl | rfl | rfl | rfl | rfl | rfl | rfl | rfl | rfl | rfl | rfl <;> rfl
theorem nw_hnX9 : yX9_init.cls ≠ "java/lang/invoke/MethodHandle" ∧ yX9_init.cls ≠ "java/lang/invoke/VarHandle" := by decide +kernel
set_option maxRecDepth 100000 in
theorem cw_ml9 : Cond.methodLink RX9 80 yX9_clears ∈ lw_tblG := q_g5 (i := 232) rfl rfl
set_option maxRecDepth 100000 in
theorem nw_cl_42 : Cond.constantLong RX9 42 11442943 ∈ lw_tblG := q_g5 (i := 218) rfl rfl
set_option maxRecDepth 100000 in
theorem nw_cl_44 : Cond.constantLong RX9 44 1097234 ∈ lw_tblG := q_g5 (i := 219) rfl rfl
set_option maxRecDepth 100000 in
theorem nw_cl_46 : Cond.constantLong RX9 46 923 ∈ lw_tblG := q_g5 (i := 220) rfl rfl
set_option maxRecDepth 100000 in
theorem nw_cl_48 : Cond.constantLong RX9 48 13550 ∈ lw_tblG := q_g5 (i := 221) rfl rfl
set_option maxRecDepth 100000 in
theorem nw_cl_50 : Cond.constantLong RX9 50 1166657 ∈ lw_tblG := q_g5 (i := 222) rfl rfl
set_option maxRecDepth 100000 in
theorem nw_cl_52 : Cond.constantLong RX9 52 136958465 ∈ lw_tblG := q_g5 (i := 223) rfl rfl
set_option maxRecDepth 100000 in
theorem nw_cl_54 : Cond.constantLong RX9 54 309910109 ∈ lw_tblG := q_g5 (i := 224) rfl rfl
set_option maxRecDepth 100000 in
theorem nw_cl_56 : Cond.constantLong RX9 56 60293219 ∈ lw_tblG := q_g5 (i := 225) rfl rfl
set_option maxRecDepth 100000 in
theorem nw_cl_58 : Cond.constantLong RX9 58 51283955 ∈ lw_tblG := q_g5 (i := 226) rfl rfl
set_option maxRecDepth 100000 in
theorem nw_cl_60 : Cond.constantLong RX9 60 582248 ∈ lw_tblG := q_g5 (i := 227) rfl rfl
set_option maxRecDepth 100000 in
theorem nw_cl_62 : Cond.constantLong RX9 62 8873042 ∈ lw_tblG := q_g5 (i := 228) rfl rfl
set_option maxRecDepth 100000 in
theorem nw_cl_64 : Cond.constantLong RX9 64 316282333 ∈ lw_tblG := q_g5 (i := 229) rfl rfl
set_option maxRecDepth 100000 in
theorem nw_cl_66 : Cond.constantLong RX9 66 247547 ∈ lw_tblG := q_g5 (i := 230) rfl rfl
set_option maxRecDepth 100000 in
theorem nw_cl_68 : Cond.constantLong RX9 68 261253280 ∈ lw_tblG := q_g5 (i := 231) rfl rfl
def nw_t39_f : Nat → Int64 := (va_up (va_up (va_up (va_up (va_up (va_up (va_up (va_up (va_up (va_up (va_up (va_up (va_up (va_up (fun _ => 0) 0 11442943) 1 1097234) 2 923) 3 13550) 4 1166657) 5 136958465) 6 309910109) 7 60293219) 8 51283955) 9 582248) 10 8873042) 11 316282333) 12 247547) 13 261253280)
theorem nw_t39_e : ∀ j, j < 14 → nw_t39_f j = nw_hM.2 39 0 7 j := by decide +kernel
theorem nw_t39 {D : va_G} {ad : q_R → Nat} {cA : Nat → ClassId} {H : Heap} {a : Nat} (h : va_at D vwCl (a, .inl (cA 2, 14, .inr (.inl nw_t39_f))) H) : va_at D vwCl (a, q_ce ad cA nw_hM (39, 7, 0)) H := by
  have h1 : H[a]? = some (vp_cell (cA 2) (14, .inr (.inl nw_t39_f))) := h
  show H[a]? = some (vp_cell (cA 2) (14, .inr (.inl (fun j => nw_hM.2 39 0 7 j))))
  rw [h1]
  exact congrArg some (nw_acg (fun j hj => congrArg Value.long (nw_t39_e j hj)))
def nw_t40_f : Nat → Int32 := (va_up (va_up (va_up (va_up (va_up (va_up (va_up (va_up (va_up (va_up (va_up (va_up (va_up (va_up (fun _ => 0) 0 1) 1 1) 2 1) 3 3) 4 0) 5 4) 6 5) 7 2) 8 1) 9 1) 10 1) 11 0) 12 2) 13 0)
theorem nw_t40_e : ∀ j, j < 14 → nw_t40_f j = nw_hM.1 40 0 7 j := by decide +kernel
theorem nw_t40 {D : va_G} {ad : q_R → Nat} {cA : Nat → ClassId} {H : Heap} {a : Nat} (h : va_at D vwCl (a, .inl (cA 0, 14, .inl nw_t40_f)) H) : va_at D vwCl (a, q_ce ad cA nw_hM (40, 7, 0)) H := by
  have h1 : H[a]? = some (vp_cell (cA 0) (14, .inl nw_t40_f)) := h
  show H[a]? = some (vp_cell (cA 0) (14, .inl (fun j => nw_hM.1 40 0 7 j)))
  rw [h1]
  exact congrArg some (nw_acg (fun j hj => congrArg Value.int (nw_t40_e j hj)))
theorem nw_mc {D : va_G} {ad : q_R → Nat} {cA : Nat → ClassId} {H : Heap} {t a : Nat} (h30 : 30 ≤ t) (h60 : t < 60) (hq : va_at D vwCl (a, q_ce ad cA (g_ma nw_hM 31 g_A0) (t, 7, 0)) H) : va_at D vwCl (a, q_ce ad cA z_h0 (t, 7, 0)) H := by
  have e : ∀ f j, (f = 0 ∧ j < 1644) ∨ t ≠ 31 → (g_ma nw_hM 31 g_A0).1 t f 7 j = z_h0.1 t f 7 j := by
    intro f j hj
    show (if t = 31 ∧ f = 0 ∧ 7 = 7 ∧ j < 1644 then g_at g_A0 j else if t = 31 then 0 else z_h0.1 t f 7 j) = z_h0.1 t f 7 j
    by_cases c : t = 31
    · subst c
      have hj2 : f = 0 ∧ j < 1644 := by omega
      obtain ⟨rfl, hj3⟩ := hj2
      rw [if_pos ⟨rfl, rfl, rfl, hj3⟩]
      exact (if_pos ⟨rfl, hj3⟩).symm
    · rw [if_neg (fun q => c q.1), if_neg c]
  by_cases ho : (q_fl t).isEmpty = true
  · refine nw_ar ho (fun j hj => e 0 j ?_) (fun j hj => rfl) hq
    by_cases c : t = 31
    · subst c
      exact Or.inl ⟨rfl, hj⟩
    · exact Or.inr c
  · have ho : (q_fl t).isEmpty = false := by
      cases h : (q_fl t).isEmpty with
      | true => exact absurd h ho
      | false => rfl
    rw [nw_ob (h' := z_h0) ho (fun f => e f 0 (Or.inr (fun q => by rw [q] at ho; exact absurd ho (by decide)))) (fun f => rfl)] at hq
    exact hq
set_option maxHeartbeats 4000000 in
set_option maxRecDepth 100000 in
theorem nw_cX9 {l : Launch} {D : va_G} {B : Nat} {adK : Nat → Nat} {cA : Nat → ClassId} {adV : Nat → Nat}  : nw_M l D B adK cA adV 2 yX9_init cX9_init 1 (30, 7, 0) nw_dM 11 12361 := by
  refine nw_met (by decide +kernel) (Nat.le_of_ble_eq_true rfl) rfl (fun p e s m below meth c ls hx hb hml hr hlk hown hin hts hP hl => ?_)
  obtain ⟨hsz, hO, hK, hX⟩ := hP
  have a30 : nw_ad B adK (30, 7, 0) = B + (479 + 30) := nw_ad_md (by decide) (by decide)
  have a31 : nw_ad B adK (31, 7, 0) = B + (479 + 31) := nw_ad_md (by decide) (by decide)
  have a32 : nw_ad B adK (32, 7, 0) = B + (479 + 32) := nw_ad_md (by decide) (by decide)
  have a33 : nw_ad B adK (33, 7, 0) = B + (479 + 33) := nw_ad_md (by decide) (by decide)
  have a34 : nw_ad B adK (34, 7, 0) = B + (479 + 34) := nw_ad_md (by decide) (by decide)
  have a35 : nw_ad B adK (35, 7, 0) = B + (479 + 35) := nw_ad_md (by decide) (by decide)
  have a36 : nw_ad B adK (36, 7, 0) = B + (479 + 36) := nw_ad_md (by decide) (by decide)
  have a37 : nw_ad B adK (37, 7, 0) = B + (479 + 37) := nw_ad_md (by decide) (by decide)
  have a38 : nw_ad B adK (38, 7, 0) = B + (479 + 38) := nw_ad_md (by decide) (by decide)
  have a39 : nw_ad B adK (39, 7, 0) = B + (479 + 39) := nw_ad_md (by decide) (by decide)
  have a40 : nw_ad B adK (40, 7, 0) = B + (479 + 40) := nw_ad_md (by decide) (by decide)
  have a41 : nw_ad B adK (41, 7, 0) = B + (479 + 41) := nw_ad_md (by decide) (by decide)
  have hz : B ≤ nw_ad B adK (30, 7, 0) := by omega
  have hI0 := nw_I0 (ad := nw_ad B adK) (cA := cA) (h := nw_hM) hO hsz
  have hS0 : va_S (fun q => nw_ad B adK (30, 7, 0) ≤ q) s.heap s.heap [] := va_S.rf
  have hAz := Nat.le_refl (nw_ad B adK (30, 7, 0))
  have h0 := lv_at hl 0 rfl
  refine lv_aload_n hx hb dX9_init_0 rfl h0 ?_
  refine W.objInit hx hb hown (hts _ cw_ol9) (hts _ cw_oi) (hts _ cw_oc) rfl (by rw [hml]; exact hl.1) rfl dX9_init_1 (Nat.le_of_ble_eq_true rfl) (Nat.le_of_ble_eq_true rfl) ?_
  refine W.eq (g2 := F0 m 4 ls []) rfl ?_
  refine lv_aload_n hx hb dX9_init_4 rfl h0 ?_
  refine lv_sipush hx hb dX9_init_5 (v := 1644) (by decide) ?_
  refine nw_newa (atype := .int) (t0 := 0) (N := 1644) (c0 := cA 0) (a0 := (1644, .inl (fun _ => 0))) hx hb (hts _ cw_ai) hK rfl rfl (by decide) (by decide) (Nat.le_of_ble_eq_true rfl) (Nat.le_of_ble_eq_true rfl) (Nat.le_of_ble_eq_true rfl) hS0 dX9_init_8 (fun H1 e1 z1 o1 hS1 => ?_)
  have es1 : s.heap.size = nw_ad B adK (31, 7, 0) := by have := hI0.2.2.2; omega
  rw [es1] at e1 ⊢
  have hI1 : nw_I D (nw_ad B adK) cA nw_hM (nw_ad B adK (30, 7, 0)) 9 [.null, .null, .null, .null, .null, .int 0, .int 0, .int 0, .null, .int 0, .null, .null, .int 0, .int 0, .int 0, .int 0, .int 0, .int 0, .int 0, .int 0, .int 0, .int 0, .long 0, .null, .null, .null, .int 0, .int 0, .int 0] [(31, 7, 0)] 1 H1 := nw_Ix (j := 1) hI0 o1 z1 (nw_1 (r := (31, 7, 0)) (nw_ar (h := c_h0) rfl (fun j hj => rfl) (fun j hj => (show nw_hM.2 31 0 7 j = c_h0.2 31 0 7 j from nw_z2 (t := 31) (f := 0) (k := 7) (i := j) (by decide)).symm) e1)) (fun r hr => by rw [List.mem_singleton] at hr; rw [hr]; omega)
  refine nw_put (T := TX9) (N := 29) hx hb hts (q_tagW 30 (by decide)) tyX9 tyX9_ok nmX9 hown hK hin hI1.1 rfl 0 (by decide) (hts _ cw_f9_7) rfl (ty := .array .int) (by decide +kernel) rfl rfl (Nat.le_of_ble_eq_true rfl) hS1 hAz dX9_init_10 (fun H2 L2 e2 z2 o2 hS2 => ?_)
  have hI2 : nw_I D (nw_ad B adK) cA nw_hM (nw_ad B adK (30, 7, 0)) 9 [.ref (nw_ad B adK (31, 7, 0)), .null, .null, .null, .null, .int 0, .int 0, .int 0, .null, .int 0, .null, .null, .int 0, .int 0, .int 0, .int 0, .int 0, .int 0, .int 0, .int 0, .int 0, .int 0, .long 0, .null, .null, .null, .int 0, .int 0, .int 0] [(31, 7, 0)] 1 H2 := nw_Ip hI1 e2 z2 o2
  refine lv_aload_n hx hb dX9_init_13 rfl h0 ?_
  refine lv_sipush hx hb dX9_init_14 (v := 1644) (by decide) ?_
  refine nw_newa (atype := .int) (t0 := 0) (N := 1644) (c0 := cA 0) (a0 := (1644, .inl (fun _ => 0))) hx hb (hts _ cw_ai) hK rfl rfl (by decide) (by decide) (Nat.le_of_ble_eq_true rfl) (Nat.le_of_ble_eq_true rfl) (Nat.le_of_ble_eq_true rfl) hS2 dX9_init_17 (fun H3 e3 z3 o3 hS3 => ?_)
  have es3 : H2.size = nw_ad B adK (32, 7, 0) := by have := hI2.2.2.2; omega
  rw [es3] at e3 ⊢
  have hI3 : nw_I D (nw_ad B adK) cA nw_hM (nw_ad B adK (30, 7, 0)) 9 [.ref (nw_ad B adK (31, 7, 0)), .null, .null, .null, .null, .int 0, .int 0, .int 0, .null, .int 0, .null, .null, .int 0, .int 0, .int 0, .int 0, .int 0, .int 0, .int 0, .int 0, .int 0, .int 0, .long 0, .null, .null, .null, .int 0, .int 0, .int 0] [(31, 7, 0), (32, 7, 0)] 2 H3 := nw_Ix (j := 1) hI2 o3 z3 (nw_1 (r := (32, 7, 0)) (nw_ar (h := c_h0) rfl (fun j hj => rfl) (fun j hj => (show nw_hM.2 32 0 7 j = c_h0.2 32 0 7 j from nw_z2 (t := 32) (f := 0) (k := 7) (i := j) (by decide)).symm) e3)) (fun r hr => by rw [List.mem_singleton] at hr; rw [hr]; omega)
  refine nw_put (T := TX9) (N := 29) hx hb hts (q_tagW 30 (by decide)) tyX9 tyX9_ok nmX9 hown hK hin hI3.1 rfl 1 (by decide) (hts _ cw_f9_13) rfl (ty := .array .int) (by decide +kernel) rfl rfl (Nat.le_of_ble_eq_true rfl) hS3 hAz dX9_init_19 (fun H4 L4 e4 z4 o4 hS4 => ?_)
  have hI4 : nw_I D (nw_ad B adK) cA nw_hM (nw_ad B adK (30, 7, 0)) 9 [.ref (nw_ad B adK (31, 7, 0)), .ref (nw_ad B adK (32, 7, 0)), .null, .null, .null, .int 0, .int 0, .int 0, .null, .int 0, .null, .null, .int 0, .int 0, .int 0, .int 0, .int 0, .int 0, .int 0, .int 0, .int 0, .int 0, .long 0, .null, .null, .null, .int 0, .int 0, .int 0] [(31, 7, 0), (32, 7, 0)] 2 H4 := nw_Ip hI3 e4 z4 o4
  refine lv_aload_n hx hb dX9_init_22 rfl h0 ?_
  refine lv_sipush hx hb dX9_init_23 (v := 1644) (by decide) ?_
  refine nw_newa (atype := .int) (t0 := 0) (N := 1644) (c0 := cA 0) (a0 := (1644, .inl (fun _ => 0))) hx hb (hts _ cw_ai) hK rfl rfl (by decide) (by decide) (Nat.le_of_ble_eq_true rfl) (Nat.le_of_ble_eq_true rfl) (Nat.le_of_ble_eq_true rfl) hS4 dX9_init_26 (fun H5 e5 z5 o5 hS5 => ?_)
  have es5 : H4.size = nw_ad B adK (33, 7, 0) := by have := hI4.2.2.2; omega
  rw [es5] at e5 ⊢
  have hI5 : nw_I D (nw_ad B adK) cA nw_hM (nw_ad B adK (30, 7, 0)) 9 [.ref (nw_ad B adK (31, 7, 0)), .ref (nw_ad B adK (32, 7, 0)), .null, .null, .null, .int 0, .int 0, .int 0, .null, .int 0, .null, .null, .int 0, .int 0, .int 0, .int 0, .int 0, .int 0, .int 0, .int 0, .int 0, .int 0, .long 0, .null, .null, .null, .int 0, .int 0, .int 0] [(31, 7, 0), (32, 7, 0), (33, 7, 0)] 3 H5 := nw_Ix (j := 1) hI4 o5 z5 (nw_1 (r := (33, 7, 0)) (nw_ar (h := c_h0) rfl (fun j hj => rfl) (fun j hj => (show nw_hM.2 33 0 7 j = c_h0.2 33 0 7 j from nw_z2 (t := 33) (f := 0) (k := 7) (i := j) (by decide)).symm) e5)) (fun r hr => by rw [List.mem_singleton] at hr; rw [hr]; omega)
  refine nw_put (T := TX9) (N := 29) hx hb hts (q_tagW 30 (by decide)) tyX9 tyX9_ok nmX9 hown hK hin hI5.1 rfl 2 (by decide) (hts _ cw_f9_16) rfl (ty := .array .int) (by decide +kernel) rfl rfl (Nat.le_of_ble_eq_true rfl) hS5 hAz dX9_init_28 (fun H6 L6 e6 z6 o6 hS6 => ?_)
  have hI6 : nw_I D (nw_ad B adK) cA nw_hM (nw_ad B adK (30, 7, 0)) 9 [.ref (nw_ad B adK (31, 7, 0)), .ref (nw_ad B adK (32, 7, 0)), .ref (nw_ad B adK (33, 7, 0)), .null, .null, .int 0, .int 0, .int 0, .null, .int 0, .null, .null, .int 0, .int 0, .int 0, .int 0, .int 0, .int 0, .int 0, .int 0, .int 0, .int 0, .long 0, .null, .null, .null, .int 0, .int 0, .int 0] [(31, 7, 0), (32, 7, 0), (33, 7, 0)] 3 H6 := nw_Ip hI5 e6 z6 o6
  refine lv_aload_n hx hb dX9_init_31 rfl h0 ?_
  refine lv_sipush hx hb dX9_init_32 (v := 1644) (by decide) ?_
  refine nw_newa (atype := .int) (t0 := 0) (N := 1644) (c0 := cA 0) (a0 := (1644, .inl (fun _ => 0))) hx hb (hts _ cw_ai) hK rfl rfl (by decide) (by decide) (Nat.le_of_ble_eq_true rfl) (Nat.le_of_ble_eq_true rfl) (Nat.le_of_ble_eq_true rfl) hS6 dX9_init_35 (fun H7 e7 z7 o7 hS7 => ?_)
  have es7 : H6.size = nw_ad B adK (34, 7, 0) := by have := hI6.2.2.2; omega
  rw [es7] at e7 ⊢
  have hI7 : nw_I D (nw_ad B adK) cA nw_hM (nw_ad B adK (30, 7, 0)) 9 [.ref (nw_ad B adK (31, 7, 0)), .ref (nw_ad B adK (32, 7, 0)), .ref (nw_ad B adK (33, 7, 0)), .null, .null, .int 0, .int 0, .int 0, .null, .int 0, .null, .null, .int 0, .int 0, .int 0, .int 0, .int 0, .int 0, .int 0, .int 0, .int 0, .int 0, .long 0, .null, .null, .null, .int 0, .int 0, .int 0] [(31, 7, 0), (32, 7, 0), (33, 7, 0), (34, 7, 0)] 4 H7 := nw_Ix (j := 1) hI6 o7 z7 (nw_1 (r := (34, 7, 0)) (nw_ar (h := c_h0) rfl (fun j hj => rfl) (fun j hj => (show nw_hM.2 34 0 7 j = c_h0.2 34 0 7 j from nw_z2 (t := 34) (f := 0) (k := 7) (i := j) (by decide)).symm) e7)) (fun r hr => by rw [List.mem_singleton] at hr; rw [hr]; omega)
  refine nw_put (T := TX9) (N := 29) hx hb hts (q_tagW 30 (by decide)) tyX9 tyX9_ok nmX9 hown hK hin hI7.1 rfl 3 (by decide) (hts _ cw_f9_19) rfl (ty := .array .int) (by decide +kernel) rfl rfl (Nat.le_of_ble_eq_true rfl) hS7 hAz dX9_init_37 (fun H8 L8 e8 z8 o8 hS8 => ?_)
  have hI8 : nw_I D (nw_ad B adK) cA nw_hM (nw_ad B adK (30, 7, 0)) 9 [.ref (nw_ad B adK (31, 7, 0)), .ref (nw_ad B adK (32, 7, 0)), .ref (nw_ad B adK (33, 7, 0)), .ref (nw_ad B adK (34, 7, 0)), .null, .int 0, .int 0, .int 0, .null, .int 0, .null, .null, .int 0, .int 0, .int 0, .int 0, .int 0, .int 0, .int 0, .int 0, .int 0, .int 0, .long 0, .null, .null, .null, .int 0, .int 0, .int 0] [(31, 7, 0), (32, 7, 0), (33, 7, 0), (34, 7, 0)] 4 H8 := nw_Ip hI7 e8 z8 o8
  refine lv_aload_n hx hb dX9_init_40 rfl h0 ?_
  refine lv_sipush hx hb dX9_init_41 (v := 4932) (by decide) ?_
  refine nw_newa (atype := .int) (t0 := 0) (N := 4932) (c0 := cA 0) (a0 := (4932, .inl (fun _ => 0))) hx hb (hts _ cw_ai) hK rfl rfl (by decide) (by decide) (Nat.le_of_ble_eq_true rfl) (Nat.le_of_ble_eq_true rfl) (Nat.le_of_ble_eq_true rfl) hS8 dX9_init_44 (fun H9 e9 z9 o9 hS9 => ?_)
  have es9 : H8.size = nw_ad B adK (35, 7, 0) := by have := hI8.2.2.2; omega
  rw [es9] at e9 ⊢
  have hI9 : nw_I D (nw_ad B adK) cA nw_hM (nw_ad B adK (30, 7, 0)) 9 [.ref (nw_ad B adK (31, 7, 0)), .ref (nw_ad B adK (32, 7, 0)), .ref (nw_ad B adK (33, 7, 0)), .ref (nw_ad B adK (34, 7, 0)), .null, .int 0, .int 0, .int 0, .null, .int 0, .null, .null, .int 0, .int 0, .int 0, .int 0, .int 0, .int 0, .int 0, .int 0, .int 0, .int 0, .long 0, .null, .null, .null, .int 0, .int 0, .int 0] [(31, 7, 0), (32, 7, 0), (33, 7, 0), (34, 7, 0), (35, 7, 0)] 5 H9 := nw_Ix (j := 1) hI8 o9 z9 (nw_1 (r := (35, 7, 0)) (nw_ar (h := c_h0) rfl (fun j hj => rfl) (fun j hj => (show nw_hM.2 35 0 7 j = c_h0.2 35 0 7 j from nw_z2 (t := 35) (f := 0) (k := 7) (i := j) (by decide)).symm) e9)) (fun r hr => by rw [List.mem_singleton] at hr; rw [hr]; omega)
  refine nw_put (T := TX9) (N := 29) hx hb hts (q_tagW 30 (by decide)) tyX9 tyX9_ok nmX9 hown hK hin hI9.1 rfl 4 (by decide) (hts _ cw_f9_22) rfl (ty := .array .int) (by decide +kernel) rfl rfl (Nat.le_of_ble_eq_true rfl) hS9 hAz dX9_init_46 (fun H10 L10 e10 z10 o10 hS10 => ?_)
  have hI10 : nw_I D (nw_ad B adK) cA nw_hM (nw_ad B adK (30, 7, 0)) 9 [.ref (nw_ad B adK (31, 7, 0)), .ref (nw_ad B adK (32, 7, 0)), .ref (nw_ad B adK (33, 7, 0)), .ref (nw_ad B adK (34, 7, 0)), .ref (nw_ad B adK (35, 7, 0)), .int 0, .int 0, .int 0, .null, .int 0, .null, .null, .int 0, .int 0, .int 0, .int 0, .int 0, .int 0, .int 0, .int 0, .int 0, .int 0, .long 0, .null, .null, .null, .int 0, .int 0, .int 0] [(31, 7, 0), (32, 7, 0), (33, 7, 0), (34, 7, 0), (35, 7, 0)] 5 H10 := nw_Ip hI9 e10 z10 o10
  refine lv_aload_n hx hb dX9_init_49 rfl h0 ?_
  refine lv_bipush hx hb dX9_init_50 (v := 60) (by decide) ?_
  refine nw_newa (atype := .int) (t0 := 0) (N := 60) (c0 := cA 0) (a0 := (60, .inl (fun _ => 0))) hx hb (hts _ cw_ai) hK rfl rfl (by decide) (by decide) (Nat.le_of_ble_eq_true rfl) (Nat.le_of_ble_eq_true rfl) (Nat.le_of_ble_eq_true rfl) hS10 dX9_init_52 (fun H11 e11 z11 o11 hS11 => ?_)
  have es11 : H10.size = nw_ad B adK (36, 7, 0) := by have := hI10.2.2.2; omega
  rw [es11] at e11 ⊢
  have hI11 : nw_I D (nw_ad B adK) cA nw_hM (nw_ad B adK (30, 7, 0)) 9 [.ref (nw_ad B adK (31, 7, 0)), .ref (nw_ad B adK (32, 7, 0)), .ref (nw_ad B adK (33, 7, 0)), .ref (nw_ad B adK (34, 7, 0)), .ref (nw_ad B adK (35, 7, 0)), .int 0, .int 0, .int 0, .null, .int 0, .null, .null, .int 0, .int 0, .int 0, .int 0, .int 0, .int 0, .int 0, .int 0, .int 0, .int 0, .long 0, .null, .null, .null, .int 0, .int 0, .int 0] [(31, 7, 0), (32, 7, 0), (33, 7, 0), (34, 7, 0), (35, 7, 0), (36, 7, 0)] 6 H11 := nw_Ix (j := 1) hI10 o11 z11 (nw_1 (r := (36, 7, 0)) (nw_ar (h := c_h0) rfl (fun j hj => rfl) (fun j hj => (show nw_hM.2 36 0 7 j = c_h0.2 36 0 7 j from nw_z2 (t := 36) (f := 0) (k := 7) (i := j) (by decide)).symm) e11)) (fun r hr => by rw [List.mem_singleton] at hr; rw [hr]; omega)
  refine nw_put (T := TX9) (N := 29) hx hb hts (q_tagW 30 (by decide)) tyX9 tyX9_ok nmX9 hown hK hin hI11.1 rfl 8 (by decide) (hts _ cw_f9_25) rfl (ty := .array .int) (by decide +kernel) rfl rfl (Nat.le_of_ble_eq_true rfl) hS11 hAz dX9_init_54 (fun H12 L12 e12 z12 o12 hS12 => ?_)
  have hI12 : nw_I D (nw_ad B adK) cA nw_hM (nw_ad B adK (30, 7, 0)) 9 [.ref (nw_ad B adK (31, 7, 0)), .ref (nw_ad B adK (32, 7, 0)), .ref (nw_ad B adK (33, 7, 0)), .ref (nw_ad B adK (34, 7, 0)), .ref (nw_ad B adK (35, 7, 0)), .int 0, .int 0, .int 0, .ref (nw_ad B adK (36, 7, 0)), .int 0, .null, .null, .int 0, .int 0, .int 0, .int 0, .int 0, .int 0, .int 0, .int 0, .int 0, .int 0, .long 0, .null, .null, .null, .int 0, .int 0, .int 0] [(31, 7, 0), (32, 7, 0), (33, 7, 0), (34, 7, 0), (35, 7, 0), (36, 7, 0)] 6 H12 := nw_Ip hI11 e12 z12 o12
  refine lv_aload_n hx hb dX9_init_57 rfl h0 ?_
  refine lv_bipush hx hb dX9_init_58 (v := 60) (by decide) ?_
  refine nw_newa (atype := .int) (t0 := 0) (N := 60) (c0 := cA 0) (a0 := (60, .inl (fun _ => 0))) hx hb (hts _ cw_ai) hK rfl rfl (by decide) (by decide) (Nat.le_of_ble_eq_true rfl) (Nat.le_of_ble_eq_true rfl) (Nat.le_of_ble_eq_true rfl) hS12 dX9_init_60 (fun H13 e13 z13 o13 hS13 => ?_)
  have es13 : H12.size = nw_ad B adK (37, 7, 0) := by have := hI12.2.2.2; omega
  rw [es13] at e13 ⊢
  have hI13 : nw_I D (nw_ad B adK) cA nw_hM (nw_ad B adK (30, 7, 0)) 9 [.ref (nw_ad B adK (31, 7, 0)), .ref (nw_ad B adK (32, 7, 0)), .ref (nw_ad B adK (33, 7, 0)), .ref (nw_ad B adK (34, 7, 0)), .ref (nw_ad B adK (35, 7, 0)), .int 0, .int 0, .int 0, .ref (nw_ad B adK (36, 7, 0)), .int 0, .null, .null, .int 0, .int 0, .int 0, .int 0, .int 0, .int 0, .int 0, .int 0, .int 0, .int 0, .long 0, .null, .null, .null, .int 0, .int 0, .int 0] [(31, 7, 0), (32, 7, 0), (33, 7, 0), (34, 7, 0), (35, 7, 0), (36, 7, 0), (37, 7, 0)] 7 H13 := nw_Ix (j := 1) hI12 o13 z13 (nw_1 (r := (37, 7, 0)) (nw_ar (h := c_h0) rfl (fun j hj => rfl) (fun j hj => (show nw_hM.2 37 0 7 j = c_h0.2 37 0 7 j from nw_z2 (t := 37) (f := 0) (k := 7) (i := j) (by decide)).symm) e13)) (fun r hr => by rw [List.mem_singleton] at hr; rw [hr]; omega)
  refine nw_put (T := TX9) (N := 29) hx hb hts (q_tagW 30 (by decide)) tyX9 tyX9_ok nmX9 hown hK hin hI13.1 rfl 10 (by decide) (hts _ cw_f9_28) rfl (ty := .array .int) (by decide +kernel) rfl rfl (Nat.le_of_ble_eq_true rfl) hS13 hAz dX9_init_62 (fun H14 L14 e14 z14 o14 hS14 => ?_)
  have hI14 : nw_I D (nw_ad B adK) cA nw_hM (nw_ad B adK (30, 7, 0)) 9 [.ref (nw_ad B adK (31, 7, 0)), .ref (nw_ad B adK (32, 7, 0)), .ref (nw_ad B adK (33, 7, 0)), .ref (nw_ad B adK (34, 7, 0)), .ref (nw_ad B adK (35, 7, 0)), .int 0, .int 0, .int 0, .ref (nw_ad B adK (36, 7, 0)), .int 0, .ref (nw_ad B adK (37, 7, 0)), .null, .int 0, .int 0, .int 0, .int 0, .int 0, .int 0, .int 0, .int 0, .int 0, .int 0, .long 0, .null, .null, .null, .int 0, .int 0, .int 0] [(31, 7, 0), (32, 7, 0), (33, 7, 0), (34, 7, 0), (35, 7, 0), (36, 7, 0), (37, 7, 0)] 7 H14 := nw_Ip hI13 e14 z14 o14
  refine lv_aload_n hx hb dX9_init_65 rfl h0 ?_
  refine lv_sipush hx hb dX9_init_66 (v := 700) (by decide) ?_
  refine nw_newa (atype := .byte) (t0 := 1) (N := 700) (c0 := cA 1) (a0 := (700, .inl (fun _ => 0))) hx hb (hts _ nw_ab) hK rfl rfl (by decide) (by decide) (Nat.le_of_ble_eq_true rfl) (Nat.le_of_ble_eq_true rfl) (Nat.le_of_ble_eq_true rfl) hS14 dX9_init_69 (fun H15 e15 z15 o15 hS15 => ?_)
  have es15 : H14.size = nw_ad B adK (38, 7, 0) := by have := hI14.2.2.2; omega
  rw [es15] at e15 ⊢
  have hI15 : nw_I D (nw_ad B adK) cA nw_hM (nw_ad B adK (30, 7, 0)) 9 [.ref (nw_ad B adK (31, 7, 0)), .ref (nw_ad B adK (32, 7, 0)), .ref (nw_ad B adK (33, 7, 0)), .ref (nw_ad B adK (34, 7, 0)), .ref (nw_ad B adK (35, 7, 0)), .int 0, .int 0, .int 0, .ref (nw_ad B adK (36, 7, 0)), .int 0, .ref (nw_ad B adK (37, 7, 0)), .null, .int 0, .int 0, .int 0, .int 0, .int 0, .int 0, .int 0, .int 0, .int 0, .int 0, .long 0, .null, .null, .null, .int 0, .int 0, .int 0] [(31, 7, 0), (32, 7, 0), (33, 7, 0), (34, 7, 0), (35, 7, 0), (36, 7, 0), (37, 7, 0), (38, 7, 0)] 8 H15 := nw_Ix (j := 1) hI14 o15 z15 (nw_1 (r := (38, 7, 0)) (nw_ar (h := c_h0) rfl (fun j hj => rfl) (fun j hj => (show nw_hM.2 38 0 7 j = c_h0.2 38 0 7 j from nw_z2 (t := 38) (f := 0) (k := 7) (i := j) (by decide)).symm) e15)) (fun r hr => by rw [List.mem_singleton] at hr; rw [hr]; omega)
  refine nw_put (T := TX9) (N := 29) hx hb hts (q_tagW 30 (by decide)) tyX9 tyX9_ok nmX9 hown hK hin hI15.1 rfl 11 (by decide) (hts _ cw_f9_31) rfl (ty := .array .byte) (by decide +kernel) rfl rfl (Nat.le_of_ble_eq_true rfl) hS15 hAz dX9_init_71 (fun H16 L16 e16 z16 o16 hS16 => ?_)
  have hI16 : nw_I D (nw_ad B adK) cA nw_hM (nw_ad B adK (30, 7, 0)) 9 [.ref (nw_ad B adK (31, 7, 0)), .ref (nw_ad B adK (32, 7, 0)), .ref (nw_ad B adK (33, 7, 0)), .ref (nw_ad B adK (34, 7, 0)), .ref (nw_ad B adK (35, 7, 0)), .int 0, .int 0, .int 0, .ref (nw_ad B adK (36, 7, 0)), .int 0, .ref (nw_ad B adK (37, 7, 0)), .ref (nw_ad B adK (38, 7, 0)), .int 0, .int 0, .int 0, .int 0, .int 0, .int 0, .int 0, .int 0, .int 0, .int 0, .long 0, .null, .null, .null, .int 0, .int 0, .int 0] [(31, 7, 0), (32, 7, 0), (33, 7, 0), (34, 7, 0), (35, 7, 0), (36, 7, 0), (37, 7, 0), (38, 7, 0)] 8 H16 := nw_Ip hI15 e16 z16 o16
  refine lv_aload_n hx hb dX9_init_74 rfl h0 ?_
  refine lv_iconst hx hb dX9_init_75 (v := (-1)) (by decide) ?_
  refine nw_put (T := TX9) (N := 29) hx hb hts (q_tagW 30 (by decide)) tyX9 tyX9_ok nmX9 hown hK hin hI16.1 rfl 13 (by decide) (hts _ cw_f9_35) rfl (ty := .int) (by decide +kernel) rfl rfl (Nat.le_of_ble_eq_true rfl) hS16 hAz dX9_init_76 (fun H17 L17 e17 z17 o17 hS17 => ?_)
  have hI17 : nw_I D (nw_ad B adK) cA nw_hM (nw_ad B adK (30, 7, 0)) 9 [.ref (nw_ad B adK (31, 7, 0)), .ref (nw_ad B adK (32, 7, 0)), .ref (nw_ad B adK (33, 7, 0)), .ref (nw_ad B adK (34, 7, 0)), .ref (nw_ad B adK (35, 7, 0)), .int 0, .int 0, .int 0, .ref (nw_ad B adK (36, 7, 0)), .int 0, .ref (nw_ad B adK (37, 7, 0)), .ref (nw_ad B adK (38, 7, 0)), .int 0, .int (-1), .int 0, .int 0, .int 0, .int 0, .int 0, .int 0, .int 0, .int 0, .long 0, .null, .null, .null, .int 0, .int 0, .int 0] [(31, 7, 0), (32, 7, 0), (33, 7, 0), (34, 7, 0), (35, 7, 0), (36, 7, 0), (37, 7, 0), (38, 7, 0)] 8 H17 := nw_Ip hI16 e17 z17 o17
  refine lv_aload_n hx hb dX9_init_79 rfl h0 ?_
  refine lv_iconst hx hb dX9_init_80 (v := (-1)) (by decide) ?_
  refine nw_put (T := TX9) (N := 29) hx hb hts (q_tagW 30 (by decide)) tyX9 tyX9_ok nmX9 hown hK hin hI17.1 rfl 14 (by decide) (hts _ cw_f9_39) rfl (ty := .int) (by decide +kernel) rfl rfl (Nat.le_of_ble_eq_true rfl) hS17 hAz dX9_init_81 (fun H18 L18 e18 z18 o18 hS18 => ?_)
  have hI18 : nw_I D (nw_ad B adK) cA nw_hM (nw_ad B adK (30, 7, 0)) 9 [.ref (nw_ad B adK (31, 7, 0)), .ref (nw_ad B adK (32, 7, 0)), .ref (nw_ad B adK (33, 7, 0)), .ref (nw_ad B adK (34, 7, 0)), .ref (nw_ad B adK (35, 7, 0)), .int 0, .int 0, .int 0, .ref (nw_ad B adK (36, 7, 0)), .int 0, .ref (nw_ad B adK (37, 7, 0)), .ref (nw_ad B adK (38, 7, 0)), .int 0, .int (-1), .int (-1), .int 0, .int 0, .int 0, .int 0, .int 0, .int 0, .int 0, .long 0, .null, .null, .null, .int 0, .int 0, .int 0] [(31, 7, 0), (32, 7, 0), (33, 7, 0), (34, 7, 0), (35, 7, 0), (36, 7, 0), (37, 7, 0), (38, 7, 0)] 8 H18 := nw_Ip hI17 e18 z18 o18
  refine lv_aload_n hx hb dX9_init_84 rfl h0 ?_
  refine lv_bipush hx hb dX9_init_85 (v := 14) (by decide) ?_
  refine nw_newa (atype := .long) (t0 := 2) (N := 14) (c0 := cA 2) (a0 := (14, .inr (.inl (fun _ => 0)))) hx hb (hts _ nw_al) hK rfl rfl (by decide) (by decide) (Nat.le_of_ble_eq_true rfl) (Nat.le_of_ble_eq_true rfl) (Nat.le_of_ble_eq_true rfl) hS18 dX9_init_87 (fun H19 e19 z19 o19 hS19 => ?_)
  have es19 : H18.size = nw_ad B adK (39, 7, 0) := by have := hI18.2.2.2; omega
  have az19 : nw_ad B adK (30, 7, 0) ≤ nw_ad B adK (39, 7, 0) := by omega
  rw [es19] at e19 ⊢
  refine lv_dup hx hb dX9_init_89 rfl ?_
  refine lv_iconst (v := nI 0) hx hb dX9_init_90 (by decide) ?_
  refine lv_ldc2 (v := 11442943) hx hb hown (hts _ nw_cl_42) dX9_init_91 ?_
  refine nw_last (t0 := 2) (j := 0) hx hb hK e19 rfl (by decide) (by decide) hS19 az19 dX9_init_94 (fun H20 L20 e20 zz20 oo20 hS20 => ?_)
  have z20 : H20.size = H18.size + 1 := zz20.trans z19
  have o20 : ∀ q, q < H18.size → H20[q]? = H18[q]? := fun q hq => (oo20 q (Nat.ne_of_lt (Nat.lt_of_lt_of_eq hq es19))).trans (o19 q hq)
  refine lv_dup hx hb dX9_init_95 rfl ?_
  refine lv_iconst (v := nI 1) hx hb dX9_init_96 (by decide) ?_
  refine lv_ldc2 (v := 1097234) hx hb hown (hts _ nw_cl_44) dX9_init_97 ?_
  refine nw_last (t0 := 2) (j := 1) hx hb hK e20 rfl (by decide) (by decide) hS20 az19 dX9_init_100 (fun H21 L21 e21 zz21 oo21 hS21 => ?_)
  have z21 : H21.size = H18.size + 1 := zz21.trans z20
  have o21 : ∀ q, q < H18.size → H21[q]? = H18[q]? := fun q hq => (oo21 q (Nat.ne_of_lt (Nat.lt_of_lt_of_eq hq es19))).trans (o20 q hq)
  refine lv_dup hx hb dX9_init_101 rfl ?_
  refine lv_iconst (v := nI 2) hx hb dX9_init_102 (by decide) ?_
  refine lv_ldc2 (v := 923) hx hb hown (hts _ nw_cl_46) dX9_init_103 ?_
  refine nw_last (t0 := 2) (j := 2) hx hb hK e21 rfl (by decide) (by decide) hS21 az19 dX9_init_106 (fun H22 L22 e22 zz22 oo22 hS22 => ?_)
  have z22 : H22.size = H18.size + 1 := zz22.trans z21
  have o22 : ∀ q, q < H18.size → H22[q]? = H18[q]? := fun q hq => (oo22 q (Nat.ne_of_lt (Nat.lt_of_lt_of_eq hq es19))).trans (o21 q hq)
  refine lv_dup hx hb dX9_init_107 rfl ?_
  refine lv_iconst (v := nI 3) hx hb dX9_init_108 (by decide) ?_
  refine lv_ldc2 (v := 13550) hx hb hown (hts _ nw_cl_48) dX9_init_109 ?_
  refine nw_last (t0 := 2) (j := 3) hx hb hK e22 rfl (by decide) (by decide) hS22 az19 dX9_init_112 (fun H23 L23 e23 zz23 oo23 hS23 => ?_)
  have z23 : H23.size = H18.size + 1 := zz23.trans z22
  have o23 : ∀ q, q < H18.size → H23[q]? = H18[q]? := fun q hq => (oo23 q (Nat.ne_of_lt (Nat.lt_of_lt_of_eq hq es19))).trans (o22 q hq)
  refine lv_dup hx hb dX9_init_113 rfl ?_
  refine lv_iconst (v := nI 4) hx hb dX9_init_114 (by decide) ?_
  refine lv_ldc2 (v := 1166657) hx hb hown (hts _ nw_cl_50) dX9_init_115 ?_
  refine nw_last (t0 := 2) (j := 4) hx hb hK e23 rfl (by decide) (by decide) hS23 az19 dX9_init_118 (fun H24 L24 e24 zz24 oo24 hS24 => ?_)
  have z24 : H24.size = H18.size + 1 := zz24.trans z23
  have o24 : ∀ q, q < H18.size → H24[q]? = H18[q]? := fun q hq => (oo24 q (Nat.ne_of_lt (Nat.lt_of_lt_of_eq hq es19))).trans (o23 q hq)
  refine lv_dup hx hb dX9_init_119 rfl ?_
  refine lv_iconst (v := nI 5) hx hb dX9_init_120 (by decide) ?_
  refine lv_ldc2 (v := 136958465) hx hb hown (hts _ nw_cl_52) dX9_init_121 ?_
  refine nw_last (t0 := 2) (j := 5) hx hb hK e24 rfl (by decide) (by decide) hS24 az19 dX9_init_124 (fun H25 L25 e25 zz25 oo25 hS25 => ?_)
  have z25 : H25.size = H18.size + 1 := zz25.trans z24
  have o25 : ∀ q, q < H18.size → H25[q]? = H18[q]? := fun q hq => (oo25 q (Nat.ne_of_lt (Nat.lt_of_lt_of_eq hq es19))).trans (o24 q hq)
  refine lv_dup hx hb dX9_init_125 rfl ?_
  refine lv_bipush (v := nI 6) hx hb dX9_init_126 (by decide) ?_
  refine lv_ldc2 (v := 309910109) hx hb hown (hts _ nw_cl_54) dX9_init_128 ?_
  refine nw_last (t0 := 2) (j := 6) hx hb hK e25 rfl (by decide) (by decide) hS25 az19 dX9_init_131 (fun H26 L26 e26 zz26 oo26 hS26 => ?_)
  have z26 : H26.size = H18.size + 1 := zz26.trans z25
  have o26 : ∀ q, q < H18.size → H26[q]? = H18[q]? := fun q hq => (oo26 q (Nat.ne_of_lt (Nat.lt_of_lt_of_eq hq es19))).trans (o25 q hq)
  refine lv_dup hx hb dX9_init_132 rfl ?_
  refine lv_bipush (v := nI 7) hx hb dX9_init_133 (by decide) ?_
  refine lv_ldc2 (v := 60293219) hx hb hown (hts _ nw_cl_56) dX9_init_135 ?_
  refine nw_last (t0 := 2) (j := 7) hx hb hK e26 rfl (by decide) (by decide) hS26 az19 dX9_init_138 (fun H27 L27 e27 zz27 oo27 hS27 => ?_)
  have z27 : H27.size = H18.size + 1 := zz27.trans z26
  have o27 : ∀ q, q < H18.size → H27[q]? = H18[q]? := fun q hq => (oo27 q (Nat.ne_of_lt (Nat.lt_of_lt_of_eq hq es19))).trans (o26 q hq)
  refine lv_dup hx hb dX9_init_139 rfl ?_
  refine lv_bipush (v := nI 8) hx hb dX9_init_140 (by decide) ?_
  refine lv_ldc2 (v := 51283955) hx hb hown (hts _ nw_cl_58) dX9_init_142 ?_
  refine nw_last (t0 := 2) (j := 8) hx hb hK e27 rfl (by decide) (by decide) hS27 az19 dX9_init_145 (fun H28 L28 e28 zz28 oo28 hS28 => ?_)
  have z28 : H28.size = H18.size + 1 := zz28.trans z27
  have o28 : ∀ q, q < H18.size → H28[q]? = H18[q]? := fun q hq => (oo28 q (Nat.ne_of_lt (Nat.lt_of_lt_of_eq hq es19))).trans (o27 q hq)
  refine lv_dup hx hb dX9_init_146 rfl ?_
  refine lv_bipush (v := nI 9) hx hb dX9_init_147 (by decide) ?_
  refine lv_ldc2 (v := 582248) hx hb hown (hts _ nw_cl_60) dX9_init_149 ?_
  refine nw_last (t0 := 2) (j := 9) hx hb hK e28 rfl (by decide) (by decide) hS28 az19 dX9_init_152 (fun H29 L29 e29 zz29 oo29 hS29 => ?_)
  have z29 : H29.size = H18.size + 1 := zz29.trans z28
  have o29 : ∀ q, q < H18.size → H29[q]? = H18[q]? := fun q hq => (oo29 q (Nat.ne_of_lt (Nat.lt_of_lt_of_eq hq es19))).trans (o28 q hq)
  refine lv_dup hx hb dX9_init_153 rfl ?_
  refine lv_bipush (v := nI 10) hx hb dX9_init_154 (by decide) ?_
  refine lv_ldc2 (v := 8873042) hx hb hown (hts _ nw_cl_62) dX9_init_156 ?_
  refine nw_last (t0 := 2) (j := 10) hx hb hK e29 rfl (by decide) (by decide) hS29 az19 dX9_init_159 (fun H30 L30 e30 zz30 oo30 hS30 => ?_)
  have z30 : H30.size = H18.size + 1 := zz30.trans z29
  have o30 : ∀ q, q < H18.size → H30[q]? = H18[q]? := fun q hq => (oo30 q (Nat.ne_of_lt (Nat.lt_of_lt_of_eq hq es19))).trans (o29 q hq)
  refine lv_dup hx hb dX9_init_160 rfl ?_
  refine lv_bipush (v := nI 11) hx hb dX9_init_161 (by decide) ?_
  refine lv_ldc2 (v := 316282333) hx hb hown (hts _ nw_cl_64) dX9_init_163 ?_
  refine nw_last (t0 := 2) (j := 11) hx hb hK e30 rfl (by decide) (by decide) hS30 az19 dX9_init_166 (fun H31 L31 e31 zz31 oo31 hS31 => ?_)
  have z31 : H31.size = H18.size + 1 := zz31.trans z30
  have o31 : ∀ q, q < H18.size → H31[q]? = H18[q]? := fun q hq => (oo31 q (Nat.ne_of_lt (Nat.lt_of_lt_of_eq hq es19))).trans (o30 q hq)
  refine lv_dup hx hb dX9_init_167 rfl ?_
  refine lv_bipush (v := nI 12) hx hb dX9_init_168 (by decide) ?_
  refine lv_ldc2 (v := 247547) hx hb hown (hts _ nw_cl_66) dX9_init_170 ?_
  refine nw_last (t0 := 2) (j := 12) hx hb hK e31 rfl (by decide) (by decide) hS31 az19 dX9_init_173 (fun H32 L32 e32 zz32 oo32 hS32 => ?_)
  have z32 : H32.size = H18.size + 1 := zz32.trans z31
  have o32 : ∀ q, q < H18.size → H32[q]? = H18[q]? := fun q hq => (oo32 q (Nat.ne_of_lt (Nat.lt_of_lt_of_eq hq es19))).trans (o31 q hq)
  refine lv_dup hx hb dX9_init_174 rfl ?_
  refine lv_bipush (v := nI 13) hx hb dX9_init_175 (by decide) ?_
  refine lv_ldc2 (v := 261253280) hx hb hown (hts _ nw_cl_68) dX9_init_177 ?_
  refine nw_last (t0 := 2) (j := 13) hx hb hK e32 rfl (by decide) (by decide) hS32 az19 dX9_init_180 (fun H33 L33 e33 zz33 oo33 hS33 => ?_)
  have z33 : H33.size = H18.size + 1 := zz33.trans z32
  have o33 : ∀ q, q < H18.size → H33[q]? = H18[q]? := fun q hq => (oo33 q (Nat.ne_of_lt (Nat.lt_of_lt_of_eq hq es19))).trans (o32 q hq)
  have hI33 : nw_I D (nw_ad B adK) cA nw_hM (nw_ad B adK (30, 7, 0)) 9 [.ref (nw_ad B adK (31, 7, 0)), .ref (nw_ad B adK (32, 7, 0)), .ref (nw_ad B adK (33, 7, 0)), .ref (nw_ad B adK (34, 7, 0)), .ref (nw_ad B adK (35, 7, 0)), .int 0, .int 0, .int 0, .ref (nw_ad B adK (36, 7, 0)), .int 0, .ref (nw_ad B adK (37, 7, 0)), .ref (nw_ad B adK (38, 7, 0)), .int 0, .int (-1), .int (-1), .int 0, .int 0, .int 0, .int 0, .int 0, .int 0, .int 0, .long 0, .null, .null, .null, .int 0, .int 0, .int 0] [(31, 7, 0), (32, 7, 0), (33, 7, 0), (34, 7, 0), (35, 7, 0), (36, 7, 0), (37, 7, 0), (38, 7, 0), (39, 7, 0)] 9 H33 := nw_Ix (j := 1) hI18 o33 z33 (nw_1 (r := (39, 7, 0)) (nw_t39 e33)) (fun r hr => by rw [List.mem_singleton] at hr; rw [hr]; omega)
  refine nw_put (T := TX9) (N := 29) hx hb hts (q_tagW 30 (by decide)) tyX9 tyX9_ok nmX9 hown hK hin hI33.1 rfl 23 (by decide) (hts _ cw_f9_70) rfl (ty := .array .long) (by decide +kernel) rfl rfl (Nat.le_of_ble_eq_true rfl) hS33 hAz dX9_init_181 (fun H34 L34 e34 z34 o34 hS34 => ?_)
  have hI34 : nw_I D (nw_ad B adK) cA nw_hM (nw_ad B adK (30, 7, 0)) 9 [.ref (nw_ad B adK (31, 7, 0)), .ref (nw_ad B adK (32, 7, 0)), .ref (nw_ad B adK (33, 7, 0)), .ref (nw_ad B adK (34, 7, 0)), .ref (nw_ad B adK (35, 7, 0)), .int 0, .int 0, .int 0, .ref (nw_ad B adK (36, 7, 0)), .int 0, .ref (nw_ad B adK (37, 7, 0)), .ref (nw_ad B adK (38, 7, 0)), .int 0, .int (-1), .int (-1), .int 0, .int 0, .int 0, .int 0, .int 0, .int 0, .int 0, .long 0, .ref (nw_ad B adK (39, 7, 0)), .null, .null, .int 0, .int 0, .int 0] [(31, 7, 0), (32, 7, 0), (33, 7, 0), (34, 7, 0), (35, 7, 0), (36, 7, 0), (37, 7, 0), (38, 7, 0), (39, 7, 0)] 9 H34 := nw_Ip hI33 e34 z34 o34
  refine lv_aload_n hx hb dX9_init_184 rfl h0 ?_
  refine lv_bipush hx hb dX9_init_185 (v := 14) (by decide) ?_
  refine nw_newa (atype := .int) (t0 := 0) (N := 14) (c0 := cA 0) (a0 := (14, .inl (fun _ => 0))) hx hb (hts _ cw_ai) hK rfl rfl (by decide) (by decide) (Nat.le_of_ble_eq_true rfl) (Nat.le_of_ble_eq_true rfl) (Nat.le_of_ble_eq_true rfl) hS34 dX9_init_187 (fun H35 e35 z35 o35 hS35 => ?_)
  have es35 : H34.size = nw_ad B adK (40, 7, 0) := by have := hI34.2.2.2; omega
  have az35 : nw_ad B adK (30, 7, 0) ≤ nw_ad B adK (40, 7, 0) := by omega
  rw [es35] at e35 ⊢
  refine lv_dup hx hb dX9_init_189 rfl ?_
  refine lv_iconst (v := nI 0) hx hb dX9_init_190 (by decide) ?_
  refine lv_iconst (v := 1) hx hb dX9_init_191 (by decide) ?_
  refine nw_iast (t0 := 0) (j := 0) hx hb hK e35 rfl (by decide) (by decide) hS35 az35 dX9_init_192 (fun H36 L36 e36 zz36 oo36 hS36 => ?_)
  have z36 : H36.size = H34.size + 1 := zz36.trans z35
  have o36 : ∀ q, q < H34.size → H36[q]? = H34[q]? := fun q hq => (oo36 q (Nat.ne_of_lt (Nat.lt_of_lt_of_eq hq es35))).trans (o35 q hq)
  refine lv_dup hx hb dX9_init_193 rfl ?_
  refine lv_iconst (v := nI 1) hx hb dX9_init_194 (by decide) ?_
  refine lv_iconst (v := 1) hx hb dX9_init_195 (by decide) ?_
  refine nw_iast (t0 := 0) (j := 1) hx hb hK e36 rfl (by decide) (by decide) hS36 az35 dX9_init_196 (fun H37 L37 e37 zz37 oo37 hS37 => ?_)
  have z37 : H37.size = H34.size + 1 := zz37.trans z36
  have o37 : ∀ q, q < H34.size → H37[q]? = H34[q]? := fun q hq => (oo37 q (Nat.ne_of_lt (Nat.lt_of_lt_of_eq hq es35))).trans (o36 q hq)
  refine lv_dup hx hb dX9_init_197 rfl ?_
  refine lv_iconst (v := nI 2) hx hb dX9_init_198 (by decide) ?_
  refine lv_iconst (v := 1) hx hb dX9_init_199 (by decide) ?_
  refine nw_iast (t0 := 0) (j := 2) hx hb hK e37 rfl (by decide) (by decide) hS37 az35 dX9_init_200 (fun H38 L38 e38 zz38 oo38 hS38 => ?_)
  have z38 : H38.size = H34.size + 1 := zz38.trans z37
  have o38 : ∀ q, q < H34.size → H38[q]? = H34[q]? := fun q hq => (oo38 q (Nat.ne_of_lt (Nat.lt_of_lt_of_eq hq es35))).trans (o37 q hq)
  refine lv_dup hx hb dX9_init_201 rfl ?_
  refine lv_iconst (v := nI 3) hx hb dX9_init_202 (by decide) ?_
  refine lv_iconst (v := 3) hx hb dX9_init_203 (by decide) ?_
  refine nw_iast (t0 := 0) (j := 3) hx hb hK e38 rfl (by decide) (by decide) hS38 az35 dX9_init_204 (fun H39 L39 e39 zz39 oo39 hS39 => ?_)
  have z39 : H39.size = H34.size + 1 := zz39.trans z38
  have o39 : ∀ q, q < H34.size → H39[q]? = H34[q]? := fun q hq => (oo39 q (Nat.ne_of_lt (Nat.lt_of_lt_of_eq hq es35))).trans (o38 q hq)
  refine lv_dup hx hb dX9_init_205 rfl ?_
  refine lv_iconst (v := nI 4) hx hb dX9_init_206 (by decide) ?_
  refine lv_iconst (v := 0) hx hb dX9_init_207 (by decide) ?_
  refine nw_iast (t0 := 0) (j := 4) hx hb hK e39 rfl (by decide) (by decide) hS39 az35 dX9_init_208 (fun H40 L40 e40 zz40 oo40 hS40 => ?_)
  have z40 : H40.size = H34.size + 1 := zz40.trans z39
  have o40 : ∀ q, q < H34.size → H40[q]? = H34[q]? := fun q hq => (oo40 q (Nat.ne_of_lt (Nat.lt_of_lt_of_eq hq es35))).trans (o39 q hq)
  refine lv_dup hx hb dX9_init_209 rfl ?_
  refine lv_iconst (v := nI 5) hx hb dX9_init_210 (by decide) ?_
  refine lv_iconst (v := 4) hx hb dX9_init_211 (by decide) ?_
  refine nw_iast (t0 := 0) (j := 5) hx hb hK e40 rfl (by decide) (by decide) hS40 az35 dX9_init_212 (fun H41 L41 e41 zz41 oo41 hS41 => ?_)
  have z41 : H41.size = H34.size + 1 := zz41.trans z40
  have o41 : ∀ q, q < H34.size → H41[q]? = H34[q]? := fun q hq => (oo41 q (Nat.ne_of_lt (Nat.lt_of_lt_of_eq hq es35))).trans (o40 q hq)
  refine lv_dup hx hb dX9_init_213 rfl ?_
  refine lv_bipush (v := nI 6) hx hb dX9_init_214 (by decide) ?_
  refine lv_iconst (v := 5) hx hb dX9_init_216 (by decide) ?_
  refine nw_iast (t0 := 0) (j := 6) hx hb hK e41 rfl (by decide) (by decide) hS41 az35 dX9_init_217 (fun H42 L42 e42 zz42 oo42 hS42 => ?_)
  have z42 : H42.size = H34.size + 1 := zz42.trans z41
  have o42 : ∀ q, q < H34.size → H42[q]? = H34[q]? := fun q hq => (oo42 q (Nat.ne_of_lt (Nat.lt_of_lt_of_eq hq es35))).trans (o41 q hq)
  refine lv_dup hx hb dX9_init_218 rfl ?_
  refine lv_bipush (v := nI 7) hx hb dX9_init_219 (by decide) ?_
  refine lv_iconst (v := 2) hx hb dX9_init_221 (by decide) ?_
  refine nw_iast (t0 := 0) (j := 7) hx hb hK e42 rfl (by decide) (by decide) hS42 az35 dX9_init_222 (fun H43 L43 e43 zz43 oo43 hS43 => ?_)
  have z43 : H43.size = H34.size + 1 := zz43.trans z42
  have o43 : ∀ q, q < H34.size → H43[q]? = H34[q]? := fun q hq => (oo43 q (Nat.ne_of_lt (Nat.lt_of_lt_of_eq hq es35))).trans (o42 q hq)
  refine lv_dup hx hb dX9_init_223 rfl ?_
  refine lv_bipush (v := nI 8) hx hb dX9_init_224 (by decide) ?_
  refine lv_iconst (v := 1) hx hb dX9_init_226 (by decide) ?_
  refine nw_iast (t0 := 0) (j := 8) hx hb hK e43 rfl (by decide) (by decide) hS43 az35 dX9_init_227 (fun H44 L44 e44 zz44 oo44 hS44 => ?_)
  have z44 : H44.size = H34.size + 1 := zz44.trans z43
  have o44 : ∀ q, q < H34.size → H44[q]? = H34[q]? := fun q hq => (oo44 q (Nat.ne_of_lt (Nat.lt_of_lt_of_eq hq es35))).trans (o43 q hq)
  refine lv_dup hx hb dX9_init_228 rfl ?_
  refine lv_bipush (v := nI 9) hx hb dX9_init_229 (by decide) ?_
  refine lv_iconst (v := 1) hx hb dX9_init_231 (by decide) ?_
  refine nw_iast (t0 := 0) (j := 9) hx hb hK e44 rfl (by decide) (by decide) hS44 az35 dX9_init_232 (fun H45 L45 e45 zz45 oo45 hS45 => ?_)
  have z45 : H45.size = H34.size + 1 := zz45.trans z44
  have o45 : ∀ q, q < H34.size → H45[q]? = H34[q]? := fun q hq => (oo45 q (Nat.ne_of_lt (Nat.lt_of_lt_of_eq hq es35))).trans (o44 q hq)
  refine lv_dup hx hb dX9_init_233 rfl ?_
  refine lv_bipush (v := nI 10) hx hb dX9_init_234 (by decide) ?_
  refine lv_iconst (v := 1) hx hb dX9_init_236 (by decide) ?_
  refine nw_iast (t0 := 0) (j := 10) hx hb hK e45 rfl (by decide) (by decide) hS45 az35 dX9_init_237 (fun H46 L46 e46 zz46 oo46 hS46 => ?_)
  have z46 : H46.size = H34.size + 1 := zz46.trans z45
  have o46 : ∀ q, q < H34.size → H46[q]? = H34[q]? := fun q hq => (oo46 q (Nat.ne_of_lt (Nat.lt_of_lt_of_eq hq es35))).trans (o45 q hq)
  refine lv_dup hx hb dX9_init_238 rfl ?_
  refine lv_bipush (v := nI 11) hx hb dX9_init_239 (by decide) ?_
  refine lv_iconst (v := 0) hx hb dX9_init_241 (by decide) ?_
  refine nw_iast (t0 := 0) (j := 11) hx hb hK e46 rfl (by decide) (by decide) hS46 az35 dX9_init_242 (fun H47 L47 e47 zz47 oo47 hS47 => ?_)
  have z47 : H47.size = H34.size + 1 := zz47.trans z46
  have o47 : ∀ q, q < H34.size → H47[q]? = H34[q]? := fun q hq => (oo47 q (Nat.ne_of_lt (Nat.lt_of_lt_of_eq hq es35))).trans (o46 q hq)
  refine lv_dup hx hb dX9_init_243 rfl ?_
  refine lv_bipush (v := nI 12) hx hb dX9_init_244 (by decide) ?_
  refine lv_iconst (v := 2) hx hb dX9_init_246 (by decide) ?_
  refine nw_iast (t0 := 0) (j := 12) hx hb hK e47 rfl (by decide) (by decide) hS47 az35 dX9_init_247 (fun H48 L48 e48 zz48 oo48 hS48 => ?_)
  have z48 : H48.size = H34.size + 1 := zz48.trans z47
  have o48 : ∀ q, q < H34.size → H48[q]? = H34[q]? := fun q hq => (oo48 q (Nat.ne_of_lt (Nat.lt_of_lt_of_eq hq es35))).trans (o47 q hq)
  refine lv_dup hx hb dX9_init_248 rfl ?_
  refine lv_bipush (v := nI 13) hx hb dX9_init_249 (by decide) ?_
  refine lv_iconst (v := 0) hx hb dX9_init_251 (by decide) ?_
  refine nw_iast (t0 := 0) (j := 13) hx hb hK e48 rfl (by decide) (by decide) hS48 az35 dX9_init_252 (fun H49 L49 e49 zz49 oo49 hS49 => ?_)
  have z49 : H49.size = H34.size + 1 := zz49.trans z48
  have o49 : ∀ q, q < H34.size → H49[q]? = H34[q]? := fun q hq => (oo49 q (Nat.ne_of_lt (Nat.lt_of_lt_of_eq hq es35))).trans (o48 q hq)
  have hI49 : nw_I D (nw_ad B adK) cA nw_hM (nw_ad B adK (30, 7, 0)) 9 [.ref (nw_ad B adK (31, 7, 0)), .ref (nw_ad B adK (32, 7, 0)), .ref (nw_ad B adK (33, 7, 0)), .ref (nw_ad B adK (34, 7, 0)), .ref (nw_ad B adK (35, 7, 0)), .int 0, .int 0, .int 0, .ref (nw_ad B adK (36, 7, 0)), .int 0, .ref (nw_ad B adK (37, 7, 0)), .ref (nw_ad B adK (38, 7, 0)), .int 0, .int (-1), .int (-1), .int 0, .int 0, .int 0, .int 0, .int 0, .int 0, .int 0, .long 0, .ref (nw_ad B adK (39, 7, 0)), .null, .null, .int 0, .int 0, .int 0] [(31, 7, 0), (32, 7, 0), (33, 7, 0), (34, 7, 0), (35, 7, 0), (36, 7, 0), (37, 7, 0), (38, 7, 0), (39, 7, 0), (40, 7, 0)] 10 H49 := nw_Ix (j := 1) hI34 o49 z49 (nw_1 (r := (40, 7, 0)) (nw_t40 e49)) (fun r hr => by rw [List.mem_singleton] at hr; rw [hr]; omega)
  refine nw_put (T := TX9) (N := 29) hx hb hts (q_tagW 30 (by decide)) tyX9 tyX9_ok nmX9 hown hK hin hI49.1 rfl 24 (by decide) (hts _ cw_f9_74) rfl (ty := .array .int) (by decide +kernel) rfl rfl (Nat.le_of_ble_eq_true rfl) hS49 hAz dX9_init_253 (fun H50 L50 e50 z50 o50 hS50 => ?_)
  have hI50 : nw_I D (nw_ad B adK) cA nw_hM (nw_ad B adK (30, 7, 0)) 9 [.ref (nw_ad B adK (31, 7, 0)), .ref (nw_ad B adK (32, 7, 0)), .ref (nw_ad B adK (33, 7, 0)), .ref (nw_ad B adK (34, 7, 0)), .ref (nw_ad B adK (35, 7, 0)), .int 0, .int 0, .int 0, .ref (nw_ad B adK (36, 7, 0)), .int 0, .ref (nw_ad B adK (37, 7, 0)), .ref (nw_ad B adK (38, 7, 0)), .int 0, .int (-1), .int (-1), .int 0, .int 0, .int 0, .int 0, .int 0, .int 0, .int 0, .long 0, .ref (nw_ad B adK (39, 7, 0)), .ref (nw_ad B adK (40, 7, 0)), .null, .int 0, .int 0, .int 0] [(31, 7, 0), (32, 7, 0), (33, 7, 0), (34, 7, 0), (35, 7, 0), (36, 7, 0), (37, 7, 0), (38, 7, 0), (39, 7, 0), (40, 7, 0)] 10 H50 := nw_Ip hI49 e50 z50 o50
  refine lv_aload_n hx hb dX9_init_256 rfl h0 ?_
  refine lv_iconst hx hb dX9_init_257 (v := 5) (by decide) ?_
  refine nw_newa (atype := .int) (t0 := 0) (N := 5) (c0 := cA 0) (a0 := (5, .inl (fun _ => 0))) hx hb (hts _ cw_ai) hK rfl rfl (by decide) (by decide) (Nat.le_of_ble_eq_true rfl) (Nat.le_of_ble_eq_true rfl) (Nat.le_of_ble_eq_true rfl) hS50 dX9_init_258 (fun H51 e51 z51 o51 hS51 => ?_)
  have es51 : H50.size = nw_ad B adK (41, 7, 0) := by have := hI50.2.2.2; omega
  rw [es51] at e51 ⊢
  have hI51 : nw_I D (nw_ad B adK) cA nw_hM (nw_ad B adK (30, 7, 0)) 9 [.ref (nw_ad B adK (31, 7, 0)), .ref (nw_ad B adK (32, 7, 0)), .ref (nw_ad B adK (33, 7, 0)), .ref (nw_ad B adK (34, 7, 0)), .ref (nw_ad B adK (35, 7, 0)), .int 0, .int 0, .int 0, .ref (nw_ad B adK (36, 7, 0)), .int 0, .ref (nw_ad B adK (37, 7, 0)), .ref (nw_ad B adK (38, 7, 0)), .int 0, .int (-1), .int (-1), .int 0, .int 0, .int 0, .int 0, .int 0, .int 0, .int 0, .long 0, .ref (nw_ad B adK (39, 7, 0)), .ref (nw_ad B adK (40, 7, 0)), .null, .int 0, .int 0, .int 0] [(31, 7, 0), (32, 7, 0), (33, 7, 0), (34, 7, 0), (35, 7, 0), (36, 7, 0), (37, 7, 0), (38, 7, 0), (39, 7, 0), (40, 7, 0), (41, 7, 0)] 11 H51 := nw_Ix (j := 1) hI50 o51 z51 (nw_1 (r := (41, 7, 0)) (nw_ar (h := c_h0) rfl (fun j hj => rfl) (fun j hj => (show nw_hM.2 41 0 7 j = c_h0.2 41 0 7 j from nw_z2 (t := 41) (f := 0) (k := 7) (i := j) (by decide)).symm) e51)) (fun r hr => by rw [List.mem_singleton] at hr; rw [hr]; omega)
  refine nw_put (T := TX9) (N := 29) hx hb hts (q_tagW 30 (by decide)) tyX9 tyX9_ok nmX9 hown hK hin hI51.1 rfl 25 (by decide) (hts _ cw_f9_77) rfl (ty := .array .int) (by decide +kernel) rfl rfl (Nat.le_of_ble_eq_true rfl) hS51 hAz dX9_init_260 (fun H52 L52 e52 z52 o52 hS52 => ?_)
  have hI52 : nw_I D (nw_ad B adK) cA nw_hM (nw_ad B adK (30, 7, 0)) 9 [.ref (nw_ad B adK (31, 7, 0)), .ref (nw_ad B adK (32, 7, 0)), .ref (nw_ad B adK (33, 7, 0)), .ref (nw_ad B adK (34, 7, 0)), .ref (nw_ad B adK (35, 7, 0)), .int 0, .int 0, .int 0, .ref (nw_ad B adK (36, 7, 0)), .int 0, .ref (nw_ad B adK (37, 7, 0)), .ref (nw_ad B adK (38, 7, 0)), .int 0, .int (-1), .int (-1), .int 0, .int 0, .int 0, .int 0, .int 0, .int 0, .int 0, .long 0, .ref (nw_ad B adK (39, 7, 0)), .ref (nw_ad B adK (40, 7, 0)), .ref (nw_ad B adK (41, 7, 0)), .int 0, .int 0, .int 0] [(31, 7, 0), (32, 7, 0), (33, 7, 0), (34, 7, 0), (35, 7, 0), (36, 7, 0), (37, 7, 0), (38, 7, 0), (39, 7, 0), (40, 7, 0), (41, 7, 0)] 11 H52 := nw_Ip hI51 e52 z52 o52
  refine lv_aload_n hx hb dX9_init_263 rfl h0 ?_
  have hw0 : c_w D ((30, 7, 0) :: nw_dM) (nw_ad B adK) cA nw_hM H52 := fun x hx => by
    rcases List.mem_cons.mp hx with q | q
    · rw [q]; exact hI52.1
    · exact hI52.2.1 x q
  have hO52 := hI52.1
  obtain ⟨n0, hT⟩ := eMo_clears (d := 1) (by decide) (m_clears (h := nw_hM))
  have hM := q_call_ok (l := l) (D := D) (nw_CxM (B := B) (adK := adK) (cA := cA)) (lw_X_XX (adV := adV)) lw_EXT n0 1 185 _ nw_hM _ (hT n0 (Nat.le_refl _)) (q_oks_c (Or.inl List.mem_cons_self) (fun v hv => by cases hv)) (by decide) (by decide)
  obtain ⟨⟨k1, k2⟩, k3, ⟨k4, k5, k6⟩, k7⟩ := id (q_mk_all 185 (by decide) (by decide))
  have hvi : q_vi 185 = 1 := rfl
  rw [hvi] at k3
  obtain ⟨k3a, k3b⟩ := k3
  have hn := q_cn_not _ k5
  rw [← k4] at hn
  have hrec : ∃ cellB : Cell, H52[nw_ad B adK (30, 7, 0)]? = some cellB ∧ cellB.vm.isStatics = false ∧ s.vm.findClass (q_y 185).cls = some cellB.cls := by
    obtain ⟨t1, -, -, t4, -⟩ := q_tagT 30 (q_fl_tag rfl)
    have h5 := va_recv hK (nw_P1 hO52) t1 (q0 := 0) rfl
    rw [t4] at h5
    exact h5
  refine nw_cV (dom := ((30, 7, 0) :: nw_dM)) (ad := nw_ad B adK) (cA := cA) (h := nw_hM) (A1 := fun q => nw_ad B adK (30, 7, 0) ≤ q) (X := lw_X (fun j => nw_ad B adK (60, 0, j)) adV (fun q => nw_ad B adK (30, 7, 0) ≤ q)) (d := 1) (As := []) (rest := []) (r := nw_ad B adK (30, 7, 0)) (y := q_y 185) (b := q_b 185) (ml := q_ml 185) (rt := q_rt 185) (own := RX9) (Nat.le_of_ble_eq_true rfl) (by show 8 + (q_ml 185 + 11) + 30 ≤ 60; omega) (Nat.le_of_ble_eq_true rfl) (Nat.le_of_ble_eq_true rfl) hx hb hml hown hts lw_X_XX.2.1 (fun U hU hW => nw_lX (A1 := fun q => B ≤ q) (fun q hq => Nat.le_trans hz hq) (nw_X_mv hW (Nat.le_trans hS52.1 (Nat.le_of_eq (congrArg Array.size hU.symm))) (fun q g1 g2 => (congrArg (fun x : Heap => x[q]?) hU).trans (hS52.2.1 q g1 (fun w => Nat.lt_irrefl _ (Nat.lt_of_lt_of_le g2 (Nat.le_trans hz w))))) hX).1) hK (c_w_P.mp hw0) hS52 (fun q hq => hq) (by have := hI52.2.2.2; rw [this, hsz]) hM k1 k2 k3a k3b cw_ml9 hn hrec (fun sig hsig => by
    rw [hsig] at k7
    exact (Option.some.inj k7).symm) hl.1 (by decide) dX9_init_264 (fun HZ locsZ hPZ zZ oZ hSZ => ?_)
  have hwZ := c_w_P.mpr hPZ
  have hw : c_w D ((30, 7, 0) :: nw_dM) (nw_ad B adK) cA z_h0 HZ := fun x hx => by
    have hq := hwZ x hx
    have hh := nw_dM_1 x hx
    rw [hh.1] at hq ⊢
    exact nw_mc hh.2.1 hh.2.2 hq
  exact W.vret hx hb hr (fun t ht _ => ⟨⟨rfl, by rw [ht, zZ]; exact hI52.2.2.2, by rw [ht]; exact hw⟩, hSZ.F ht⟩) hSZ.2.2 dX9_init_267 hlk
