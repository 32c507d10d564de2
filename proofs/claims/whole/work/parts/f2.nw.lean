/-! CONSTRUCTORS, with the addresses known: cells are made one behind the other -/
def nw_of (t i : Nat) : Nat := if t = 3 then (if i < 60 then 6 + i else 3) else if t ≤ 5 then t else t + 60
def nw_b (B k : Nat) : Nat := B + (4 + 84 * k + if 3 ≤ k then 1 else 0)
def nw_ad (B : Nat) (adK : Nat → Nat) : q_R → Nat := fun r => if r.1 = 60 then adK r.2.2 else if 30 ≤ r.1 then B + (479 + r.1) else if r.1 = 28 then B + 256 else if 24 ≤ r.1 then B + (r.1 - 24) else nw_b B r.2.1 + nw_of r.1 r.2.2
theorem nw_ad_st {B : Nat} {adK : Nat → Nat} {t k i : Nat} (h : t < 24) : nw_ad B adK (t, k, i) = nw_b B k + nw_of t i := by
  show (if t = 60 then _ else if 30 ≤ t then _ else if t = 28 then _ else if 24 ≤ t then _ else _) = _
  rw [if_neg (by omega), if_neg (by omega), if_neg (by omega), if_neg (by omega)]
theorem nw_ad_md {B : Nat} {adK : Nat → Nat} {t k i : Nat} (h : 30 ≤ t) (h2 : t < 60) : nw_ad B adK (t, k, i) = B + (479 + t) := by
  show (if t = 60 then _ else if 30 ≤ t then _ else if t = 28 then _ else if 24 ≤ t then _ else _) = _
  rw [if_neg (by omega), if_pos h]
theorem nw_b_le {B k : Nat} : B + 4 ≤ nw_b B k := by unfold nw_b; omega
def nw_tys (cA : Nat → ClassId) : List (ClassId × FieldType) := [(cA 0, .int), (cA 1, .byte), (cA 2, .long), (cA 3, .object "RowPruner$Slot"), (cA 4, .object "RowPruner$Store")]
/-- what is read beside the world, in constructors: X of the law, the links of private constructors, the classes of arrays of objects -/
def nw_X (B : Nat) (adK adV : Nat → Nat) (U : State) : Prop :=
  lw_X (fun i => nw_ad B adK (60, 0, i)) adV (fun q => B ≤ q) U ∧ (va_Nw (.methodLinkNest RX8 11 yX6_init RX8) U ∧ va_Nw (.methodLinkNest RX8 18 yX5_init RX8) U ∧ va_Nw (.methodLinkNest RX5 27 yX1_init RX8) U ∧ va_Nw (.methodLinkNest RX5 34 yX2_init RX8) U ∧ va_Nw (.methodLinkNest RX5 41 yX0_init RX8) U) ∧ va_AO "RowPruner$Slot" U ∧ va_AO "RowPruner$Store" U
theorem nw_X_mv {B : Nat} {adK adV : Nat → Nat} {u U : State} (hW : u.WarmedH U.vm) (hz : u.heap.size ≤ U.heap.size) (hq : ∀ q : Nat, q < u.heap.size → q < B → U.heap[q]? = u.heap[q]?) (h : nw_X B adK adV u) : nw_X B adK adV U :=
  ⟨lw_X_XX.1 u U hW hz (fun q h1 h2 => hq q h1 (Nat.not_le.mp h2)) h.1, ⟨va_Nw.warmM hW h.2.1.1, va_Nw.warmM hW h.2.1.2.1, va_Nw.warmM hW h.2.1.2.2.1, va_Nw.warmM hW h.2.1.2.2.2.1, va_Nw.warmM hW h.2.1.2.2.2.2⟩, va_AO.moved hW.alike h.2.2.1, va_AO.moved hW.alike h.2.2.2⟩
theorem nw_X_cl {B : Nat} {adK adV : Nat → Nat} (a : Array Value) (U : State) (g : JFrame) (mk : MethodId) (h : nw_X B adK adV U) : nw_X B adK adV (U.calling g mk a) :=
  ⟨lw_X_XX.2.1 a U g mk h.1, ⟨va_Nw.same rfl (u := U) rfl h.2.1.1, va_Nw.same rfl (u := U) rfl h.2.1.2.1, va_Nw.same rfl (u := U) rfl h.2.1.2.2.1, va_Nw.same rfl (u := U) rfl h.2.1.2.2.2.1, va_Nw.same rfl (u := U) rfl h.2.1.2.2.2.2⟩, va_AO.moved (u := U) (U := U.calling g mk a) (Vm.Alike.refl U.vm) h.2.2.1, va_AO.moved (u := U) (U := U.calling g mk a) (Vm.Alike.refl U.vm) h.2.2.2⟩
/-- a constructor's contract: of the object r, whose cell is the heap's last; n cells come, those of dom -/
def nw_P (D : va_G) (B : Nat) (adK : Nat → Nat) (cA : Nat → ClassId) (adV : Nat → Nat) (r : q_R) : State → Prop := fun U => U.heap.size = nw_ad B adK r + 1 ∧ va_at D vwCl (nw_ad B adK r, .inr (q_ci r.1, c_df r.1)) U.heap ∧ va_K D vwCl (nw_tys cA) U ∧ nw_X B adK adV U
def nw_Q (D : va_G) (B : Nat) (adK : Nat → Nat) (cA : Nat → ClassId) (r : q_R) (dom : List q_R) (n : Nat) : Array Value → State → Outcome → State → Prop := fun _ st oc t => (oc = .returned none ∧ t.heap.size = nw_ad B adK r + 1 + n ∧ c_w D (r :: dom) (nw_ad B adK) cA z_h0 t.heap) ∧ va_F (fun q => nw_ad B adK r ≤ q) st t
def nw_M (l : Launch) (D : va_G) (B : Nat) (adK : Nat → Nat) (cA : Nat → ClassId) (adV : Nat → Nat) (d : Nat) (y : MethodName) (b : ByteArray) (ml : Nat) (r : q_R) (dom : List q_R) (n ms : Nat) : Prop :=
  Met l y (Cond.code y b ml none :: lw_tblG) { frames := d, cells := n, slots := ms, locals := 30 * d } (va_Pc [.ref (nw_ad B adK r)] (nw_P D B adK cA adV r)) (nw_Q D B adK cA r dom n) n ms (fun q => nw_ad B adK r ≤ q)
theorem nw_met {l : Launch} {D : va_G} {B : Nat} {adK : Nat → Nat} {cA : Nat → ClassId} {adV : Nat → Nat} {d : Nat} {y : MethodName} {b : ByteArray} {ml : Nat} {r : q_R} {dom : List q_R} {n ms : Nat} (hpl : plainName y.cls = true) (hml : 1 ≤ ml) (hy : y.name = "<init>")
    (body : ∀ (p : Program) (e : Env) (s : State) (m : MethodId) (below : List Frame) (meth : Method) (c : Code) (ls : Array Slot), p.tables.exec = Jvm.exec → c.code = b → c.maxLocals = ml → meth.sig.returnType = none → meth.locks = false → s.vm.findClass y.cls = some m.cls → meth.name = "<init>" → (∀ w ∈ lw_tblG, w.before [Value.ref (nw_ad B adK r)].toArray s = true) → nw_P D B adK cA adV r s → lv_has ls ml [(0, .ref (nw_ad B adK r))] →
      W p l e { frames := d, cells := n, slots := ms, locals := 30 * d } s m [Value.ref (nw_ad B adK r)].toArray below meth c s.heap [] 0 0 (MQ below (nw_Q D B adK cA r dom n) [Value.ref (nw_ad B adK r)].toArray s n ms (fun q => nw_ad B adK r ≤ q)) (F0 m 0 ls [])) : nw_M l D B adK cA adV d y b ml r dom n ms := by
  refine Met.ofW (cc := b) (maxL := ml) (ret := none) (ws' := lw_tblG) hpl rfl ?_
  intro p e s mi args below meth c s₁ B0 hml2 hv
  obtain ⟨rfl, hP⟩ := hv
  have hts := atoms_spec (ws := Cond.code y b ml none :: lw_tblG) B0.pre
  have hl := lv_entry [.ref (nw_ad B adK r)] (n := ml) hml
  rw [lg_entry_eq]
  exact body p e s mi below meth c _ B0.exec B0.bytes hml2 B0.returns B0.notSynchronized (findClass_of_methodNamed B0.named) ((name_of_methodNamed B0.named B0.method).1.trans hy) (fun w hw => hts w (List.mem_cons_of_mem _ hw)) hP hl
section NW
variable {p : Program} {l : Launch} {e : Env} {R : Room} {s : State} {m : MethodId} {args : Array Value} {below : List Frame} {meth : Method} {c : Code} {H : Heap} {locs : List Loc} {cells slots : Nat} {Q : State → Prop}
variable {cc : ByteArray} {pc : Nat} {ls : Array Slot} {rest : List Value} {D : va_G} {A : Nat → Prop} {a : Nat} {tys : List (ClassId × FieldType)} {H0 : Heap}
theorem nw_put (hexec : p.tables.exec = Jvm.exec) (hb : c.code = cc) {own : String} {T : u_T} {N ci index z : Nat} (hts : ∀ w ∈ lw_tblG, w.before args s = true) (hin : ∀ w ∈ u_ws own T N, w ∈ lw_tblG) (ty0 : Nat → FieldType) (hty : ∀ k, k < N → parseFieldDescriptor (T k).2.2.1 = some (ty0 k)) (hnm : ∀ a, a < N → ∀ b, b < N → a ≠ b → (T a).2.1 ≠ (T b).2.1) (hown : s.vm.findClass own = some m.cls) (hK : va_K D vwCl tys s) (hini : meth.name = "<init>") {fs : List Value} (hO : va_at D vwCl (z, .inr (ci, fs)) H) (hc : vwCl[ci]? = some (own, T, N)) (k : Nat) (hk : k < N) (hlink : (Cond.fieldLink own index own (T k).2.1 (T k).2.2.1).before args s = true) (hdecl : (T k).1 = own) {ty : FieldType} {v : Value} (hd : parseFieldDescriptor (T k).2.2.1 = some ty) (hn : narrow ty v = v) (hfit : fits ty v = true) (hl : k < fs.length) (hS : va_S A H0 H locs) (hA : A z)
    (hdg : decode cc pc = .ok (.putfield index, 3)) (kk : ∀ (H1 : Heap) (locs1 : List Loc), va_at D vwCl (z, .inr (ci, fs.set k v)) H1 → H1.size = H.size → (∀ q, q ≠ z → H1[q]? = H[q]?) → va_S A H0 H1 locs1 → W p l e R s m args below meth c H1 locs1 cells slots Q (F0 m (pc + 3) ls rest)) : W p l e R s m args below meth c H locs cells slots Q (F0 m pc ls (v :: .ref z :: rest)) := by
  have hap := va_apart (own := own) hts hin ty0 hty hnm hK hc
  obtain ⟨r, h1, cell, q1, q2, q3, q4⟩ := hO
  have hr : r = (own, T, N) := Option.some.inj (h1.symm.trans hc)
  subst hr
  obtain ⟨hSl, hfc, kC, hkC, hkind⟩ := hK.1 ci _ hc
  obtain ⟨cf, kf, fi, f, hi, hsl⟩ := hSl k hk
  have hst := (u_facts hfc hkC (u_lays hts hin hk) hi).1
  have hlay := hts _ (hin _ (u_in_lay hk))
  unfold u_lay at hlay
  have hi2 := hi
  rw [hdecl] at hi2
  by_cases hfin : (T k).2.2.2 = true
  · rw [if_pos hfin] at hlay
    have hcf : m.cls = cf := by
      obtain ⟨_, _, c', _, _, _, -, -, hf', -, -, -, hown2, -⟩ := Cond.laysFinal_spec hlay
      have e1 : c' = cf := by have := hi.symm.trans hf'; simp at this; exact this.1.symm
      rw [hdecl] at hown2
      rw [← e1]; exact Option.some.inj (hown.symm.trans hown2)
    have h6 := u_fits hfc hkC hkind (Or.inr hlay) hi hd hn hfit
    refine W.putFinK hexec hb hown hlink hi2 hst hcf hini (by rw [q2]; exact h6) q1 q3 (by rw [hsl]; exact k2_hasslot (q4 k hk)) rfl rfl hdg fun H' e1 e2 e3 => ?_
    rw [hsl] at e1 ⊢
    exact kk H' _ ⟨_, hc, t_OB.to (V := updV (vp_V fs) k v) ⟨_, e1, q2, q3, t_set q4 hap hk v⟩ (fun j _ => vp_updV_set hl v j)⟩ e2 e3 (hS.put e2 e3 hA)
  · rw [if_neg hfin] at hlay
    have h6 := u_store hfc hkC hkind hlay hi hd hn hfit
    refine W.putK hexec hb (f := f) ⟨hown, hlink, ⟨_, _, _, hi2⟩, hst⟩ (by rw [q2]; exact h6) q1 q3 (by rw [hsl]; exact k2_hasslot (q4 k hk)) rfl rfl hdg fun H' e1 e2 e3 => ?_
    rw [hsl] at e1 ⊢
    exact kk H' _ ⟨_, hc, t_OB.to (V := updV (vp_V fs) k v) ⟨_, e1, q2, q3, t_set q4 hap hk v⟩ (fun j _ => vp_updV_set hl v j)⟩ e2 e3 (hS.put e2 e3 hA)
theorem nw_S1 {H1 : Heap} (hS : va_S A H0 H locs) (z1 : H1.size = H.size + 1) (o1 : ∀ q : Nat, q < H.size → H1[q]? = H[q]?) : va_S A H0 H1 locs :=
  ⟨Nat.le_trans hS.1 (by omega), fun x h1 h2 => (o1 x (Nat.lt_of_lt_of_le h1 hS.1)).trans (hS.2.1 x h1 h2), hS.2.2⟩
theorem nw_newa (hexec : p.tables.exec = Jvm.exec) (hb : c.code = cc) {atype : ArrayType} (harr : (Cond.arrayClass (newarray.typeOf atype)).before args s = true) {t0 N : Nat} {c0 : ClassId} {a0 : vp_A} {n : Int32} (hK : va_K D vwCl tys s) (ht : tys[t0]? = some (c0, newarray.typeOf atype)) (ha : vp_cell c0 a0 = arrV c0 N (fun _ => defaultValue (newarray.typeOf atype))) (hn : ¬ n < 0) (hN : n.toNatClampNeg = N) (hbytes : N * componentBytes (newarray.typeOf atype) ≤ 536870912) (hcells : cells + 1 ≤ R.cells) (hslots : slots + N ≤ R.slots) (hS : va_S A H0 H locs) (hdg : decode cc pc = .ok (.newarray atype, 2))
    (kk : ∀ H1 : Heap, va_at D vwCl (H.size, .inl (c0, a0)) H1 → H1.size = H.size + 1 → (∀ q, q < H.size → H1[q]? = H[q]?) → va_S A H0 H1 locs → W p l e R s m args below meth c H1 locs (cells + 1) (slots + N) Q (F0 m (pc + 2) ls (.ref H.size :: rest))) : W p l e R s m args below meth c H locs cells slots Q (F0 m pc ls (.int n :: rest)) := by
  refine va_newaK hexec hb harr rfl hdg rfl hn hN hbytes hcells hslots rfl fun H1 cA e1 z1 o1 hAr hNm => ?_
  have h9 : s.vm.findClass ("[" ++ (newarray.typeOf atype).toString) = some c0 := by
    have h8 := (hK.2 t0 _ ht).2
    cases atype <;> exact h8
  have e : c0 = cA := Option.some.inj (h9.symm.trans hNm)
  subst e
  exact kk H1 (show H1[H.size]? = some (vp_cell c0 a0) by rw [ha]; exact e1) z1 o1 (nw_S1 hS z1 o1)
theorem nw_newq (hexec : p.tables.exec = Jvm.exec) (hb : c.code = cc) {own C : String} {index t0 N : Nat} {c0 : ClassId} {n : Int32} (hown : s.vm.findClass own = some m.cls) (hclink : (Cond.classLink own index C).before args s = true) (hover : va_AO C s) (hK : va_K D vwCl tys s) (ht : tys[t0]? = some (c0, .object C)) (hn : ¬ n < 0) (hN : n.toNatClampNeg = N) (hbytes : N * 4 ≤ 536870912) (hcells : cells + 1 ≤ R.cells) (hslots : slots + N ≤ R.slots) (hS : va_S A H0 H locs) (hdg : decode cc pc = .ok (.anewarray index, 3))
    (kk : ∀ H1 : Heap, va_at D vwCl (H.size, .inl (c0, N, .inr (.inr (.inr (.inr (fun _ => none)))))) H1 → H1.size = H.size + 1 → (∀ q, q < H.size → H1[q]? = H[q]?) → va_S A H0 H1 locs → W p l e R s m args below meth c H1 locs (cells + 1) (slots + N) Q (F0 m (pc + 3) ls (.ref H.size :: rest))) : W p l e R s m args below meth c H locs cells slots Q (F0 m pc ls (.int n :: rest)) := by
  subst hN
  refine W.anew hexec hb hown hclink (va_AO.use hover) rfl hdg rfl hn hbytes hcells hslots fun cA kA comp f1 f2 f3 f4 => ?_
  obtain ⟨kA2, comp2, g1, g2, g3, g4⟩ := (hK.2 t0 _ ht).2
  have e : c0 = cA := Option.some.inj (g4.symm.trans f1)
  subst e
  generalize hH1 : H.push ({ cls := c0, slots := Array.replicate n.toNatClampNeg .null, vm := .none } : Cell) = H1
  have z1 : H1.size = H.size + 1 := by rw [← hH1, Array.size_push]
  have e1 : H1[H.size]? = some (arrV c0 n.toNatClampNeg (fun _ => .null)) := by rw [← hH1, Array.getElem?_push_size, ← arrV_new]
  have o1 : ∀ q : Nat, q < H.size → H1[q]? = H[q]? := fun q hq => by rw [← hH1, Array.getElem?_push, if_neg (Nat.ne_of_lt hq)]
  exact kk H1 e1 z1 o1 (nw_S1 hS z1 o1)
theorem nw_new (hexec : p.tables.exec = Jvm.exec) (hb : c.code = cc) {own C : String} {T : u_T} {N ci index : Nat} (hts : ∀ w ∈ lw_tblG, w.before args s = true) (hin : ∀ w ∈ u_ws C T N, w ∈ lw_tblG) (ty : Nat → FieldType) (hty : ∀ k, k < N → parseFieldDescriptor (T k).2.2.1 = some (ty k)) (hown : s.vm.findClass own = some m.cls) (hcl : (Cond.classLink own index C).before args s = true) (hinst : (Cond.instantiable C N).before args s = true) (hini : (Cond.initialized C).before args s = true)
    (hK : va_K D vwCl tys s) (hc : vwCl[ci]? = some (C, T, N)) {fs : List Value} (hfs : ∀ j, j < N → defaultValue (ty j) = vp_V fs j) (hcells : cells + 1 ≤ R.cells) (hslots : slots + N ≤ R.slots) (hS : va_S A H0 H locs) (hdg : decode cc pc = .ok (.new index, 3))
    (kk : ∀ H1 : Heap, va_at D vwCl (H.size, .inr (ci, fs)) H1 → H1.size = H.size + 1 → (∀ q, q < H.size → H1[q]? = H[q]?) → va_S A H0 H1 locs → W p l e R s m args below meth c H1 locs (cells + 1) (slots + N) Q (F0 m (pc + 3) ls (.ref H.size :: rest))) : W p l e R s m args below meth c H locs cells slots Q (F0 m pc ls rest) := by
  have hKn := hK.1 ci _ hc
  refine W.newcK hexec hb hown hcl hinst hini rfl hdg hcells hslots hKn.2.1 rfl fun H1 kC hkC e1 z1 o1 => ?_
  exact kk H1 ⟨_, hc, (u_born ty hts hin hKn hkC e1 hty).to hfs⟩ z1 o1 (nw_S1 hS z1 o1)
theorem nw_ast (hexec : p.tables.exec = Jvm.exec) (hb : c.code = cc) {t0 ci : Nat} {c0 : ClassId} {r : vw_C} {n v : Nat} {vs : List Value} {f : Nat → Option Nat} (hK : va_K D vwCl tys s) (ha : va_at D vwCl (a, .inl (c0, n, .inr (.inr (.inr (.inr f))))) H) (ht : tys[t0]? = some (c0, .object r.1)) (hv : va_at D vwCl (v, .inr (ci, vs)) H) (hc : vwCl[ci]? = some r) {i : Int32} (hin : vp_in i n) (hS : va_S A H0 H locs) (hA : A a) (hdg : decode cc pc = .ok (.aastore, 1))
    (kk : ∀ (H1 : Heap) (locs1 : List Loc), va_at D vwCl (a, .inl (c0, n, .inr (.inr (.inr (.inr (va_up f i.toNatClampNeg (some v))))))) H1 → H1.size = H.size → (∀ q, q ≠ a → H1[q]? = H[q]?) → va_S A H0 H1 locs1 → W p l e R s m args below meth c H1 locs1 cells slots Q (F0 m (pc + 1) ls rest)) : W p l e R s m args below meth c H locs cells slots Q (F0 m pc ls (.ref v :: .int i :: .ref a :: rest)) := by
  have hlt : i.toNatClampNeg < n := Nat.not_le.mp fun q => hin (Or.inr q)
  have h0 : ¬ i < 0 := fun q => hin (Or.inl q)
  obtain ⟨r', hr', cellV, g1, g2, g3, -⟩ := hv
  have hcls := (hK.1 ci r hc).2
  obtain ⟨kA, comp, k1, k2, k3, -⟩ := (hK.2 t0 _ ht).2
  have hcomp : comp = D.1 ci := Option.some.inj (k3.symm.trans hcls.1)
  subst hcomp
  obtain ⟨kC, hkC, -⟩ := hcls.2
  have ha' : H[a]? = some (vp_cell c0 (n, .inr (.inr (.inr (.inr f))))) := ha
  refine W.aast hexec hb ha' (fun q h => by cases h) (fun h => by cases h) k1 k2 rfl hkC ⟨h0, by show _ < (arrV _ _ _).slots.size; rw [arrV_size]; exact hlt⟩ g1 (fun q h => by rw [g3] at h; cases h) (by rw [g2]; exact hkC) (by rw [g2]; exact va_assign hcls) rfl rfl hdg fun H1 e z oq => ?_
  refine kk H1 _ ?_ z oq (hS.put z oq hA)
  show H1[a]? = some (vp_cell _ _)
  rw [e]
  rw [vp_cell_q, vp_cell_q, arrV_store]
  congr 2
  funext q
  by_cases hq : q = i.toNatClampNeg
  · subst hq
    simp [updV, va_up, va_rf]
  · simp [updV, va_up, hq]
/-- a method's call out of a constructor: no cell comes -/
theorem nw_cV {dom : List q_R} {ad : q_R → Nat} {cA : Nat → ClassId} {A1 : Nat → Prop} {X : State → Prop} {d nL : Nat} {y : MethodName} {b : ByteArray} {ml : Nat} {rt : Option FieldType} {own : String} {index r : Nat} {As : List Value} {res : q_O} {h : q_H} (hR1 : d + 1 ≤ R.frames) (hR2 : 8 + (ml + 11) + 30 * d ≤ R.locals) (hcr : cells ≤ R.cells) (hsr : slots ≤ R.slots) (hx : p.tables.exec = Jvm.exec) (hb : c.code = cc) (hmlc : c.maxLocals = nL) (hown : s.vm.findClass own = some m.cls) (hts : ∀ w ∈ lw_tblG, w.before args s = true) (hX1 : ∀ (a : Array Value) (U : State) (g : JFrame) (mk : MethodId), X U → X (U.calling g mk a)) (hX2 : ∀ U : State, U.heap = H → s.WarmedH U.vm → X U) (hK : va_K D vwCl tys s)
    (hP : va_P D vwCl (q_ws dom ad cA h) H) (hS : va_S A s.heap H locs) (hA : ∀ q, A1 q → A q) (hsz : H.size = s.heap.size + cells) (hM : j_M l D dom ad cA tys A1 X d y b ml rt (.ref r :: As) h res) (k1 : Cond.code y b ml rt ∈ lw_tblG) (k2 : Cond.initialized y.cls ∈ lw_tblG) (k3 : Cond.instanceMethod y ∈ lw_tblG) (k5 : Cond.selects y.cls y y ∈ lw_tblG) (k4 : Cond.methodLink own index y ∈ lw_tblG) (hn : y.cls ≠ "java/lang/invoke/MethodHandle" ∧ y.cls ≠ "java/lang/invoke/VarHandle")
    (hrc : ∃ cellB : Cell, H[r]? = some cellB ∧ cellB.vm.isStatics = false ∧ s.vm.findClass y.cls = some cellB.cls)
    (hsig : ∀ sig, parseMethodDescriptor y.desc = some sig → As.length = sig.parameters.length) (hls : ls.size = nL) (hct : (rest.map fun v => v.category).sum ≤ 8) (hdg : decode cc pc = .ok (.invokevirtual index, 3))
    (kk : ∀ (H1 : Heap) (locs1 : List Loc), va_P D vwCl (q_ws dom ad cA res.2) H1 → H1.size = H.size → (∀ q, q < H.size → ¬ A1 q → H1[q]? = H[q]?) → va_S A s.heap H1 locs1 → W p l e R s m args below meth c H1 locs1 cells slots Q (F0 m (pc + 3) ls ((res.1.map (q_v ad)).toList ++ rest))) :
    W p l e R s m args below meth c H locs cells slots Q (F0 m pc ls (As.reverse ++ .ref r :: rest)) := by
  have hrun := va_runV (p := p) (l := l) (e := e) (R := R) (below := below) (meth := meth) (locs := locs) (cells := cells) (slots := slots) (g := F0 m pc ls (As.reverse ++ .ref r :: rest)) (As := As) (rest := rest) (n := As.length) (C := y.cls) (b := r) (H := H) (ret := rt) (bytes := b) (maxL := ml) (show CallFix p m c cc nL s args lw_tblG own from ⟨hx, hb, hmlc, hown, hts⟩) hM
    ⟨⟨rfl, rfl, hR1, hR2, pay_in hts (j_wsin k1), List.mem_cons_self, hts _ k1, hts _ k2, hn, hsig, hts _ k4⟩, hts _ k3, hts _ k5⟩
    ⟨fun a U g mk q => ⟨q.1, q.2.1, va_K.moved (u := U) (U := U.calling g mk a) (Vm.Alike.refl U.vm) q.2.2.1, hX1 a U g mk q.2.2.2⟩, hrc, fun U hU hW => ⟨rfl, by rw [hU]; exact hP, va_K.moved hW.alike hK, hX2 U hU hW⟩⟩ rfl rfl hls rfl (lv_room hct) hdg ⟨hcr, hsr⟩
  intro T hT X
  obtain ⟨v, st₀, t, T', L, h0, X', hL, e1, e2, ⟨⟨hv, hp, hres⟩, hz, hk⟩, st⟩ := hrun T hT X
  rw [h0] at hz hk
  have hv : v = res.1.map (q_v ad) := Outcome.returned.inj hv
  subst hv
  have z2 : T'.heap.size ≤ s.heap.size + (cells + 0) := X'.same.2.2.1
  have z3 : H.size ≤ T'.heap.size := by rw [e1]; exact hz
  obtain ⟨t2, a1, b1⟩ := kk T'.heap (locs ++ L) (by rw [e1]; exact hp) (by omega) (fun q h1 h2 => by rw [e1]; exact hk q h1 h2)
    ⟨Nat.le_trans hS.1 z3, fun q h1 h2 => by rw [e1, hk q (Nat.lt_of_lt_of_le h1 hS.1) (fun z => h2 (hA q z))]; exact hS.2.1 q h1 h2, fun q hq => by
      rcases List.mem_append.mp hq with h | h
      · exact hS.2.2 q h
      · exact hA _ (hL q h)⟩ T' rfl X'
  exact ⟨t2, st t2 a1, b1⟩
/-- behind a constructor's call -/
theorem nw_aft {B : Nat} {adK : Nat → Nat} {cA : Nat → ClassId} {r : q_R} {dom : List q_R} {n ms : Nat} {st0 : List Value} {a : Array Value} (hr : va_Run p l e R s m args below meth c H locs cells slots n ms (F0 m pc ls st0) rest (nw_Q D B adK cA r dom n a) (fun q => nw_ad B adK r ≤ q)) (hS : va_S A H0 H locs) (hA : ∀ q, nw_ad B adK r ≤ q → A q)
    (kk : ∀ (H1 : Heap) (locs1 : List Loc), c_w D (r :: dom) (nw_ad B adK) cA z_h0 H1 → H1.size = nw_ad B adK r + 1 + n → (∀ q, q < H.size → q < nw_ad B adK r → H1[q]? = H[q]?) → va_S A H0 H1 locs1 → W p l e R s m args below meth c H1 locs1 (cells + n) (slots + ms) Q (F0 m (pc + 3) ls rest)) : W p l e R s m args below meth c H locs cells slots Q (F0 m pc ls st0) := by
  intro T hT X
  obtain ⟨v, st₀, t, T', L, h0, X', hL, e1, e2, ⟨⟨hv, hsz, hw⟩, hz, hk⟩, st⟩ := hr T hT X
  rw [h0] at hz hk
  have hv : v = none := Outcome.returned.inj hv
  subst hv
  obtain ⟨t2, a1, b1⟩ := kk T'.heap (locs ++ L) (by rw [e1]; exact hw) (by rw [e1]; exact hsz) (fun q h1 h2 => by rw [e1]; exact hk q h1 (Nat.not_le.mpr h2))
    ⟨Nat.le_trans hS.1 (by rw [e1]; exact hz), fun q h1 h2 => by rw [e1, hk q (Nat.lt_of_lt_of_le h1 hS.1) (fun z => h2 (hA q z))]; exact hS.2.1 q h1 h2, fun q hq => by
      rcases List.mem_append.mp hq with h | h
      · exact hS.2.2 q h
      · exact hA _ (hL q h)⟩ T' rfl X'
  exact ⟨t2, st t2 a1, b1⟩
/-- new, dup, the constructor -/
theorem nw_obj {B : Nat} {adK : Nat → Nat} {cA : Nat → ClassId} {adV : Nat → Nat} {own : String} {T : u_T} {N idx1 idx2 d ml nL : Nat} {y : MethodName} {b : ByteArray} {r : q_R} {dom : List q_R} {n ms : Nat} (hM : nw_M l D B adK cA adV d y b ml r dom n ms) (hx : p.tables.exec = Jvm.exec) (hb : c.code = cc) (hmlc : c.maxLocals = nL) (hown : s.vm.findClass own = some m.cls) (hts : ∀ w ∈ lw_tblG, w.before args s = true) (hK : va_K D vwCl (nw_tys cA) s) (hX : nw_X B adK adV s)
    (hin : ∀ w ∈ u_ws y.cls T N, w ∈ lw_tblG) (ty : Nat → FieldType) (hty : ∀ k, k < N → parseFieldDescriptor (T k).2.2.1 = some (ty k)) (hcl : Cond.classLink own idx1 y.cls ∈ lw_tblG) (hinst : Cond.instantiable y.cls N ∈ lw_tblG) (hini : Cond.initialized y.cls ∈ lw_tblG) (hc : vwCl[q_ci r.1]? = some (y.cls, T, N)) (hfs : ∀ j, j < N → defaultValue (ty j) = vp_V (c_df r.1) j) (hcode : Cond.code y b ml none ∈ lw_tblG) (hinm : Cond.instanceMethod y ∈ lw_tblG) (hyn : y.name = "<init>") (hn : y.cls ≠ "java/lang/invoke/MethodHandle" ∧ y.cls ≠ "java/lang/invoke/VarHandle") (hsig : ∀ sig, parseMethodDescriptor y.desc = some sig → 0 = sig.parameters.length)
    (hlink : Cond.methodLink own idx2 y ∈ lw_tblG ∨ ∃ host, va_Nw (.methodLinkNest own idx2 y host) s) (hR1 : d + 1 ≤ R.frames) (hR2 : 8 + (ml + 11) + 30 * d ≤ R.locals) (hcells : cells + 1 + n ≤ R.cells) (hslots : slots + N + ms ≤ R.slots) (hls : ls.size = nL) (hct : (rest.map fun v => v.category).sum ≤ 7)
    (hS : va_S A s.heap H locs) (hAB : ∀ q, A q → B ≤ q) (hsz : H.size = nw_ad B adK r) (hAr : ∀ q, H.size ≤ q → A q) (d1 : decode cc pc = .ok (.new idx1, 3)) (d2 : decode cc (pc + 3) = .ok (.dup, 1)) (d3 : decode cc (pc + 4) = .ok (.invokespecial idx2, 3))
    (kk : ∀ (H1 : Heap) (locs1 : List Loc), c_w D (r :: dom) (nw_ad B adK) cA z_h0 H1 → H1.size = H.size + (1 + n) → (∀ q, q < H.size → H1[q]? = H[q]?) → va_S A s.heap H1 locs1 → W p l e R s m args below meth c H1 locs1 (cells + (1 + n)) (slots + (N + ms)) Q (F0 m (pc + 7) ls (.ref (nw_ad B adK r) :: rest))) : W p l e R s m args below meth c H locs cells slots Q (F0 m pc ls rest) := by
  refine nw_new (fs := c_df r.1) hx hb hts hin ty hty hown (hts _ hcl) (hts _ hinst) (hts _ hini) hK hc hfs (by omega) (by omega) hS d1 (fun H1 hO1 z1 o1 hS1 => ?_)
  refine lv_dup hx hb d2 rfl ?_
  rw [hsz] at hO1 ⊢
  have hp : PreS s H1 (va_Pc [.ref (nw_ad B adK r)] (nw_P D B adK cA adV r)) (.ref (nw_ad B adK r) :: []) :=
    ⟨fun a U g mk q => ⟨q.1, q.2.1, q.2.2.1, va_K.moved (u := U) (U := U.calling g mk a) (Vm.Alike.refl U.vm) q.2.2.2.1, nw_X_cl a U g mk q.2.2.2.2⟩,
     fun U hU hW => ⟨rfl, by rw [hU]; omega, by rw [hU]; exact hO1, va_K.moved hW.alike hK, nw_X_mv hW (by rw [hU]; exact hS1.1) (fun q g1 g2 => by rw [hU]; exact hS1.2.1 q g1 (fun z => Nat.lt_irrefl _ (Nat.lt_of_lt_of_le g2 (hAB q z)))) hX⟩⟩
  have hct2 : ((Value.ref (nw_ad B adK r) :: rest).map fun v => v.category).sum ≤ 8 := by
    simp only [List.map_cons, List.sum_cons]
    have : (Value.ref (nw_ad B adK r)).category = 1 := rfl
    omega
  have go : va_Run p l e R s m args below meth c H1 locs (cells + 1) (slots + N) n ms (F0 m (pc + 4) ls (.ref (nw_ad B adK r) :: .ref (nw_ad B adK r) :: rest)) (.ref (nw_ad B adK r) :: rest) (nw_Q D B adK cA r dom n [Value.ref (nw_ad B adK r)].toArray) (fun q => nw_ad B adK r ≤ q) := by
    rcases hlink with hlk | ⟨host, hlk⟩
    · exact va_runI (As := []) (rest := .ref (nw_ad B adK r) :: rest) (show CallFix p m c cc nL s args lw_tblG own from ⟨hx, hb, hmlc, hown, hts⟩) hM ⟨⟨rfl, rfl, hR1, hR2, pay_in hts (j_wsin hcode), List.mem_cons_self, hts _ hcode, hts _ hini, hn, hsig, hts _ hlk⟩, hyn, hts _ hinm⟩ hp rfl rfl hls rfl (lv_room hct2) d3 ⟨hcells, hslots⟩
    · exact va_runIN (host := host) (As := []) (rest := .ref (nw_ad B adK r) :: rest) (show CallFix p m c cc nL s args lw_tblG own from ⟨hx, hb, hmlc, hown, hts⟩) hM ⟨⟨⟨rfl, rfl, hR1, hR2, pay_in hts (j_wsin hcode), List.mem_cons_self⟩, hts _ hcode, hts _ hini, hn, hsig, va_Nw.use rfl hlk⟩, hyn, hts _ hinm⟩ hp rfl rfl hls rfl (lv_room hct2) d3 ⟨hcells, hslots⟩
  refine nw_aft go hS1 (fun q hq => hAr q (by omega)) (fun H2 locs2 hW2 z2 o2 hS2 => ?_)
  have := kk H2 locs2 hW2 (by omega) (fun q hq => (o2 q (by omega) (by omega)).trans (o1 q hq)) hS2
  rw [← Nat.add_assoc, ← Nat.add_assoc] at this
  exact this
end NW
/-- the world while a constructor goes on: the object's own cell, the cells that are done, how many there are -/
def nw_I (D : va_G) (ad : q_R → Nat) (cA : Nat → ClassId) (h : q_H) (z ci : Nat) (fs : List Value) (dom : List q_R) (n : Nat) (H : Heap) : Prop := va_at D vwCl (z, .inr (ci, fs)) H ∧ c_w D dom ad cA h H ∧ (∀ r ∈ dom, z < ad r) ∧ H.size = z + 1 + n
theorem nw_I0 {D : va_G} {ad : q_R → Nat} {cA : Nat → ClassId} {h : q_H} {z ci : Nat} {fs : List Value} {H : Heap} (hO : va_at D vwCl (z, .inr (ci, fs)) H) (hz : H.size = z + 1) : nw_I D ad cA h z ci fs [] 0 H :=
  ⟨hO, fun r hr => absurd hr List.not_mem_nil, fun r hr => absurd hr List.not_mem_nil, hz⟩
theorem nw_Ix {D : va_G} {ad : q_R → Nat} {cA : Nat → ClassId} {h : q_H} {z ci : Nat} {fs : List Value} {dom d2 : List q_R} {n j : Nat} {H H1 : Heap} (hI : nw_I D ad cA h z ci fs dom n H) (o1 : ∀ q, q < H.size → H1[q]? = H[q]?) (z1 : H1.size = H.size + j) (hW : c_w D d2 ad cA h H1) (hd : ∀ r ∈ d2, z < ad r) : nw_I D ad cA h z ci fs (dom ++ d2) (n + j) H1 :=
  ⟨c_at_keep hI.1 (o1 _ (c_at_lt hI.1)), fun r hr => by
    rcases List.mem_append.mp hr with q | q
    · exact c_at_keep (hI.2.1 r q) (o1 _ (c_at_lt (hI.2.1 r q)))
    · exact hW r q, fun r hr => by
    rcases List.mem_append.mp hr with q | q
    · exact hI.2.2.1 r q
    · exact hd r q, by have := hI.2.2.2; omega⟩
theorem nw_Ip {D : va_G} {ad : q_R → Nat} {cA : Nat → ClassId} {h : q_H} {z ci : Nat} {fs fs2 : List Value} {dom : List q_R} {n : Nat} {H H1 : Heap} (hI : nw_I D ad cA h z ci fs dom n H) (hO : va_at D vwCl (z, .inr (ci, fs2)) H1) (z1 : H1.size = H.size) (o1 : ∀ q, q ≠ z → H1[q]? = H[q]?) : nw_I D ad cA h z ci fs2 dom n H1 :=
  ⟨hO, fun r hr => c_at_keep (hI.2.1 r hr) (o1 _ (Nat.ne_of_gt (hI.2.2.1 r hr))), hI.2.2.1, by have := hI.2.2.2; omega⟩
theorem nw_P1 {D : va_G} {q : Nat × va_E} {H : Heap} (h : va_at D vwCl q H) : va_P D vwCl [q] H := by
  intro k x hx
  cases k with
  | zero => cases hx; exact h
  | succ k => cases hx
theorem nw_1 {D : va_G} {ad : q_R → Nat} {cA : Nat → ClassId} {h : q_H} {H : Heap} {r : q_R} (hr : va_at D vwCl (ad r, q_ce ad cA h r) H) : c_w D [r] ad cA h H := fun x hx => by
  rw [List.mem_singleton] at hx
  rw [hx]
  exact hr
theorem nw_fin {D : va_G} {ad : q_R → Nat} {cA : Nat → ClassId} {h : q_H} {ci n : Nat} {fs : List Value} {dom : List q_R} {H : Heap} {r : q_R} (hI : nw_I D ad cA h (ad r) ci fs dom n H) (he : q_ce ad cA z_h0 r = .inr (ci, fs)) (hd : ∀ x ∈ dom, ∀ H : Heap, va_at D vwCl (ad x, q_ce ad cA h x) H → va_at D vwCl (ad x, q_ce ad cA z_h0 x) H) : c_w D (r :: dom) ad cA z_h0 H := fun x hx => by
  rcases List.mem_cons.mp hx with q | q
  · rw [q, he]; exact hI.1
  · exact hd x q H (hI.2.1 x q)
