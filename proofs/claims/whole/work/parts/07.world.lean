/-! THE WORLD: what the machine's cells are, given the interpreter's heap; what a method's contract is -/
def q_v (ad : q_R → Nat) (v : q_V) : Value := match v with | .inl x => .int x | .inr (.inl x) => .long x | .inr (.inr r) => .ref (ad r)
def q_fv1 (ad : q_R → Nat) (h : q_H) (t k i : Nat) (q : Nat × Nat) : Value := bif Nat.ble q.1 1 then .int (h.1 t q.2 k i) else bif Nat.beq q.1 2 then .long (h.2 t q.2 k i) else .ref (ad (q_rf q.1 k))
def q_fv (ad : q_R → Nat) (h : q_H) (t k i : Nat) : List Value := (q_fl t).zipIdx.map (q_fv1 ad h t k i)
def q_ea (ad : q_R → Nat) (h : q_H) (t k : Nat) : (Nat → Int32) ⊕ (Nat → Int64) ⊕ (Nat → UInt32) ⊕ (Nat → UInt64) ⊕ (Nat → Option Nat) :=
  bif Nat.ble (q_at t) 1 then .inl (fun j => h.1 t 0 k j) else bif Nat.beq (q_at t) 2 then .inr (.inl (fun j => h.2 t 0 k j)) else .inr (.inr (.inr (.inr (fun j => some (ad (q_ra t k j))))))
def q_ce (ad : q_R → Nat) (cA : Nat → ClassId) (h : q_H) (r : q_R) : va_E :=
  bif (q_fl r.1).isEmpty then .inl (cA (q_at r.1), q_al r.1, q_ea ad h r.1 r.2.1) else .inr (q_ci r.1, q_fv ad h r.1 r.2.1 r.2.2)
def q_ws (dom : List q_R) (ad : q_R → Nat) (cA : Nat → ClassId) (h : q_H) : va_W := dom.map (fun r => (ad r, q_ce ad cA h r))
def q_ty (a : Nat) : FieldType := bif Nat.beq a 0 then .int else bif Nat.beq a 1 then .byte else bif Nat.beq a 2 then .long else bif Nat.beq a 3 then .object "RowPruner$Slot" else .object "RowPruner$Store"
def q_Cx (dom : List q_R) (ad : q_R → Nat) (cA : Nat → ClassId) (tys : List (ClassId × FieldType)) (A : Nat → Prop) : Prop :=
  (∀ r ∈ dom, ∀ r' ∈ dom, ad r = ad r' → r = r') ∧ (∀ (i j : Nat) (r : q_R), dom[i]? = some r → dom[j]? = some r → i = j) ∧ (∀ r ∈ dom, A (ad r)) ∧
  (∀ r ∈ dom, r.1 ≠ 60 ∧ ((q_fl r.1).isEmpty = true → r.2.2 = 0 ∧ q_at r.1 < 5 ∧ ∃ t0 : Nat, tys[t0]? = some (cA (q_at r.1), q_ty (q_at r.1)))) ∧
  (∀ r ∈ dom, ∀ (f c : Nat), (q_fl r.1)[f]? = some c → 3 ≤ c → q_rf c r.2.1 ∈ dom) ∧
  (∀ r ∈ dom, (q_at r.1 = 3 ∨ q_at r.1 = 4) → ∀ j, j < q_al r.1 → q_ra r.1 r.2.1 j ∈ dom)
def q_okv (dom : List q_R) (v : q_V) : Prop := match v with | .inr (.inr r) => r ∈ dom ∨ (r.1 = 60 ∧ r.2.1 = 0 ∧ r.2.2 < 14) | _ => True
def q_rm (d : Nat) : Room := { frames := d, cells := 0, slots := 0, locals := 30 * d }
def q_Qc (D : va_G) (dom : List q_R) (ad : q_R → Nat) (cA : Nat → ClassId) (A : Nat → Prop) (res : q_O) : Array Value → State → Outcome → State → Prop := fun _ st oc t => (oc = .returned (res.1.map (q_v ad)) ∧ va_P D vwCl (q_ws dom ad cA res.2) t.heap ∧ ∀ v, res.1 = some v → q_okv dom v) ∧ va_F A st t
def q_Mt (l : Launch) (D : va_G) (dom : List q_R) (ad : q_R → Nat) (cA : Nat → ClassId) (tys : List (ClassId × FieldType)) (A : Nat → Prop) (X : State → Prop) (d m : Nat) (av : List q_V) (h : q_H) (res : q_O) : Prop :=
  Met l (q_y m) (Cond.code (q_y m) (q_b m) (q_ml m) (q_rt m) :: lw_tblG) (q_rm d) (va_Pc (av.map (q_v ad)) (fun U => va_P D vwCl (q_ws dom ad cA h) U.heap ∧ va_K D vwCl tys U ∧ X U)) (q_Qc D dom ad cA A res) 0 0 A
/-- what is read alone beside the world (String constants, nest mates): X -/
def q_XX (ad : q_R → Nat) (A : Nat → Prop) (X : State → Prop) : Prop :=
  (∀ u U : State, u.WarmedH U.vm → u.heap.size ≤ U.heap.size → (∀ q : Nat, q < u.heap.size → ¬ A q → U.heap[q]? = u.heap[q]?) → X u → X U) ∧
  (∀ (a : Array Value) (U : State) (g : JFrame) (mk : MethodId), X U → X (U.calling g mk a)) ∧
  (∀ s : State, X s → ∀ e ∈ q_nes, va_Nw (q_nw e.1 e.2.1 e.2.2.1) s) ∧
  (∀ (s : State) (H : Heap) (locs : List Loc) (i : Nat), X s → va_S A s.heap H locs → i < 14 → ∃ cell : Cell, H[ad (60, 0, i)]? = some cell ∧ cell.vm.isStatics = false ∧ s.vm.findClass (q_cn 12) = some cell.cls) ∧
  (∀ (p : Program) (l : Launch) (e : Env) (R : Room) (s : State) (m : MethodId) (args : Array Value) (below : List Frame) (meth : Method) (c : Code) (H : Heap) (locs : List Loc) (Q : State → Prop) (cc : ByteArray) (pc x : Nat) (ls : Array Slot) (st : List Value),
    p.tables.exec = Jvm.exec → c.code = cc → s.vm.findClass (q_cn 6) = some m.cls → X s → va_S A s.heap H locs → x < 14 → decode cc pc = .ok (.ldc (q_sds.getD x 0), 2) →
    W p l e R s m args below meth c H locs 0 0 Q (F0 m (pc + 2) ls (.ref (ad (60, 0, x)) :: st)) → W p l e R s m args below meth c H locs 0 0 Q (F0 m pc ls st))
/-- the locals -/
def q_LR (ad : q_R → Nat) (nL : Nat) (loc : q_L) (ls : Array Slot) : Prop := loc.length = nL ∧ ∃ lv : List (Nat × Value), lv_has ls nL lv ∧ ∀ (i : Nat) (v : q_V), loc[i]? = some (some v) → (i, q_v ad v) ∈ lv
def q_okl (dom : List q_R) (loc : q_L) : Prop := ∀ (i : Nat) (v : q_V), loc[i]? = some (some v) → q_okv dom v
def q_oks (dom : List q_R) (st : List q_V) : Prop := ∀ v ∈ st, q_okv dom v
theorem q_oks_t {dom : List q_R} {a : q_V} {st : List q_V} (h : q_oks dom (a :: st)) : q_oks dom st := fun v hv => h v (List.mem_cons_of_mem _ hv)
theorem q_oks_h {dom : List q_R} {a : q_V} {st : List q_V} (h : q_oks dom (a :: st)) : q_okv dom a := h a List.mem_cons_self
theorem q_oks_c {dom : List q_R} {a : q_V} {st : List q_V} (ha : q_okv dom a) (h : q_oks dom st) : q_oks dom (a :: st) := fun v hv => by
  rcases List.mem_cons.mp hv with rfl | hv
  · exact ha
  · exact h v hv
theorem q_LR_get {ad : q_R → Nat} {nL : Nat} {loc : q_L} {ls : Array Slot} (h : q_LR ad nL loc ls) {j : Nat} {v : q_V} (hj : loc[j]? = some (some v)) : ls[j]? = some (.val (q_v ad v)) := by
  obtain ⟨-, lv, h1, h2⟩ := h
  exact h1.2.2 (j, q_v ad v) (h2 j v hj)
theorem q_isl_of {loc : q_L} {i j : Nat} (h : q_isl loc j = false) (hij : i + 1 = j) {v : q_V} (hv : loc[i]? = some (some v)) (ad : q_R → Nat) : (q_v ad v).category = 1 := by
  subst hij
  unfold q_isl at h
  have e : Nat.beq (i + 1) 0 = false := rfl
  rw [e] at h
  simp only [cond_false, Nat.add_sub_cancel, hv] at h
  rcases v with x | x | x
  · rfl
  · simp at h
  · rfl
theorem q_LR_set {ad : q_R → Nat} {nL : Nat} {loc : q_L} {lv : List (Nat × Value)} {j : Nat} {v : q_V} (h2 : ∀ (i : Nat) (v : q_V), loc[i]? = some (some v) → (i, q_v ad v) ∈ lv) (hl : q_isl loc j = false) :
    ∀ (i : Nat) (w : q_V), (loc.set j (some v))[i]? = some (some w) → (i, q_v ad w) ∈ ((j, q_v ad v) :: lv.filter (fun q => !(q.1 == j) && !(q.1 + 1 == j && q.2.category == 2))) := by
  intro i w hw
  by_cases hij : j = i
  · subst hij
    rw [List.getElem?_set_self'] at hw
    cases hc : loc[j]? with
    | none => rw [hc] at hw; simp at hw
    | some z => rw [hc] at hw; simp at hw; subst hw; exact List.mem_cons_self
  · rw [List.getElem?_set_ne hij] at hw
    refine List.mem_cons_of_mem _ (List.mem_filter.mpr ⟨h2 i w hw, ?_⟩)
    have h3 : ¬ i = j := fun q => hij q.symm
    simp only [Bool.and_eq_true, Bool.not_eq_true', beq_eq_false_iff_ne, ne_eq, h3, not_false_eq_true, true_and, Bool.and_eq_false_iff]
    by_cases h4 : i + 1 = j
    · right
      rw [q_isl_of hl h4 hw ad]
      decide
    · left
      exact h4
theorem q_okl_set {dom : List q_R} {loc : q_L} {j : Nat} {v : q_V} (h : q_okl dom loc) (hv : q_okv dom v) : q_okl dom (loc.set j (some v)) := by
  intro i w hw
  by_cases hij : j = i
  · subst hij
    rw [List.getElem?_set_self'] at hw
    cases hc : loc[j]? with
    | none => rw [hc] at hw; simp at hw
    | some z => rw [hc] at hw; simp at hw; subst hw; exact hv
  · rw [List.getElem?_set_ne hij] at hw
    exact h i w hw
/-- reading the world -/
theorem q_ws_at {dom : List q_R} {ad : q_R → Nat} {cA : Nat → ClassId} {h : q_H} {r : q_R} (hr : r ∈ dom) : ∃ q0 : Nat, dom[q0]? = some r ∧ (q_ws dom ad cA h)[q0]? = some (ad r, q_ce ad cA h r) := by
  obtain ⟨q0, hq⟩ := List.getElem?_of_mem hr
  exact ⟨q0, hq, by unfold q_ws; rw [List.getElem?_map, hq]; rfl⟩
theorem q_ce_o {ad : q_R → Nat} {cA : Nat → ClassId} {h : q_H} {t k i : Nat} (ht : (q_fl t).isEmpty = false) : q_ce ad cA h (t, k, i) = .inr (q_ci t, q_fv ad h t k i) := by
  unfold q_ce
  rw [ht]
  rfl
theorem q_ce_a {ad : q_R → Nat} {cA : Nat → ClassId} {h : q_H} {t k i : Nat} (ht : (q_fl t).isEmpty = true) : q_ce ad cA h (t, k, i) = .inl (cA (q_at t), q_al t, q_ea ad h t k) := by
  unfold q_ce
  rw [ht]
  rfl
theorem q_fv_get {ad : q_R → Nat} {h : q_H} {t k i f : Nat} : (q_fv ad h t k i)[f]? = (q_fl t)[f]?.map (fun c => q_fv1 ad h t k i (c, f)) := by
  unfold q_fv
  rw [List.getElem?_map, List.getElem?_zipIdx]
  cases (q_fl t)[f]? with
  | none => rfl
  | some c => simp
theorem q_fv_len {ad : q_R → Nat} {h : q_H} {t k i : Nat} : (q_fv ad h t k i).length = (q_fl t).length := by
  unfold q_fv
  simp
theorem q_get_fv {ad : q_R → Nat} {h : q_H} {t f k i : Nat} {v : q_V} (hg : q_get t f k i h = some v) : (q_fv ad h t k i)[f]? = some (q_v ad v) := by
  rw [q_fv_get]
  unfold q_get at hg
  cases hc : (q_fl t)[f]? with
  | none => rw [hc] at hg; cases hg
  | some c =>
    rw [hc] at hg
    simp only [Option.map_some, q_fv1]
    simp only at hg
    cases h1 : Nat.ble c 1 with
    | true => rw [h1] at hg; simp only [cond_true] at hg ⊢; cases hg; rfl
    | false =>
      rw [h1] at hg
      simp only [cond_false] at hg ⊢
      cases h2 : Nat.beq c 2 with
      | true => rw [h2] at hg; simp only [cond_true] at hg ⊢; cases hg; rfl
      | false => rw [h2] at hg; simp only [cond_false] at hg ⊢; cases hg; rfl
/-- writing it -/
theorem q_ws_set {dom : List q_R} {ad : q_R → Nat} {cA : Nat → ClassId} {h h' : q_H} {r : q_R} {q0 : Nat} {e : va_E} (hn : ∀ (i j : Nat) (r : q_R), dom[i]? = some r → dom[j]? = some r → i = j) (hq : dom[q0]? = some r) (he : q_ce ad cA h' r = e) (ho : ∀ r' ∈ dom, r' ≠ r → q_ce ad cA h' r' = q_ce ad cA h r') :
    (q_ws dom ad cA h).set q0 (ad r, e) = q_ws dom ad cA h' := by
  apply List.ext_getElem?
  intro k
  by_cases hk : q0 = k
  · subst hk
    unfold q_ws
    rw [List.getElem?_set_self', List.getElem?_map, List.getElem?_map, hq]
    simp [he]
  · rw [List.getElem?_set_ne hk]
    unfold q_ws
    rw [List.getElem?_map, List.getElem?_map]
    cases hd : dom[k]? with
    | none => rfl
    | some r' =>
      have hne : r' ≠ r := fun q => hk (hn q0 k r hq (by rw [hd, q]))
      simp only [Option.map_some, ho r' (List.mem_of_getElem? hd) hne]
theorem q_fv_si {ad : q_R → Nat} {h : q_H} {t f k i t' k' i' : Nat} {v : Int32} (hne : (t', k', i') ≠ (t, k, i)) : q_fv ad (q_si h t f k i v) t' k' i' = q_fv ad h t' k' i' := by
  unfold q_fv
  apply List.map_congr_left
  intro q _
  unfold q_fv1 q_si
  have e : ¬ (t' = t ∧ q.2 = f ∧ k' = k ∧ i' = i) := fun z => hne (by rw [z.1, z.2.2.1, z.2.2.2])
  simp only [e, if_false]
theorem q_fv_sl {ad : q_R → Nat} {h : q_H} {t f k i t' k' i' : Nat} {v : Int64} (hne : (t', k', i') ≠ (t, k, i)) : q_fv ad (q_sl h t f k i v) t' k' i' = q_fv ad h t' k' i' := by
  unfold q_fv
  apply List.map_congr_left
  intro q _
  unfold q_fv1 q_sl
  have e : ¬ (t' = t ∧ q.2 = f ∧ k' = k ∧ i' = i) := fun z => hne (by rw [z.1, z.2.2.1, z.2.2.2])
  simp only [e, if_false]
theorem q_fv_si_t {ad : q_R → Nat} {h : q_H} {t f k i t' k' i' : Nat} {v : Int32} (hne : t' ≠ t) : q_fv ad (q_si h t f k i v) t' k' i' = q_fv ad h t' k' i' := q_fv_si (fun q => hne (congrArg Prod.fst q))
theorem q_ea_si {ad : q_R → Nat} {h : q_H} {t f k i t' k' : Nat} {v : Int32} (hne : ¬ (t' = t ∧ k' = k)) : q_ea ad (q_si h t f k i v) t' k' = q_ea ad h t' k' := by
  unfold q_ea q_si
  have e : ∀ j, ¬ (t' = t ∧ 0 = f ∧ k' = k ∧ j = i) := fun j z => hne ⟨z.1, z.2.2.1⟩
  simp only [e, if_false]
theorem q_ea_sl {ad : q_R → Nat} {h : q_H} {t f k i t' k' : Nat} {v : Int64} (hne : ¬ (t' = t ∧ k' = k)) : q_ea ad (q_sl h t f k i v) t' k' = q_ea ad h t' k' := by
  unfold q_ea q_sl
  have e : ∀ j, ¬ (t' = t ∧ 0 = f ∧ k' = k ∧ j = i) := fun j z => hne ⟨z.1, z.2.2.1⟩
  simp only [e, if_false]
/-- an object's field is written: the other cells stay -/
theorem q_ce_si_o {dom : List q_R} {ad : q_R → Nat} {cA : Nat → ClassId} {h : q_H} {t f k i : Nat} {v : Int32} (ht : (q_fl t).isEmpty = false) : ∀ r' ∈ dom, r' ≠ (t, k, i) → q_ce ad cA (q_si h t f k i v) r' = q_ce ad cA h r' := by
  rintro ⟨t', k', i'⟩ _ hne
  cases h2 : (q_fl t').isEmpty with
  | false => rw [q_ce_o h2, q_ce_o h2, q_fv_si hne]
  | true => rw [q_ce_a h2, q_ce_a h2, q_ea_si (fun z => by rw [z.1, ht] at h2; cases h2)]
theorem q_ce_sl_o {dom : List q_R} {ad : q_R → Nat} {cA : Nat → ClassId} {h : q_H} {t f k i : Nat} {v : Int64} (ht : (q_fl t).isEmpty = false) : ∀ r' ∈ dom, r' ≠ (t, k, i) → q_ce ad cA (q_sl h t f k i v) r' = q_ce ad cA h r' := by
  rintro ⟨t', k', i'⟩ _ hne
  cases h2 : (q_fl t').isEmpty with
  | false => rw [q_ce_o h2, q_ce_o h2, q_fv_sl hne]
  | true => rw [q_ce_a h2, q_ce_a h2, q_ea_sl (fun z => by rw [z.1, ht] at h2; cases h2)]
theorem q_ce_si_a {dom : List q_R} {ad : q_R → Nat} {cA : Nat → ClassId} {h : q_H} {t f k i : Nat} {v : Int32} (hz : ∀ r ∈ dom, (q_fl r.1).isEmpty = true → r.2.2 = 0) (ht : (q_fl t).isEmpty = true) : ∀ r' ∈ dom, r' ≠ (t, k, 0) → q_ce ad cA (q_si h t f k i v) r' = q_ce ad cA h r' := by
  rintro ⟨t', k', i'⟩ hr hne
  cases h2 : (q_fl t').isEmpty with
  | false => rw [q_ce_o h2, q_ce_o h2, q_fv_si_t (fun z => by rw [z, ht] at h2; cases h2)]
  | true =>
    have e := hz _ hr h2
    simp only at e
    rw [q_ce_a h2, q_ce_a h2, q_ea_si (fun z => hne (by rw [z.1, z.2, e]))]
theorem q_ce_sl_a {dom : List q_R} {ad : q_R → Nat} {cA : Nat → ClassId} {h : q_H} {t f k i : Nat} {v : Int64} (hz : ∀ r ∈ dom, (q_fl r.1).isEmpty = true → r.2.2 = 0) (ht : (q_fl t).isEmpty = true) : ∀ r' ∈ dom, r' ≠ (t, k, 0) → q_ce ad cA (q_sl h t f k i v) r' = q_ce ad cA h r' := by
  rintro ⟨t', k', i'⟩ hr hne
  cases h2 : (q_fl t').isEmpty with
  | false => rw [q_ce_o h2, q_ce_o h2, q_fv_sl (fun z => by cases z; rw [ht] at h2; cases h2)]
  | true =>
    have e := hz _ hr h2
    simp only at e
    rw [q_ce_a h2, q_ce_a h2, q_ea_sl (fun z => hne (by rw [z.1, z.2, e]))]
/-- an array is copied into: the other cells stay -/
theorem q_ce_acp {dom : List q_R} {ad : q_R → Nat} {cA : Nat → ClassId} {h : q_H} {t1 k1 t k n : Nat} (hz : ∀ r ∈ dom, (q_fl r.1).isEmpty = true → r.2.2 = 0) (ht : (q_fl t).isEmpty = true) : ∀ r' ∈ dom, r' ≠ (t, k, 0) → q_ce ad cA (q_acp t1 k1 t k n h) r' = q_ce ad cA h r' := by
  rintro ⟨t', k', i'⟩ hr hne
  cases h2 : (q_fl t').isEmpty with
  | false =>
    rw [q_ce_o h2, q_ce_o h2]
    unfold q_fv
    congr 2
    apply List.map_congr_left
    intro q _
    unfold q_fv1 q_acp
    have e : ¬ (t' = t ∧ q.2 = 0 ∧ k' = k ∧ i' < n) := fun z => by rw [z.1, ht] at h2; cases h2
    simp only [e, if_false]
  | true =>
    have e := hz _ hr h2
    simp only at e
    rw [q_ce_a h2, q_ce_a h2]
    unfold q_ea q_acp
    have e2 : ∀ j, ¬ (t' = t ∧ True ∧ k' = k ∧ j < n) := fun j z => hne (by rw [z.1, z.2.2.1, e])
    simp only [e2, if_false]
theorem q_ce_acl {dom : List q_R} {ad : q_R → Nat} {cA : Nat → ClassId} {h : q_H} {t1 k1 t k n : Nat} (hz : ∀ r ∈ dom, (q_fl r.1).isEmpty = true → r.2.2 = 0) (ht : (q_fl t).isEmpty = true) : ∀ r' ∈ dom, r' ≠ (t, k, 0) → q_ce ad cA (q_acl t1 k1 t k n h) r' = q_ce ad cA h r' := by
  rintro ⟨t', k', i'⟩ hr hne
  cases h2 : (q_fl t').isEmpty with
  | false =>
    rw [q_ce_o h2, q_ce_o h2]
    unfold q_fv
    congr 2
    apply List.map_congr_left
    intro q _
    unfold q_fv1 q_acl
    have e : ¬ (t' = t ∧ q.2 = 0 ∧ k' = k ∧ i' < n) := fun z => by rw [z.1, ht] at h2; cases h2
    simp only [e, if_false]
  | true =>
    have e := hz _ hr h2
    simp only at e
    rw [q_ce_a h2, q_ce_a h2]
    unfold q_ea q_acl
    have e2 : ∀ j, ¬ (t' = t ∧ True ∧ k' = k ∧ j < n) := fun j z => hne (by rw [z.1, z.2.2.1, e])
    simp only [e2, if_false]
