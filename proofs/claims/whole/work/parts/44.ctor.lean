/-! CONSTRUCTORS: worlds as predicates; a new array's class is the known one -/
def c_w (D : va_G) (dom : List q_R) (ad : q_R → Nat) (cA : Nat → ClassId) (h : q_H) (H : Heap) : Prop := ∀ r ∈ dom, va_at D vwCl (ad r, q_ce ad cA h r) H
theorem c_w_P {D : va_G} {dom : List q_R} {ad : q_R → Nat} {cA : Nat → ClassId} {h : q_H} {H : Heap} : c_w D dom ad cA h H ↔ va_P D vwCl (q_ws dom ad cA h) H := by
  constructor
  · intro hw k q hk
    unfold q_ws at hk
    rw [List.getElem?_map] at hk
    cases hd : dom[k]? with
    | none => rw [hd] at hk; cases hk
    | some r =>
      rw [hd] at hk
      cases hk
      exact hw r (List.mem_of_getElem? hd)
  · intro hP r hr
    obtain ⟨q0, -, h2⟩ := q_ws_at (ad := ad) (cA := cA) (h := h) hr
    exact hP q0 _ h2
theorem c_at_keep {D : va_G} {q : Nat × va_E} {H H1 : Heap} (h : va_at D vwCl q H) (hk : H1[q.1]? = H[q.1]?) : va_at D vwCl q H1 := by
  have hP : va_P D vwCl [q] H := by
    intro k x hx
    cases k with
    | zero => cases hx; exact h
    | succ k => cases hx
  exact (hP.kept (fun k x hx => by
    cases k with
    | zero => cases hx; exact hk
    | succ k => cases hx)) 0 q rfl
theorem c_at_lt {D : va_G} {q : Nat × va_E} {H : Heap} (h : va_at D vwCl q H) : q.1 < H.size := by
  have hP : va_P D vwCl [q] H := by
    intro k x hx
    cases k with
    | zero => cases hx; exact h
    | succ k => cases hx
  exact (hP 0 q rfl).lt
theorem c_w_keep {D : va_G} {dom : List q_R} {ad : q_R → Nat} {cA : Nat → ClassId} {h : q_H} {H H1 : Heap} (hw : c_w D dom ad cA h H) (hk : ∀ r ∈ dom, H1[ad r]? = H[ad r]?) : c_w D dom ad cA h H1 := fun r hr => c_at_keep (hw r hr) (hk r hr)
theorem c_RA {s : State} {c0 c1 : ClassId} {ty : FieldType} (h0 : va_RA s c0 ty) (h1 : va_RA s c1 ty) : c0 = c1 := by
  have go : s.vm.findClass ("[" ++ ty.toString) = some c0 → s.vm.findClass ("[" ++ ty.toString) = some c1 → c0 = c1 := fun a b => Option.some.inj (a.symm.trans b)
  cases ty with
  | object C =>
    obtain ⟨_, _, _, _, _, a⟩ := h0
    obtain ⟨_, _, _, _, _, b⟩ := h1
    exact go a b
  | _ => exact go h0 h1
theorem c_cA {D : va_G} {tys : List (ClassId × FieldType)} {s : State} {c0 c1 : ClassId} {ty : FieldType} {t0 : Nat} (hK : va_K D vwCl (tys ++ [(c1, ty)]) s) (ht : tys[t0]? = some (c0, ty)) : c0 = c1 :=
  c_RA (hK.2 t0 (c0, ty) (by rw [List.getElem?_append_left (List.getElem?_eq_some_iff.mp ht).1]; exact ht)).2 (hK.2 tys.length (c1, ty) (by simp)).2
theorem c_K0 {D : va_G} {tys : List (ClassId × FieldType)} {s : State} {x : ClassId × FieldType} (hK : va_K D vwCl (tys ++ [x]) s) : va_K D vwCl tys s :=
  ⟨hK.1, fun k q hk => hK.2 k q (by rw [List.getElem?_append_left (List.getElem?_eq_some_iff.mp hk).1]; exact hk)⟩
