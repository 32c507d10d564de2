set_option maxRecDepth 100000 in
theorem q_wc4 : ∀ w ∈ u_ws RX4 TX4 12, w ∈ lw_tblG := by
  intro w hw
  obtain ⟨k, hk, rfl⟩ := List.mem_map.mp hw
  have hk := List.mem_range.mp hk
  have h : k = 0 ∨ k = 1 ∨ k = 2 ∨ k = 3 ∨ k = 4 ∨ k = 5 ∨ k = 6 ∨ k = 7 ∨ k = 8 ∨ k = 9 ∨ k = 10 ∨ k = 11 := by omega
  rcases h with rfl | rfl | rfl | rfl | rfl | rfl | rfl | rfl | rfl | rfl | rfl | rfl
  · exact q_g1 (i := 145) rfl rfl
  · exact q_g1 (i := 147) rfl rfl
  · exact q_g1 (i := 149) rfl rfl
  · exact q_g1 (i := 151) rfl rfl
  · exact q_g1 (i := 153) rfl rfl
  · exact q_g1 (i := 155) rfl rfl
  · exact q_g1 (i := 157) rfl rfl
  · exact q_g1 (i := 159) rfl rfl
  · exact q_g1 (i := 161) rfl rfl
  · exact q_g1 (i := 163) rfl rfl
  · exact q_g1 (i := 165) rfl rfl
  · exact q_g1 (i := 167) rfl rfl
set_option maxRecDepth 100000 in
theorem q_wc5 : ∀ w ∈ u_ws RX5 TX5 9, w ∈ lw_tblG := by
  intro w hw
  obtain ⟨k, hk, rfl⟩ := List.mem_map.mp hw
  have hk := List.mem_range.mp hk
  have h : k = 0 ∨ k = 1 ∨ k = 2 ∨ k = 3 ∨ k = 4 ∨ k = 5 ∨ k = 6 ∨ k = 7 ∨ k = 8 := by omega
  rcases h with rfl | rfl | rfl | rfl | rfl | rfl | rfl | rfl | rfl
  · exact q_g2 (i := 70) rfl rfl
  · exact q_g2 (i := 72) rfl rfl
  · exact q_g2 (i := 74) rfl rfl
  · exact q_g2 (i := 76) rfl rfl
  · exact q_g2 (i := 78) rfl rfl
  · exact q_g2 (i := 80) rfl rfl
  · exact q_g2 (i := 82) rfl rfl
  · exact q_g2 (i := 84) rfl rfl
  · exact q_g2 (i := 86) rfl rfl
set_option maxRecDepth 100000 in
theorem q_wc3 : ∀ w ∈ u_ws RX3 TX3 5, w ∈ lw_tblG := by
  intro w hw
  obtain ⟨k, hk, rfl⟩ := List.mem_map.mp hw
  have hk := List.mem_range.mp hk
  have h : k = 0 ∨ k = 1 ∨ k = 2 ∨ k = 3 ∨ k = 4 := by omega
  rcases h with rfl | rfl | rfl | rfl | rfl
  · exact q_g1 (i := 177) rfl rfl
  · exact q_g1 (i := 179) rfl rfl
  · exact q_g1 (i := 181) rfl rfl
  · exact q_g1 (i := 183) rfl rfl
  · exact q_g1 (i := 185) rfl rfl
set_option maxRecDepth 100000 in
theorem q_wc7 : ∀ w ∈ u_ws RX7 TX7 6, w ∈ lw_tblG := by
  intro w hw
  obtain ⟨k, hk, rfl⟩ := List.mem_map.mp hw
  have hk := List.mem_range.mp hk
  have h : k = 0 ∨ k = 1 ∨ k = 2 ∨ k = 3 ∨ k = 4 ∨ k = 5 := by omega
  rcases h with rfl | rfl | rfl | rfl | rfl | rfl
  · exact q_g1 (i := 214) rfl rfl
  · exact q_g1 (i := 216) rfl rfl
  · exact q_g1 (i := 218) rfl rfl
  · exact q_g1 (i := 220) rfl rfl
  · exact q_g1 (i := 222) rfl rfl
  · exact q_g1 (i := 224) rfl rfl
set_option maxRecDepth 100000 in
theorem q_wc1 : ∀ w ∈ u_ws RX1 TX1 4, w ∈ lw_tblG := by
  intro w hw
  obtain ⟨k, hk, rfl⟩ := List.mem_map.mp hw
  have hk := List.mem_range.mp hk
  have h : k = 0 ∨ k = 1 ∨ k = 2 ∨ k = 3 := by omega
  rcases h with rfl | rfl | rfl | rfl
  · exact q_g2 (i := 0) rfl rfl
  · exact q_g2 (i := 2) rfl rfl
  · exact q_g2 (i := 4) rfl rfl
  · exact q_g2 (i := 6) rfl rfl
set_option maxRecDepth 100000 in
theorem q_wc2 : ∀ w ∈ u_ws RX2 TX2 4, w ∈ lw_tblG := by
  intro w hw
  obtain ⟨k, hk, rfl⟩ := List.mem_map.mp hw
  have hk := List.mem_range.mp hk
  have h : k = 0 ∨ k = 1 ∨ k = 2 ∨ k = 3 := by omega
  rcases h with rfl | rfl | rfl | rfl
  · exact q_g2 (i := 20) rfl rfl
  · exact q_g2 (i := 22) rfl rfl
  · exact q_g2 (i := 24) rfl rfl
  · exact q_g2 (i := 26) rfl rfl
set_option maxRecDepth 100000 in
theorem q_wc0 : ∀ w ∈ u_ws RX0 TX0 5, w ∈ lw_tblG := by
  intro w hw
  obtain ⟨k, hk, rfl⟩ := List.mem_map.mp hw
  have hk := List.mem_range.mp hk
  have h : k = 0 ∨ k = 1 ∨ k = 2 ∨ k = 3 ∨ k = 4 := by omega
  rcases h with rfl | rfl | rfl | rfl | rfl
  · exact q_g2 (i := 42) rfl rfl
  · exact q_g2 (i := 44) rfl rfl
  · exact q_g2 (i := 46) rfl rfl
  · exact q_g2 (i := 48) rfl rfl
  · exact q_g2 (i := 50) rfl rfl
set_option maxRecDepth 100000 in
theorem q_wc8 : ∀ w ∈ u_ws RX8 TX8 7, w ∈ lw_tblG := by
  intro w hw
  obtain ⟨k, hk, rfl⟩ := List.mem_map.mp hw
  have hk := List.mem_range.mp hk
  have h : k = 0 ∨ k = 1 ∨ k = 2 ∨ k = 3 ∨ k = 4 ∨ k = 5 ∨ k = 6 := by omega
  rcases h with rfl | rfl | rfl | rfl | rfl | rfl | rfl
  · exact q_g2 (i := 97) rfl rfl
  · exact q_g2 (i := 99) rfl rfl
  · exact q_g2 (i := 101) rfl rfl
  · exact q_g2 (i := 103) rfl rfl
  · exact q_g2 (i := 105) rfl rfl
  · exact q_g2 (i := 107) rfl rfl
  · exact q_g2 (i := 109) rfl rfl
set_option maxRecDepth 100000 in
theorem q_wc6 : ∀ w ∈ u_ws RX6 TX6 17, w ∈ lw_tblG := by
  intro w hw
  obtain ⟨k, hk, rfl⟩ := List.mem_map.mp hw
  have hk := List.mem_range.mp hk
  have h : k = 0 ∨ k = 1 ∨ k = 2 ∨ k = 3 ∨ k = 4 ∨ k = 5 ∨ k = 6 ∨ k = 7 ∨ k = 8 ∨ k = 9 ∨ k = 10 ∨ k = 11 ∨ k = 12 ∨ k = 13 ∨ k = 14 ∨ k = 15 ∨ k = 16 := by omega
  rcases h with rfl | rfl | rfl | rfl | rfl | rfl | rfl | rfl | rfl | rfl | rfl | rfl | rfl | rfl | rfl | rfl | rfl
  · exact q_g1 (i := 55) rfl rfl
  · exact q_g1 (i := 57) rfl rfl
  · exact q_g1 (i := 59) rfl rfl
  · exact q_g1 (i := 61) rfl rfl
  · exact q_g1 (i := 63) rfl rfl
  · exact q_g1 (i := 65) rfl rfl
  · exact q_g1 (i := 67) rfl rfl
  · exact q_g1 (i := 69) rfl rfl
  · exact q_g1 (i := 71) rfl rfl
  · exact q_g1 (i := 73) rfl rfl
  · exact q_g1 (i := 75) rfl rfl
  · exact q_g1 (i := 77) rfl rfl
  · exact q_g1 (i := 79) rfl rfl
  · exact q_g1 (i := 81) rfl rfl
  · exact q_g1 (i := 83) rfl rfl
  · exact q_g1 (i := 85) rfl rfl
  · exact q_g1 (i := 87) rfl rfl
set_option maxRecDepth 100000 in
theorem q_wc9 : ∀ w ∈ u_ws RX9 TX9 29, w ∈ lw_tblG := by
  intro w hw
  obtain ⟨k, hk, rfl⟩ := List.mem_map.mp hw
  have hk := List.mem_range.mp hk
  have h : k = 0 ∨ k = 1 ∨ k = 2 ∨ k = 3 ∨ k = 4 ∨ k = 5 ∨ k = 6 ∨ k = 7 ∨ k = 8 ∨ k = 9 ∨ k = 10 ∨ k = 11 ∨ k = 12 ∨ k = 13 ∨ k = 14 ∨ k = 15 ∨ k = 16 ∨ k = 17 ∨ k = 18 ∨ k = 19 ∨ k = 20 ∨ k = 21 ∨ k = 22 ∨ k = 23 ∨ k = 24 ∨ k = 25 ∨ k = 26 ∨ k = 27 ∨ k = 28 := by omega
  rcases h with rfl | rfl | rfl | rfl | rfl | rfl | rfl | rfl | rfl | rfl | rfl | rfl | rfl | rfl | rfl | rfl | rfl | rfl | rfl | rfl | rfl | rfl | rfl | rfl | rfl | rfl | rfl | rfl | rfl
  · exact q_g6 (i := 25) rfl rfl
  · exact q_g6 (i := 27) rfl rfl
  · exact q_g6 (i := 29) rfl rfl
  · exact q_g6 (i := 31) rfl rfl
  · exact q_g6 (i := 33) rfl rfl
  · exact q_g6 (i := 35) rfl rfl
  · exact q_g6 (i := 37) rfl rfl
  · exact q_g6 (i := 39) rfl rfl
  · exact q_g6 (i := 41) rfl rfl
  · exact q_g6 (i := 43) rfl rfl
  · exact q_g6 (i := 45) rfl rfl
  · exact q_g6 (i := 47) rfl rfl
  · exact q_g6 (i := 49) rfl rfl
  · exact q_g6 (i := 51) rfl rfl
  · exact q_g6 (i := 53) rfl rfl
  · exact q_g6 (i := 55) rfl rfl
  · exact q_g6 (i := 57) rfl rfl
  · exact q_g6 (i := 59) rfl rfl
  · exact q_g6 (i := 61) rfl rfl
  · exact q_g6 (i := 63) rfl rfl
  · exact q_g6 (i := 65) rfl rfl
  · exact q_g6 (i := 67) rfl rfl
  · exact q_g6 (i := 69) rfl rfl
  · exact q_g6 (i := 71) rfl rfl
  · exact q_g6 (i := 73) rfl rfl
  · exact q_g6 (i := 75) rfl rfl
  · exact q_g6 (i := 77) rfl rfl
  · exact q_g6 (i := 79) rfl rfl
  · exact q_g6 (i := 81) rfl rfl
def q_ty0 (t : Nat) : Nat → FieldType := bif Nat.beq t 3 then tyX4 else bif Nat.beq t 0 then tyX5 else bif Nat.beq t 1 then tyX3 else bif Nat.beq t 6 then tyX7 else bif Nat.beq t 11 then tyX1 else bif Nat.beq t 15 then tyX2 else bif Nat.beq t 19 then tyX0 else bif Nat.beq t 24 then tyX8 else bif Nat.beq t 25 then tyX6 else tyX9
set_option maxRecDepth 100000 in
theorem q_tagT : ∀ t ∈ q_tags, vwCl[q_ci t]? = some (q_Tn t) ∧ (q_fl t).length = (q_Tn t).2.2 ∧ (q_fl t).isEmpty = false ∧ (q_Tn t).1 = q_cn (q_ci t) ∧ q_ci t < 10 := by
  intro t ht
  simp only [q_tags, List.mem_cons, List.mem_nil_iff, or_false] at ht
  rcases ht with rfl | rfl | rfl | rfl | rfl | rfl | rfl | rfl | rfl | rfl
  · exact ⟨rfl, rfl, rfl, rfl, by decide⟩
  · exact ⟨rfl, rfl, rfl, rfl, by decide⟩
  · exact ⟨rfl, rfl, rfl, rfl, by decide⟩
  · exact ⟨rfl, rfl, rfl, rfl, by decide⟩
  · exact ⟨rfl, rfl, rfl, rfl, by decide⟩
  · exact ⟨rfl, rfl, rfl, rfl, by decide⟩
  · exact ⟨rfl, rfl, rfl, rfl, by decide⟩
  · exact ⟨rfl, rfl, rfl, rfl, by decide⟩
  · exact ⟨rfl, rfl, rfl, rfl, by decide⟩
  · exact ⟨rfl, rfl, rfl, rfl, by decide⟩
set_option maxRecDepth 100000 in
theorem q_tagW : ∀ t ∈ q_tags, ∀ w ∈ u_ws (q_Tn t).1 (q_Tn t).2.1 (q_Tn t).2.2, w ∈ lw_tblG := by
  intro t ht
  simp only [q_tags, List.mem_cons, List.mem_nil_iff, or_false] at ht
  rcases ht with rfl | rfl | rfl | rfl | rfl | rfl | rfl | rfl | rfl | rfl
  · exact q_wc5
  · exact q_wc3
  · exact q_wc4
  · exact q_wc7
  · exact q_wc1
  · exact q_wc2
  · exact q_wc0
  · exact q_wc8
  · exact q_wc6
  · exact q_wc9
set_option maxRecDepth 100000 in
theorem q_tagY : ∀ t ∈ q_tags, ∀ k, k < (q_Tn t).2.2 → parseFieldDescriptor ((q_Tn t).2.1 k).2.2.1 = some (q_ty0 t k) := by
  intro t ht
  simp only [q_tags, List.mem_cons, List.mem_nil_iff, or_false] at ht
  rcases ht with rfl | rfl | rfl | rfl | rfl | rfl | rfl | rfl | rfl | rfl
  · exact tyX5_ok
  · exact tyX3_ok
  · exact tyX4_ok
  · exact tyX7_ok
  · exact tyX1_ok
  · exact tyX2_ok
  · exact tyX0_ok
  · exact tyX8_ok
  · exact tyX6_ok
  · exact tyX9_ok
set_option maxRecDepth 100000 in
theorem q_tagN : ∀ t ∈ q_tags, ∀ a, a < (q_Tn t).2.2 → ∀ b, b < (q_Tn t).2.2 → a ≠ b → ((q_Tn t).2.1 a).2.1 ≠ ((q_Tn t).2.1 b).2.1 := by
  intro t ht
  simp only [q_tags, List.mem_cons, List.mem_nil_iff, or_false] at ht
  rcases ht with rfl | rfl | rfl | rfl | rfl | rfl | rfl | rfl | rfl | rfl
  · exact nmX5
  · exact nmX3
  · exact nmX4
  · exact nmX7
  · exact nmX1
  · exact nmX2
  · exact nmX0
  · exact nmX8
  · exact nmX6
  · exact nmX9
/-- what a field's kind says of its descriptor -/
def q_fk (c : Nat) (T : String × String × String × Bool) : Bool := bif Nat.ble 3 c then true else bif T.2.2.2 then false else decide (parseFieldDescriptor T.2.2.1 = some (bif Nat.beq c 0 then .int else bif Nat.beq c 1 then .boolean else .long))
def q_fks (t : Nat) : Bool := (q_fl t).zipIdx.all (fun q => q_fk q.1 ((q_Tn t).2.1 q.2))
set_option maxRecDepth 100000 in
theorem q_fks_ok : q_tags.all q_fks = true := by decide +kernel
theorem q_tagF {t : Nat} (ht : t ∈ q_tags) {f c : Nat} (h : (q_fl t)[f]? = some c) (hc : c ≤ 2) : ((q_Tn t).2.1 f).2.2.2 = false ∧ parseFieldDescriptor ((q_Tn t).2.1 f).2.2.1 = some (bif Nat.beq c 0 then .int else bif Nat.beq c 1 then .boolean else .long) := by
  have h1 := List.all_eq_true.mp (List.all_eq_true.mp q_fks_ok t ht) (c, f) (List.mem_of_getElem? (i := f) (by rw [List.getElem?_zipIdx, h]; simp))
  unfold q_fk at h1
  have e : Nat.ble 3 c = false := by
    cases hb : Nat.ble 3 c with
    | false => rfl
    | true => exact absurd (Nat.le_of_ble_eq_true hb) (by omega)
  rw [e] at h1
  cases hf : ((q_Tn t).2.1 f).2.2.2 with
  | true => rw [hf] at h1; simp at h1
  | false => rw [hf] at h1; exact ⟨rfl, by simpa using h1⟩
theorem q_fl_tag {t : Nat} (h : (q_fl t).isEmpty = false) : t ∈ q_tags := by
  by_cases h0 : t = 0
  · subst h0; decide
  by_cases h1 : t = 1
  · subst h1; decide
  by_cases h3 : t = 3
  · subst h3; decide
  by_cases h6 : t = 6
  · subst h6; decide
  by_cases h11 : t = 11
  · subst h11; decide
  by_cases h15 : t = 15
  · subst h15; decide
  by_cases h19 : t = 19
  · subst h19; decide
  by_cases h24 : t = 24
  · subst h24; decide
  by_cases h25 : t = 25
  · subst h25; decide
  by_cases h30 : t = 30
  · subst h30; decide
  exfalso
  have e : ∀ n, ¬ t = n → Nat.beq t n = false := fun n hn => by
    cases hb : Nat.beq t n with
    | false => rfl
    | true => exact absurd (Nat.eq_of_beq_eq_true hb) hn
  unfold q_fl at h
  rw [e 3 h3, e 0 h0, e 1 h1, e 6 h6, e 11 h11, e 15 h15, e 19 h19, e 24 h24, e 25 h25, e 30 h30] at h
  simp at h
