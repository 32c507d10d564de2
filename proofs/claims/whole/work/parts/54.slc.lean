/-! slots: how a store of the component holds them -/
def g_pl (a b : Int32) : Int32 := if a < 0 then -1 else nI 10 * a + b
def r_s (S : g_S) (A : g_A) (s : Nat) : Prop :=
  (g_fu A s = true → S.1 3 0 s = 1 ∧ S.1 3 1 s = -1 ∧ S.1 3 2 s = A 1 s 2 ∧ S.1 3 3 s = A 1 s 3 ∧ S.1 3 4 s = A 1 s 4 ∧ S.1 3 5 s = A 1 s 5 ∧ S.1 3 6 s = A 1 s 6 ∧ S.1 3 7 s = A 1 s 7 ∧ S.1 3 8 s = g_pl (A 1 s 8) (A 1 s 9) ∧ S.1 3 10 s = A 1 s 10 ∧ S.1 3 11 s = A 1 s 11) ∧
  (g_fu A s = false → S.1 3 0 s = (if g_iv A s = true then A 1 s 0 else 0) ∧ S.1 3 1 s = (if g_iv A s = true ∧ A 1 s 0 = 2 then nI (10 * (s / 10)) + A 1 s 1 else -1) ∧ S.1 3 2 s = -1 ∧ S.1 3 3 s = -1 ∧ S.1 3 4 s = -1 ∧ S.1 3 5 s = 0 ∧ S.1 3 6 s = -1 ∧ S.1 3 7 s = -1 ∧ S.1 3 8 s = -1 ∧ S.1 3 10 s = 0 ∧ S.1 3 11 s = 0)
/-- there is no slot there -/
def r_n (S : g_S) : Prop := S.1 3 0 60 = 0 ∧ S.1 3 1 60 = -1 ∧ S.1 3 2 60 = -1 ∧ S.1 3 3 60 = -1 ∧ S.1 3 4 60 = -1 ∧ S.1 3 5 60 = 0 ∧ S.1 3 6 60 = -1 ∧ S.1 3 7 60 = -1 ∧ S.1 3 8 60 = -1 ∧ S.1 3 10 60 = 0 ∧ S.1 3 11 60 = 0
/-- a page -/
def r_p (S : g_S) (A : g_A) (p : Nat) : Prop := S.1 4 0 p = A 0 (17 + p) 0 ∧ S.1 5 0 p = A 0 (23 + p) 0 ∧ ∀ j, j < 10 → r_s S A (10 * p + j)
def g_wq (A : g_A) : Prop := ∀ t, 1 ≤ t → t < g_nx A → A 3 t 0 = 0 ∨ A 3 t 0 = 1 ∨ A 3 t 0 = 2
def g_wv (A : g_A) : Prop := ∀ s, s < 60 → g_fu A s = true → g_ws A s
theorem r_ps {S : g_S} {A : g_A} (h : ∀ p, p < 6 → r_p S A p) {s : Nat} (hs : s < 60) : r_s S A s := by
  have := (h (s / 10) (by omega)).2.2 (s % 10) (by omega)
  rwa [Nat.div_add_mod] at this
theorem g_pl_p {p q : Nat} (hp : p < 6) (hq : q < 10) : g_pl (nI p) (nI q) = nI (10 * p + q) := by
  unfold g_pl
  rw [if_neg (nI_pos (by omega)), pk_mul, nI_add]
theorem r_s_k1 {S : g_S} {A : g_A} {s : Nat} (h : r_s S A s) : S.1 3 0 s = 1 ↔ g_fu A s = true := by
  cases f : g_fu A s with
  | true => exact ⟨fun _ => rfl, fun _ => (h.1 f).1⟩
  | false =>
    refine ⟨fun q => ?_, fun q => by cases q⟩
    have := (h.2 f).1
    rw [q] at this
    by_cases i : g_iv A s = true
    · rw [if_pos i] at this
      rw [g_fu_i i this.symm] at f; exact f.symm
    · rw [if_neg i] at this; exact absurd this (by decide)
theorem c_at {k s : Nat} {H : q_H} (hs : s < 60) : Pg_at k (nI s) H = some s := by
  unfold Pg_at
  rw [if_neg (nI_pos (by omega)), if_neg (show ¬ (60 : Int32) ≤ nI s from nI_ge (b := 60) hs (by decide)), g_inN hs (by decide), g_cl (by omega)]
  rfl
theorem c_at1 {k : Nat} {H : q_H} : Pg_at k (-1) H = some 60 := by unfold Pg_at; rw [if_pos (by decide)]
theorem c_pageOf {s : Nat} {H : q_H} (hs : s < 60) : Rp_pageOf (nI s) H = some (nI (s / 10)) := by
  unfold Rp_pageOf
  rw [if_pos (nI_pos' (by omega)), show (10 : Int32) = nI 10 from rfl, pk_div (by omega) (by omega) (by omega)]
theorem c_slotOf {s : Nat} {H : q_H} (hs : s < 60) : Rp_slotOf (nI s) H = some (nI (s % 10)) := by
  unfold Rp_slotOf
  rw [if_pos (nI_pos' (by omega)), show (10 : Int32) = nI 10 from rfl, pk_rem (by omega) (by omega) (by omega)]
theorem c_pageOf1 {H : q_H} : Rp_pageOf (-1) H = some (-1) := by unfold Rp_pageOf; rw [if_neg (by decide)]
theorem c_slotOf1 {H : q_H} : Rp_slotOf (-1) H = some (-1) := by unfold Rp_slotOf; rw [if_neg (by decide)]
section g_C
variable {H : q_H} {k : Nat} {A : g_A}
theorem c_es {s : Nat} (hR : r_t (g_st H k) A) (ht : g_wt A) (hw : g_ws A s) : Tn_stateOf k (A 1 s 7) H = some (if g_en A s = 0 then -1 else A 3 (g_en A s) 0) := by
  by_cases c : g_en A s = 0
  · rw [if_pos c, g_ws_e0 hw c, c_so1]
  · obtain ⟨e, t1, t2⟩ := g_ws_en hw c
    rw [if_neg c, e, c_so hR ht t1 t2]
theorem c_isDead {s z : Nat} (hR : r_t (g_st H k) A) (hS : r_s (g_st H k) A s) (ht : g_wt A) (hw : g_fu A s = true → g_ws A s) (hh : H.1 6 5 k 0 = nI z) (hz : z < 1000) : St_isDead k k s H = some (q_bi (g_fu A s && g_de A z s)) := by
  unfold St_isDead
  have t3 := ht.2.2
  cases f : g_fu A s with
  | false => rw [if_neg (fun q => by have := (r_s_k1 hS).mp q; rw [f] at this; cases this)]; rfl
  | true =>
    obtain ⟨s0, s1, s2, s3, s4, s5, s6, s7, s8, s10, s11⟩ := hS.1 f
    have hw := hw f
    rw [if_pos (show H.1 3 0 k s = 1 from s0), show H.1 3 11 k s = _ from s11, show H.1 3 6 k s = _ from s6, show H.1 3 7 k s = _ from s7, hh, hw.1, c_so hR ht hw.2.1.1 hw.2.1.2, c_es hR ht hw]
    simp only [Option.bind_some]
    unfold g_de
    have rest : (if nI z ≤ A 1 s 7 then (some ((0 : Int32))) else if ¬ (if g_en A s = 0 then -1 else A 3 (g_en A s) 0) = (1 : Int32) then (some ((0 : Int32))) else (some ((1 : Int32)))) = some (q_bi (decide (g_en A s ≠ 0) && (decide (A 3 (g_en A s) 0 = 1) && decide (g_en A s < z)))) := by
      by_cases c : g_en A s = 0
      · rw [decide_eq_false (fun q => q c)]
        simp only [if_pos c]
        rw [if_pos (show ¬ ((-1 : Int32) = 1) by decide)]
        by_cases d : nI z ≤ A 1 s 7
        · rw [if_pos d]; rfl
        · rw [if_neg d]; rfl
      · obtain ⟨e, t1, t2⟩ := g_ws_en hw c
        rw [decide_eq_true c, e]
        simp only [if_neg c]
        by_cases g : g_en A s < z
        · rw [if_neg (nI_ge g (by omega)), decide_eq_true g]
          by_cases f : A 3 (g_en A s) 0 = 1
          · rw [if_neg (fun q => q f), decide_eq_true f]; rfl
          · rw [if_pos f, decide_eq_false f]; rfl
        · rw [if_pos (nI_le (by omega) (by omega)), decide_eq_false g]
          simp [q_bi]
    by_cases b : A 1 s 11 = 0
    · rw [if_neg (fun q => q b), decide_eq_true b]
      by_cases a : A 3 (g_mk A s) 0 = 2
      · rw [if_neg (fun q => q a), decide_eq_true a]; rfl
      · rw [if_pos a, decide_eq_false a]
        simp only [Option.bind_some]
        rw [rest]; rfl
    · rw [if_pos b, decide_eq_false b]
      simp only [Option.bind_some]
      rw [rest]
      simp
theorem c_isDying {s z : Nat} (hR : r_t (g_st H k) A) (hS : r_s (g_st H k) A s) (ht : g_wt A) (hw : g_ws A s) (hf : g_fu A s = true) (hh : H.1 6 5 k 0 = nI z) (hz : z < 1000) : St_isDying k k s H = some (q_bi (g_dy A z s)) := by
  unfold St_isDying g_dy
  obtain ⟨s0, s1, s2, s3, s4, s5, s6, s7, s8, s10, s11⟩ := hS.1 hf
  rw [show H.1 3 7 k s = _ from s7, c_es hR ht hw]
  simp only [Option.bind_some]
  by_cases c : g_en A s = 0
  · rw [if_pos c, if_pos (by decide), decide_eq_false (fun q => q c)]; rfl
  · rw [if_neg c, decide_eq_true c]
    by_cases d : A 3 (g_en A s) 0 = 1
    · rw [if_neg (fun q => q d), decide_eq_true d, c_isDead hR hS ht (fun _ => hw) hh hz, hf]
      simp only [Option.bind_some]
      cases g_de A z s <;> rfl
    · rw [if_pos d, decide_eq_false d]; rfl
theorem c_isSeen {t s : Nat} (hR : r_t (g_st H k) A) (hS : r_s (g_st H k) A s) (ht : g_wt A) (hw : g_ws A s) (hf : g_fu A s = true) (h1 : g_tn A t) : St_isSeen k (nI t) k s H = some (q_bi (g_se A t s)) := by
  unfold St_isSeen g_se
  have t3 := ht.2.2
  obtain ⟨s0, s1, s2, s3, s4, s5, s6, s7, s8, s10, s11⟩ := hS.1 hf
  have m2 := hw.2.1
  unfold g_tn at h1 m2
  rw [show H.1 3 11 k s = _ from s11, show H.1 3 6 k s = _ from s6, show H.1 3 7 k s = _ from s7, hw.1, c_kn hR ht h1.1 h1.2 m2.1 m2.2]
  simp only [Option.bind_some]
  have rest : ((Tn_isKnown k (nI t) (A 1 s 7) H).bind fun x10 => if ¬ x10 = 0 then (some ((0 : Int32))) else (some ((1 : Int32)))) = some (q_bi (!(decide (g_en A s ≠ 0) && g_kn A t (g_en A s)))) := by
    by_cases c : g_en A s = 0
    · rw [g_ws_e0 hw c, c_kn1 h1.1 (by omega), decide_eq_false (fun q => q c)]; rfl
    · obtain ⟨e, t1, t2⟩ := g_ws_en hw c
      rw [e, c_kn hR ht h1.1 h1.2 t1 t2, decide_eq_true c]
      simp only [Option.bind_some]
      cases g_kn A t (g_en A s) <;> rfl
  rcases hw.2.2.2.2.2 with a | a
  · rw [if_neg (fun q => q a), a]
    cases g_kn A t (g_mk A s) with
    | false => rfl
    | true =>
      rw [if_pos (by decide)]
      simp only [Option.bind_some]
      rw [rest]; rfl
  · rw [a, if_pos (by decide)]
    simp only [Option.bind_some]
    rw [rest]; rfl
theorem c_isOf {s : Nat} {a : Int32} (hS : r_s (g_st H k) A s) : Sl_isOf k s a H = some (q_bi (g_fu A s && decide (A 1 s 2 = a))) := by
  unfold Sl_isOf
  cases f : g_fu A s with
  | false => rw [if_pos (fun q => by have := (r_s_k1 hS).mp q; rw [f] at this; cases this)]; rfl
  | true =>
    obtain ⟨s0, s1, s2, s3, s4, s5, s6, s7, s8, s10, s11⟩ := hS.1 f
    rw [if_neg (fun q => q s0), show H.1 3 2 k s = _ from s2]
    by_cases c : A 1 s 2 = a
    · rw [if_neg (fun q => q c), decide_eq_true c]; rfl
    · rw [if_pos c, decide_eq_false c]; rfl
theorem c_chainFirst {s : Nat} (hs : s < 60) (hS : r_s (g_st H k) A s) (hi : g_iv A s = true) (hT : A 1 s 0 = 2 → ∃ x, x < 10 ∧ A 1 s 1 = nI x) : St_chainFirst k (nI s) H = some (g_pp (g_ch A s)) := by
  unfold St_chainFirst g_ch
  rw [c_at hs]
  simp only [Option.bind_some]
  by_cases c : A 1 s 0 = 1
  · have f := g_fu_i hi c
    rw [if_neg (fun q => q (hS.1 f).1), if_pos c]; unfold g_pp; rw [if_pos hs]
  · have f : g_fu A s = false := by cases f : g_fu A s with | false => rfl | true => exact absurd (g_fu_iv f).2 c
    obtain ⟨s0, s1, _⟩ := hS.2 f
    rw [if_pos hi] at s0
    rw [show H.1 3 0 k s = _ from s0, if_pos c, if_neg c]
    by_cases d : A 1 s 0 = 2
    · obtain ⟨x, hx, e⟩ := hT d
      rw [if_pos ⟨hi, d⟩] at s1
      rw [if_neg (fun q => q d), if_pos d, show H.1 3 1 k s = _ from s1, e, g_cl (by omega), nI_add]
      unfold g_pp; rw [if_pos (by omega)]
    · rw [if_pos d, if_neg d]; rfl
theorem c_chainFirst0 {s : Nat} (hs : s < 60) (hS : r_s (g_st H k) A s) (hi : g_iv A s = false) : St_chainFirst k (nI s) H = some (-1) := by
  unfold St_chainFirst
  rw [c_at hs]
  simp only [Option.bind_some]
  have f : g_fu A s = false := by unfold g_fu; rw [hi]; rfl
  obtain ⟨s0, s1, _⟩ := hS.2 f
  rw [hi, if_neg (by decide)] at s0
  rw [show H.1 3 0 k s = _ from s0, if_pos (by decide), if_pos (by decide)]
theorem c_chainNext {s : Nat} (hs : s < 60) (hR : r_t (g_st H k) A) (hSS : ∀ j, j < 10 → r_s (g_st H k) A (10 * (s / 10) + j)) (hf : g_fu A s = true) (ht : g_wt A) (hq : g_wq A) (hv : g_wv A) : St_chainNext k (nI s) H = some (g_pp (g_nn A s)) := by
  have t3 := ht.2.2
  have hw := hv s hs hf
  have hS : r_s (g_st H k) A s := by have := hSS (s % 10) (by omega); rwa [Nat.div_add_mod] at this
  unfold St_chainNext g_nn
  obtain ⟨s0, s1, s2, s3, s4, s5, s6, s7, s8, s10, s11⟩ := hS.1 hf
  rw [c_at hs]
  simp only [Option.bind_some]
  rw [show H.1 3 7 k s = _ from s7, show H.1 3 8 k s = _ from s8, c_es hR ht hw]
  simp only [Option.bind_some]
  by_cases c0 : g_en A s = 0
  · have : g_eo A s = 0 := if_neg (fun q => q.1 c0)
    rw [if_pos c0, if_pos rfl, if_neg (fun q => q.1 this)]; rfl
  · obtain ⟨e, t1, t2⟩ := g_ws_en hw c0
    rw [if_neg c0]
    by_cases cm : A 3 (g_en A s) 0 = -1
    · rw [if_pos cm]
      exfalso
      rcases hq _ t1 t2 with q | q | q <;> rw [q] at cm <;> exact absurd cm (by decide)
    · rw [if_neg cm]
      by_cases cg : A 3 (g_en A s) 0 = 2
      · have : g_eo A s = 0 := if_neg (fun q => q.2 cg)
        rw [if_pos cg, if_neg (fun q => q.1 this)]; rfl
      · have c : g_eo A s = g_en A s := if_pos ⟨c0, cg⟩
        rw [if_neg cg, c]
        rcases hw.2.2.2.1 with q | ⟨p, q, hp, hq', e8, e9⟩
        · rw [q.1, show g_pl (-1) (A 1 s 9) = -1 from if_pos (by decide), c_pageOf1, c_pageOf hs]
          simp only [Option.bind_some]
          have ne : ¬ (-1 : Int32) = nI (s / 10) := fun q => absurd (q ▸ nI_pos' (n := s / 10) (by omega)) (by decide)
          rw [if_neg ne, if_neg (fun q => ne q.2.1)]; rfl
        · rw [e8, e9, g_pl_p hp hq', c_pageOf (by omega), c_pageOf hs]
          simp only [Option.bind_some]
          have e1 : (10 * p + q) / 10 = p := by omega
          rw [e1]
          by_cases d : nI p = nI (s / 10)
          · have dp : p = s / 10 := (nI_eq (by omega) (by omega)).mp d
            have en1 : g_n1 A s = 10 * p + q := by unfold g_n1; rw [e9, g_cl (by omega), dp]
            rw [if_pos d, c_at (by omega)]
            simp only [Option.bind_some]
            rw [en1, e]
            have hn := hSS q hq'
            rw [← dp] at hn
            cases f : g_fu A (10 * p + q) with
            | false =>
              rw [if_pos (show ¬ H.1 3 0 k (10 * p + q) = 1 from fun z => by have := (r_s_k1 hn).mp z; rw [f] at this; cases this), if_neg (fun z => by cases z.2.2.1)]; rfl
            | true =>
              obtain ⟨n0, n1, n2, n3, n4, n5, n6, n7, n8, n10, n11⟩ := hn.1 f
              rw [if_neg (show ¬ ¬ H.1 3 0 k (10 * p + q) = 1 from fun z => z n0), show H.1 3 10 k (10 * p + q) = _ from n10, show H.1 3 6 k (10 * p + q) = _ from n6]
              rcases (hv (10 * p + q) (by omega) f).2.2.2.2.1 with g | g
              · rw [g, if_pos rfl]
                simp only [Option.bind_some]
                rw [if_pos trivial, if_neg (fun z => absurd z.2.2.2.1 (by decide))]; rfl
              · rw [g, if_neg (by decide)]
                by_cases i : A 1 (10 * p + q) 6 = nI (g_en A s)
                · rw [if_neg (fun z => z i)]
                  simp only [Option.bind_some]
                  rw [if_neg (by decide), if_pos ⟨c0, d, trivial, trivial, i⟩]
                  unfold g_pp; rw [if_pos (by omega)]
                · rw [if_pos i]
                  simp only [Option.bind_some]
                  rw [if_pos trivial, if_neg (fun z => i z.2.2.2.2)]; rfl
          · rw [if_neg d, if_neg (fun z => d z.2.1)]; rfl
end g_C
