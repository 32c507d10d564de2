/-! finds and kills keep the pictures -/
theorem fq_e {A B : g_A} (h : g_fq A B) (h2 : ∀ i w, w ≠ 3 → B 2 i w = A 2 i w) (h3 : ∀ i, i < g_ne A → g_01 (B 2 i 3)) (h5 : B 0 5 0 = A 0 5 0) (wi : g_wi A) (we : g_we A) : g_wi B ∧ g_we B := by
  have ene : g_ne B = g_ne A := by unfold g_ne; rw [h5]
  have eep : ∀ i, g_ep B i = g_ep A i := fun i => by unfold g_ep; rw [h2 i 1 (by omega), h2 i 2 (by omega)]
  refine ⟨⟨by rw [ene, h5]; exact wi.1, by rw [ene]; exact wi.2.1, fun i hi => ?_⟩, fun i hi => ?_⟩
  · rw [ene] at hi
    rw [h2 i 1 (by omega), h2 i 2 (by omega)]
    exact ⟨(wi.2.2 i hi).1, h3 i hi⟩
  · rw [ene] at hi
    rw [eep, fq_iv h (g_ep_lt wi hi).1, h.1, h.1]
    exact we i hi
theorem g_fd_fq {A : g_A} {s pos : Nat} : g_fq A (g_fd A s pos) := ⟨fun _ _ => g_fd_o (by omega) (by omega), fun _ _ => g_fd_o (by omega) (by omega), fun _ _ => g_fd_o (by omega) (by omega), fun i hi => g_fd_o (by omega) (by omega)⟩
theorem g_fd_W {A : g_A} {s pos : Nat} (hW : g_W A) (hs : s < 60) (hn : g_nf A < 60) : g_W (g_fd A s pos) := by
  obtain ⟨e1, e2⟩ := g_fd_nf (s := s) (pos := pos) hn
  have wd := hW.2.2.2.2.2.2.1
  obtain ⟨a, b⟩ := fq_e (g_fd_fq (A := A) (s := s) (pos := pos)) (fun i w _ => g_fd_o (by omega) (by omega)) (fun i hi => by rw [g_fd_o (by omega) (by omega)]; exact (hW.2.1.1.2.2 i hi).2) (g_fd_o (by omega) (by omega)) hW.2.1.1 hW.2.1.2.1
  refine fq_W g_fd_fq hW a b ?_ ⟨by rw [e1, e2], by rw [e1]; omega, fun i hi => ?_⟩
  · unfold g_wg g_nv
    rw [g_fd_o (by omega) (by omega)]; exact hW.2.2.1
  · rw [e1] at hi
    by_cases c : i = g_nf A
    · subst c
      obtain ⟨f0, f1, f2, f3, f4⟩ := g_fd_5 (A := A) (s := s) (pos := pos)
      exact ⟨s / 10, s % 10, by omega, by omega, f2, f3⟩
    · rw [g_fd_o (by omega) (by omega), g_fd_o (by omega) (by omega)]
      exact wd.2.2 i (by omega)
theorem fq_m {b : Nat} {A B : g_A} {S S' : g_S} (h : g_fq A B) (h8 : B 0 8 0 = A 0 8 0) (hS : S'.1 0 8 0 = S.1 0 8 0) (hs : ∀ s, S'.1 3 9 s = S.1 3 9 s) (rm : r_m b S A) : r_m b S' B := by
  obtain ⟨⟨x, y, h1, h2, h3, h4, h5⟩, h6⟩ := rm
  have ecm : ∀ s, g_cm S' s = g_cm S s := fun s => by unfold g_cm; rw [hs s]
  refine ⟨⟨x, y, by rw [hS]; exact h1, by rw [h8]; exact h2, h3, h4, fun s a f => ?_⟩, fun s s' a a' f f' => ?_⟩
  · rw [fq_fu h a] at f
    rw [ecm s, fq_mm h, hs s, h.1]
    exact h5 s a f
  · rw [fq_fu h a] at f
    rw [fq_fu h a'] at f'
    rw [ecm s, ecm s', fq_mm h, fq_mm h]
    exact h6 s s' a a' f f'
/-- all but the index, the log, what was found -/
theorem fq_R {b : Nat} {A B : g_A} {S S' : g_S} (h : g_fq A B) (h0 : ∀ i, i = 0 ∨ i = 2 ∨ i = 8 ∨ (23 ≤ i ∧ i ≤ 28) → B 0 i 0 = A 0 i 0) (hS : ∀ t f i, t < 11 → S'.1 t f i = S.1 t f i) (h2 : S'.2 = S.2) (ri : r_i S' B) (rl : r_l S' B) (rf : r_f S' B) (hR : g_R b S A) : g_R b S' B := by
  obtain ⟨rg, rt, rh, rp, rn, _, _, _, rm⟩ := hR
  refine ⟨⟨?_, ?_, ?_, ?_⟩, r_t_ft rt (fun t f i a c => hS t f i (by omega)) h2 (fq_ft h) (fun t => h.2.2.1 t 0), ?_, fun q hq => ⟨?_, ?_, fun j hj => ?_⟩, ?_, ri, rl, rf, fq_m h (h0 8 (by omega)) (hS _ _ _ (by omega)) (fun s => hS _ _ _ (by omega)) rm⟩
  · rw [hS _ _ _ (by omega), h0 0 (by omega)]; exact rg.1
  · rw [hS _ _ _ (by omega), h.2.2.2 1 (by omega)]; exact rg.2.1
  · rw [hS _ _ _ (by omega), h0 2 (by omega)]; exact rg.2.2.1
  · rw [hS _ _ _ (by omega), h.2.2.2 3 (by omega)]; exact rg.2.2.2
  · unfold r_h
    rw [hS _ _ _ (by omega), g_ft_hz (fq_ft h)]; exact rh
  · rw [hS _ _ _ (by omega), h.2.2.2 (17 + q) (by omega)]; exact (rp q hq).1
  · rw [hS _ _ _ (by omega), h0 (23 + q) (by omega)]; exact (rp q hq).2.1
  · exact r_s_eq ((rp q hq).2.2 j hj) (fun f => hS _ _ _ (by omega)) (fq_iv h (by omega)) (fun w => h.1 _ w)
  · unfold r_n
    simp only [hS 3 _ _ (show 3 < 11 by decide)]
    exact rn
theorem g_fd_R {b : Nat} {A : g_A} {S : g_S} {s pos : Nat} (hW : g_W A) (hR : g_R b S A) (hs : s < 60) (hn : g_nf A < 60) : g_R b (g_fdS S (g_nf A) (A 1 s 2) (A 1 s 4) s pos) (g_fd A s pos) := by
  have eS : ∀ t f i, t < 19 → (g_fdS S (g_nf A) (A 1 s 2) (A 1 s 4) s pos).1 t f i = S.1 t f i := fun t f i h => by
    unfold g_fdS
    rw [g_su_t (by omega), g_su_t (by omega), g_su_t (by omega), g_su_t (by omega), g_su_t (by omega)]
  exact fq_R g_fd_fq (fun i hi => g_fd_o (by omega) (by omega)) (fun t f i h => eS t f i (by omega)) rfl (r_i_eq hR.2.2.2.2.2.1 (fun t f i a c => eS t f i (by omega)) (g_fd_o (by omega) (by omega)) (fun i w => g_fd_o (by omega) (by omega))) (r_l_eq ⟨hR.2.2.2.2.2.2.1, hW.2.2.1⟩ (fun t f i h => eS t f i (by omega)) (g_fd_o (by omega) (by omega)) (fun i w => g_fd_o (by omega) (by omega)) (fun j hj => g_fd_o (by omega) (by omega))).1 (r_f_add hs hR.2.2.2.2.2.2.2.1 hn) hR
/-- an entry is killed -/
def g_kil (A : g_A) (i : Nat) (key : Int32) : g_A := g_tell (g_au (g_au A 2 i 3 1) 0 15 0 (g_au A 2 i 3 1 0 15 0 + 1)) 3 key
theorem g_kil_o {A : g_A} {i g j w : Nat} {key : Int32} (h2 : ¬ (g = 2 ∧ j = i ∧ w = 3)) (h0 : ¬ (g = 0 ∧ (j = 6 ∨ j = 15))) (h4 : g ≠ 4) : g_kil A i key g j w = A g j w := by
  unfold g_kil g_tell
  rw [if_neg (by omega), if_neg (by omega), g_au_ne (by omega), g_au_ne (by omega)]
theorem g_kil_3 {A : g_A} {i : Nat} {key : Int32} : g_kil A i key 2 i 3 = 1 := by
  unfold g_kil g_tell
  rw [if_neg (by omega), if_neg (by omega), g_au_ne (by omega), g_au_eq]
theorem g_kil_fq {A : g_A} {i : Nat} {key : Int32} : g_fq A (g_kil A i key) := ⟨fun _ _ => g_kil_o (by omega) (by omega) (by omega), fun _ _ => g_kil_o (by omega) (by omega) (by omega), fun _ _ => g_kil_o (by omega) (by omega) (by omega), fun j hj => g_kil_o (by omega) (by omega) (by omega)⟩
theorem g_kil_W {A : g_A} {i : Nat} {key : Int32} (hW : g_W A) : g_W (g_kil A i key) := by
  have wd := hW.2.2.2.2.2.2.1
  obtain ⟨a, b⟩ := fq_e (g_kil_fq (A := A) (i := i) (key := key)) (fun j w hw => g_kil_o (by omega) (by omega) (by omega)) (fun j hj => by
    by_cases c : j = i
    · subst c; rw [g_kil_3]; exact Or.inr rfl
    · rw [g_kil_o (by omega) (by omega) (by omega)]; exact (hW.2.1.1.2.2 j hj).2) (g_kil_o (by omega) (by omega) (by omega)) hW.2.1.1 hW.2.1.2.1
  have hn : g_nf (g_kil A i key) = g_nf A := by unfold g_nf; rw [g_kil_o (by omega) (by omega) (by omega)]
  refine fq_W g_kil_fq hW a b (g_tell_nv (A := g_au (g_au A 2 i 3 1) 0 15 0 _) hW.2.2.1).1 ⟨by rw [hn, g_kil_o (by omega) (by omega) (by omega)]; exact wd.1, by rw [hn]; exact wd.2.1, fun j hj => ?_⟩
  rw [hn] at hj
  rw [g_kil_o (by omega) (by omega) (by omega), g_kil_o (by omega) (by omega) (by omega)]
  exact wd.2.2 j hj
theorem m_kil {h : q_H} {A : g_A} {i : Nat} {key : Int32} (hi : i < 60) : Mo_tellsOf (3 : Int32) key (q_si (q_si (g_ma h 31 A) 31 0 7 (((812 : Int32) + ((4 : Int32) * nI i)) + (3 : Int32)).toNatClampNeg (1 : Int32)) 31 0 7 15 (((q_si (g_ma h 31 A) 31 0 7 (((812 : Int32) + ((4 : Int32) * nI i)) + (3 : Int32)).toNatClampNeg (1 : Int32)).1 31 0 7 15) + (1 : Int32))) = some (g_ma h 31 (g_kil A i key)) := by
  rw [mi3 hi, m_g (by omega), g_w0 (by omega), m_tells]; rfl
theorem c_kil {b : Nat} {H : q_H} {k i : Nat} {A : g_A} {key : Int32} (hW : g_W A) (hR : g_R b (g_st H k) A) (hi : i < g_ne A) : ∃ S', ((Ix_kill k (nI i) H).bind fun x43 => (Lg_count k (6 : Int32) (1 : Int32) x43).bind fun x45 => (Lg_tell k (3 : Int32) key x45).bind fun x47 => some (x47)) = some (g_cw H k S') ∧ g_R b S' (g_kil A i key) := by
  have hi60 : i < 60 := by have := hW.2.1.1.2.1; omega
  unfold Ix_kill
  rw [c_put (n := 60) rfl rfl hi60 (by decide), g_si_cw]
  simp only [Option.bind_some]
  rw [show (6 : Int32) = nI 6 from rfl, c_count (by omega), g_cw_rd, g_st_cw, g_cw_cw]
  simp only [Option.bind_some]
  rw [c_tell, g_st_cw, g_cw_cw]
  refine ⟨_, rfl, ?_⟩
  have eS : ∀ t f j, ¬ (t = 14 ∧ f = 0 ∧ j = i) → (t < 15 ∨ 18 < t) → (g_tellS (g_su (g_su (g_st H k) 14 0 i 1) 18 0 6 ((g_su (g_st H k) 14 0 i 1).1 18 0 6 + 1)) 3 key).1 t f j = (g_st H k).1 t f j := fun t f j n c => by
    rw [g_tellS_t (by omega) (by omega) (by omega), g_su_t (by omega), g_su_t n]
  have e14 : (g_tellS (g_su (g_su (g_st H k) 14 0 i 1) 18 0 6 ((g_su (g_st H k) 14 0 i 1).1 18 0 6 + 1)) 3 key).1 14 0 i = 1 := by
    rw [g_tellS_t (by omega) (by omega) (by omega), g_su_t (by omega), g_su_e]
  have ri := hR.2.2.2.2.2.1
  have rf := hR.2.2.2.2.2.2.2.1
  have l1 : r_l (g_su (g_st H k) 14 0 i 1) (g_au A 2 i 3 1) := (r_l_eq ⟨hR.2.2.2.2.2.2.1, hW.2.2.1⟩ (fun t f j h => g_su_t (by omega)) (g_au_ne (by omega)) (fun j w => g_au_ne (by omega)) (fun j hj => g_au_ne (by omega))).1
  have l2 := r_l_count (j := 6) (v := 1) l1 (by omega)
  have l3 := r_l_tell (kd := 3) (nm := key) l2 hW.2.2.1
  refine fq_R g_kil_fq (fun j hj => g_kil_o (by omega) (by omega) (by omega)) (fun t f j h => eS t f j (by omega) (by omega)) rfl ⟨?_, fun j hj => ?_⟩ l3 (r_f_eq rf (fun t f j a c => eS t f j (by omega) (by omega)) (g_kil_o (by omega) (by omega) (by omega)) (fun j w => g_kil_o (by omega) (by omega) (by omega))) hR
  · rw [eS _ _ _ (by omega) (by omega), g_kil_o (by omega) (by omega) (by omega)]; exact ri.1
  · have ene : g_ne (g_kil A i key) = g_ne A := by unfold g_ne; rw [g_kil_o (by omega) (by omega) (by omega)]
    have eep : g_ep (g_kil A i key) j = g_ep A j := by unfold g_ep; rw [g_kil_o (by omega) (by omega) (by omega), g_kil_o (by omega) (by omega) (by omega)]
    rw [ene] at hj
    rw [eep, eS _ _ _ (by omega) (by omega), eS _ _ _ (by omega) (by omega), g_kil_o (by omega) (by omega) (by omega)]
    refine ⟨(ri.2 j hj).1, (ri.2 j hj).2.1, ?_⟩
    by_cases c : j = i
    · subst c; rw [e14, g_kil_3]
    · rw [eS _ _ _ (by omega) (by omega), g_kil_o (by omega) (by omega) (by omega)]
      exact (ri.2 j hj).2.2
