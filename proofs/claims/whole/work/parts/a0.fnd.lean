/-! a find is told -/
def g_fd (A : g_A) (s pos : Nat) : g_A := g_au (g_au (g_au (g_au (g_au (g_au A 5 (g_nf A) 0 (A 1 s 2)) 5 (g_nf A) 1 (A 1 s 4)) 5 (g_nf A) 2 (nI (s / 10))) 5 (g_nf A) 3 (nI (s % 10))) 5 (g_nf A) 4 (nI pos)) 0 7 0 (nI (g_nf A + 1))
theorem g_fd_o {A : g_A} {s pos g i w : Nat} (h5 : ¬ (g = 5 ∧ i = g_nf A)) (h0 : ¬ (g = 0 ∧ i = 7)) : g_fd A s pos g i w = A g i w := by
  unfold g_fd
  rw [g_au_ne (by omega), g_au_ne (by omega), g_au_ne (by omega), g_au_ne (by omega), g_au_ne (by omega), g_au_ne (by omega)]
theorem g_fd_nf {A : g_A} {s pos : Nat} (h : g_nf A < 60) : g_nf (g_fd A s pos) = g_nf A + 1 ∧ g_fd A s pos 0 7 0 = nI (g_nf A + 1) := by
  have e : g_fd A s pos 0 7 0 = nI (g_nf A + 1) := by unfold g_fd; rw [g_au_eq]
  exact ⟨by rw [show g_nf (g_fd A s pos) = (g_fd A s pos 0 7 0).toNatClampNeg from rfl, e, g_cl (by omega)], e⟩
theorem g_fd_5 {A : g_A} {s pos : Nat} : g_fd A s pos 5 (g_nf A) 0 = A 1 s 2 ∧ g_fd A s pos 5 (g_nf A) 1 = A 1 s 4 ∧ g_fd A s pos 5 (g_nf A) 2 = nI (s / 10) ∧ g_fd A s pos 5 (g_nf A) 3 = nI (s % 10) ∧ g_fd A s pos 5 (g_nf A) 4 = nI pos := by
  unfold g_fd
  refine ⟨?_, ?_, ?_, ?_, ?_⟩
  · rw [g_au_ne (by omega), g_au_ne (by omega), g_au_ne (by omega), g_au_ne (by omega), g_au_ne (by omega), g_au_eq]
  · rw [g_au_ne (by omega), g_au_ne (by omega), g_au_ne (by omega), g_au_ne (by omega), g_au_eq]
  · rw [g_au_ne (by omega), g_au_ne (by omega), g_au_ne (by omega), g_au_eq]
  · rw [g_au_ne (by omega), g_au_ne (by omega), g_au_eq]
  · rw [g_au_ne (by omega), g_au_eq]
section g_M
variable {h : q_H} {A : g_A} {n : Nat}
theorem mfx (hn : n < 60) : q_in ((1283 : Int32) + ((5 : Int32) * nI n)) 1644 = true := by rw [show (1283 : Int32) = nI 1283 from rfl, show (5 : Int32) = nI 5 from rfl, pk_mul, nI_add]; exact g_inN (by omega) (by decide)
theorem mfxw {w : Nat} (hn : n < 60) (hw : w < 5) : q_in (((1283 : Int32) + ((5 : Int32) * nI n)) + nI w) 1644 = true := by rw [show (1283 : Int32) = nI 1283 from rfl, show (5 : Int32) = nI 5 from rfl, pk_mul, nI_add, nI_add]; exact g_inN (by omega) (by decide)
theorem mfi {v : Int32} (hn : n < 60) : q_si (g_ma h 31 A) 31 0 7 ((1283 : Int32) + ((5 : Int32) * nI n)).toNatClampNeg v = g_ma h 31 (g_au A 5 n 0 v) := by
  rw [show (1283 : Int32) = nI 1283 from rfl, show (5 : Int32) = nI 5 from rfl, pk_mul, nI_add, g_cl (by omega)]
  exact g_ma_si (g := 5) (i := n) (w := 0) (fun B => g_at5 (w := 0) hn (by omega)) rfl (by omega)
theorem mfiw {w : Nat} {v : Int32} (hn : n < 60) (hw : w < 5) : q_si (g_ma h 31 A) 31 0 7 (((1283 : Int32) + ((5 : Int32) * nI n)) + nI w).toNatClampNeg v = g_ma h 31 (g_au A 5 n w v) := by
  rw [show (1283 : Int32) = nI 1283 from rfl, show (5 : Int32) = nI 5 from rfl, pk_mul, nI_add, nI_add, g_cl (by omega)]
  exact g_ma_si (g := 5) (i := n) (w := w) (fun B => g_at5 hn hw) rfl (by omega)
theorem m_finds {s pos : Nat} (hs : s < 60) (hw : A 0 7 0 = nI (g_nf A)) (hn : g_nf A < 60) : Mo_finds (nI s) (nI pos) (g_ma h 31 A) = some (g_ma h 31 (g_fd A s pos)) := by
  unfold Mo_finds
  rw [m_of2 hs, m_g (by omega), hw]
  simp only [Option.bind_some]
  rw [mfx hn, cond_true, mfi hn, m_of4 hs, g_au_ne (by omega)]
  simp only [Option.bind_some]
  rw [show (1 : Int32) = nI 1 from rfl, show (2 : Int32) = nI 2 from rfl, show (3 : Int32) = nI 3 from rfl, show (4 : Int32) = nI 4 from rfl, mfxw hn (by omega), mfxw hn (by omega), mfxw hn (by omega), mfxw hn (by omega)]
  simp only [cond_true, Option.bind_some]
  rw [mfiw hn (by omega), mfiw hn (by omega), mfiw hn (by omega), mfiw hn (by omega), m_g (by omega), g_w0 (by omega), show (10 : Int32) = nI 10 from rfl, pk_rem (by omega) (by omega) (by omega), pk_div (by omega) (by omega) (by omega), g_au_ne (by omega), g_au_ne (by omega), g_au_ne (by omega), g_au_ne (by omega), g_au_ne (by omega), hw, nI_add]
  rfl
end g_M
/-- what a find changes of a store -/
def g_fdS (S : g_S) (n : Nat) (row val : Int32) (s pos : Nat) : g_S := g_su (g_su (g_su (g_su (g_su S 20 0 n row) 21 0 n val) 22 0 n (nI s)) 23 0 n (nI pos)) 19 4 0 (nI (n + 1))
theorem c_fadd {H : q_H} {k n s pos : Nat} {row val : Int32} (hn : n < 60) (h19 : H.1 19 4 k 0 = nI n) : Fo_add k row val (nI s) (nI pos) H = some (g_cw H k (g_fdS (g_st H k) n row val s pos)) := by
  unfold Fo_add
  rw [h19, c_put (n := 60) rfl rfl hn (by decide), g_si_cw]
  simp only [Option.bind_some]
  rw [g_cw_rd, g_su_t (by omega), show (g_st H k).1 19 4 0 = nI n from h19, c_put (n := 60) rfl rfl hn (by decide), g_cw_si]
  simp only [Option.bind_some]
  rw [g_cw_rd, g_su_t (by omega), g_su_t (by omega), show (g_st H k).1 19 4 0 = nI n from h19, c_put (n := 60) rfl rfl hn (by decide), g_cw_si]
  simp only [Option.bind_some]
  rw [g_cw_rd, g_su_t (by omega), g_su_t (by omega), g_su_t (by omega), show (g_st H k).1 19 4 0 = nI n from h19, c_put (n := 60) rfl rfl hn (by decide), g_cw_si]
  simp only [Option.bind_some]
  rw [g_cw_rd, g_su_t (by omega), g_su_t (by omega), g_su_t (by omega), g_su_t (by omega), show (g_st H k).1 19 4 0 = nI n from h19, nI_1, if_neg (show ¬ (60 : Int32) < nI (n + 1) from nI_nlt (a := 60) (by omega) (by decide)), g_cw_si]
  rfl
theorem r_f_add {S : g_S} {A : g_A} {s pos : Nat} (hs : s < 60) (hr : r_f S A) (hn : g_nf A < 60) : r_f (g_fdS S (g_nf A) (A 1 s 2) (A 1 s 4) s pos) (g_fd A s pos) := by
  obtain ⟨e1, e2⟩ := g_fd_nf (s := s) (pos := pos) hn
  refine ⟨by unfold g_fdS; rw [g_su_e, e2], fun i hi => ?_⟩
  rw [e1] at hi
  unfold g_fdS
  by_cases c : i = g_nf A
  · subst c
    obtain ⟨f0, f1, f2, f3, f4⟩ := g_fd_5 (A := A) (s := s) (pos := pos)
    rw [f0, f1, f2, f3, f4]
    refine ⟨?_, ?_, ?_, ?_⟩
    · rw [g_su_t (by omega), g_su_t (by omega), g_su_t (by omega), g_su_t (by omega), g_su_e]
    · rw [g_su_t (by omega), g_su_t (by omega), g_su_t (by omega), g_su_e]
    · rw [g_su_t (by omega), g_su_t (by omega), g_su_e, g_cl (by omega), g_cl (by omega), Nat.div_add_mod]
    · rw [g_su_t (by omega), g_su_e]
  · rw [g_fd_o (by omega) (by omega), g_fd_o (by omega) (by omega), g_fd_o (by omega) (by omega), g_fd_o (by omega) (by omega), g_fd_o (by omega) (by omega)]
    simp only [g_su_t (show ¬ ((20 : Nat) = 19 ∧ (0 : Nat) = 4 ∧ i = 0) by omega), g_su_t (show ¬ ((21 : Nat) = 19 ∧ (0 : Nat) = 4 ∧ i = 0) by omega), g_su_t (show ¬ ((22 : Nat) = 19 ∧ (0 : Nat) = 4 ∧ i = 0) by omega), g_su_t (show ¬ ((23 : Nat) = 19 ∧ (0 : Nat) = 4 ∧ i = 0) by omega)]
    refine ⟨?_, ?_, ?_, ?_⟩
    · rw [g_su_t (by omega), g_su_t (by omega), g_su_t (by omega), g_su_t (by omega)]; exact (hr.2 i (by omega)).1
    · rw [g_su_t (by omega), g_su_t (by omega), g_su_t (by omega), g_su_t (by omega)]; exact (hr.2 i (by omega)).2.1
    · rw [g_su_t (by omega), g_su_t (by omega), g_su_t (by omega), g_su_t (by omega)]; exact (hr.2 i (by omega)).2.2.1
    · rw [g_su_t (by omega), g_su_t (by omega), g_su_t (by omega), g_su_t (by omega)]; exact (hr.2 i (by omega)).2.2.2
