/-! load: the two texts -/
def x_fC (p23 : q_H) : Option (Int32 × q_H) := if (p23.1 25 15 6 0) = 0 then ((Rp_answer (p23.1 0 7 0 0) p23).bind fun x24 => some ((x24.1, x24.2))) else ((St_copyFrom 0 2 p23).bind fun x26 => (Rp_refuse (9 : Int32) x26).bind fun x28 => some ((x28.1, x28.2)))
def x_fM (p31 : q_H) : Option (Int32 × q_H) := Option.bind (α := Int32) (if ((q_si (q_si p31 30 12 7 0 (0 : Int32)) 30 13 7 0 ((q_si p31 30 12 7 0 (0 : Int32)).1 30 15 7 0)).1 30 15 7 0) ≤ 0 then (some ((-1 : Int32))) else (some (((q_si (q_si p31 30 12 7 0 (0 : Int32)) 30 13 7 0 ((q_si p31 30 12 7 0 (0 : Int32)).1 30 15 7 0)).1 30 16 7 0)))) (fun p37 => if ¬ ((q_si (q_si (q_si (q_si p31 30 12 7 0 (0 : Int32)) 30 13 7 0 ((q_si p31 30 12 7 0 (0 : Int32)).1 30 15 7 0)) 30 14 7 0 p37) 30 6 7 0 (0 : Int32)).1 30 15 7 0) = 0 then ((Mo_copy 34 7 31 7 (q_si (q_si (q_si (q_si p31 30 12 7 0 (0 : Int32)) 30 13 7 0 ((q_si p31 30 12 7 0 (0 : Int32)).1 30 15 7 0)) 30 14 7 0 p37) 30 6 7 0 (0 : Int32))).bind fun x38 => (Mo_refuse (9 : Int32) x38).bind fun x40 => some ((x40.1, x40.2))) else (some ((((q_si (q_si (q_si (q_si p31 30 12 7 0 (0 : Int32)) 30 13 7 0 ((q_si p31 30 12 7 0 (0 : Int32)).1 30 15 7 0)) 30 14 7 0 p37) 30 6 7 0 (0 : Int32)).1 31 0 7 3), (q_si (q_si (q_si (q_si p31 30 12 7 0 (0 : Int32)) 30 13 7 0 ((q_si p31 30 12 7 0 (0 : Int32)).1 30 15 7 0)) 30 14 7 0 p37) 30 6 7 0 (0 : Int32))))))
theorem rp_load_e {h : q_H} {k t : Nat} (hk : k ≤ t) (ht : t ≤ 700) (t2 : h.1 25 1 6 0 = nI t) : Rp_load (nI k) h = ((St_copyFrom 2 0 h).bind fun x3 => (St_makeAnew 0 x3).bind fun x5 => (Tx_open (nI k) x5).bind fun x7 => (q_lp x_bcL q_fu (((0 : Int32), x7) : Int32 × q_H)).bind x_fC) := by
  unfold Rp_load
  rw [if_neg (show ¬ nI k < 0 from nI_nlt (b := 0) (by omega) (by omega)), t2, if_pos (nI_le hk (by omega))]
  rfl
theorem mo_load_e {h : q_H} {k t : Nat} (hk : k ≤ t) (ht : t ≤ 700) (t3 : h.1 30 12 7 0 = nI t) : Mo_load (nI k) h = ((some (q_si (q_si (q_si (q_si (q_si (q_si (g_s 0 h) 30 21 7 0 (nI k)) 30 18 7 0 (0 : Int32)) 30 15 7 0 (0 : Int32)) 30 26 7 0 (0 : Int32)) 30 27 7 0 (0 : Int32)) 30 28 7 0 (0 : Int32))).bind fun h11 => (Mo_copy 31 7 34 7 h11).bind fun x13 => (Mo_clears x13).bind fun x15 => (Mo_reads x15).bind fun x17 => (q_lp x_bmL q_fu (x17 : q_H)).bind x_fM) := by
  have inr : g_in (nI k) 0 (nI t) = true := by
    unfold g_in
    rw [decide_eq_false (show ¬ nI k < 0 from nI_nlt (b := 0) (by omega) (by omega)), decide_eq_false (show ¬ nI t < nI k from nI_nlt (by omega) (by omega))]; rfl
  unfold Mo_load
  rw [t3, m_isIn, inr, Option.bind_some, if_neg qn1, Option.bind_some, m_is0, Option.bind_some, if_pos q1n]
  rfl
