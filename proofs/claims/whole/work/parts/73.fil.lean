/-! a version comes into a slot; a version is ended -/
theorem g_d10 {s : Nat} (hs : s < 1000) : nI s / (10 : Int32) = nI (s / 10) := pk_div (d := 10) (by omega) (by omega) (by omega)
theorem g_r10 {s : Nat} (hs : s < 1000) : nI s - nI s / (10 : Int32) * (10 : Int32) = nI (s % 10) := pk_rem (d := 10) (by omega) (by omega) (by omega)
def g_fsl (sr : Int32) (row key val size maker light : Int32) (w : Nat) : Int32 := if w = 0 then 1 else if w = 2 then row else if w = 3 then key else if w = 4 then val else if w = 5 then size else if w = 6 then maker else if w = 10 then light else if w = 11 then 0 else if w = 12 then sr else -1
def g_fil (A : g_A) (s : Nat) (row key val size maker light : Int32) : g_A := fun g i w => if g = 1 ∧ i = s ∧ w < 13 then g_fsl (A 0 8 0) row key val size maker light w else if g = 0 ∧ w = 0 ∧ i = 8 then A 0 8 0 + 1 else if g = 0 ∧ w = 0 ∧ i = 23 + s / 10 then 0 else if g = 0 ∧ w = 0 ∧ i = 17 + s / 10 ∧ s % 10 = g_ln A (s / 10) then A 0 (17 + s / 10) 0 + 1 else if g = 0 ∧ w = 0 ∧ i = 11 ∧ ¬ s % 10 = g_ln A (s / 10) then A 0 11 0 + 1 else A g i w
def g_fcol (B : g_A) (s : Nat) (sr row key val size maker light : Int32) : g_A := g_au (g_au (g_au (g_au (g_au (g_au (g_au (g_au (g_au (g_au (g_au (g_au (g_au B 1 s 0 1) 1 s 1 (-1)) 1 s 2 row) 1 s 3 key) 1 s 4 val) 1 s 5 size) 1 s 6 maker) 1 s 7 (-1)) 1 s 8 (-1)) 1 s 9 (-1)) 1 s 10 light) 1 s 11 0) 1 s 12 sr
theorem g_fcol_e {B : g_A} {s : Nat} {sr row key val size maker light : Int32} : g_fcol B s sr row key val size maker light = fun g i w => if g = 1 ∧ i = s ∧ w < 13 then g_fsl sr row key val size maker light w else B g i w := by
  funext g i w
  unfold g_fcol
  by_cases e : g = 1 ∧ i = s
  · obtain ⟨rfl, rfl⟩ := e
    by_cases hw : w < 13
    · have : w = 0 ∨ w = 1 ∨ w = 2 ∨ w = 3 ∨ w = 4 ∨ w = 5 ∨ w = 6 ∨ w = 7 ∨ w = 8 ∨ w = 9 ∨ w = 10 ∨ w = 11 ∨ w = 12 := by omega
      unfold g_fsl g_au
      rcases this with rfl | rfl | rfl | rfl | rfl | rfl | rfl | rfl | rfl | rfl | rfl | rfl | rfl <;> simp
    · rw [if_neg (by omega), g_au_ne (by omega), g_au_ne (by omega), g_au_ne (by omega), g_au_ne (by omega), g_au_ne (by omega), g_au_ne (by omega), g_au_ne (by omega), g_au_ne (by omega), g_au_ne (by omega), g_au_ne (by omega), g_au_ne (by omega), g_au_ne (by omega), g_au_ne (by omega)]
  · rw [if_neg (by omega), g_au_ne (by omega), g_au_ne (by omega), g_au_ne (by omega), g_au_ne (by omega), g_au_ne (by omega), g_au_ne (by omega), g_au_ne (by omega), g_au_ne (by omega), g_au_ne (by omega), g_au_ne (by omega), g_au_ne (by omega), g_au_ne (by omega), g_au_ne (by omega)]
theorem g_fil_e {A B : g_A} {s : Nat} {row key val size maker light : Int32} (hs : s < 60) (hB : B = if s % 10 = g_ln A (s / 10) then g_au A 0 (17 + s / 10) 0 (A 0 (17 + s / 10) 0 + 1) else g_au A 0 11 0 (A 0 11 0 + 1)) : g_au (g_au (g_fcol B s (A 0 8 0) row key val size maker light) 0 8 0 (A 0 8 0 + 1)) 0 (23 + s / 10) 0 0 = g_fil A s row key val size maker light := by
  rw [g_fcol_e]
  funext g i w
  unfold g_fil
  by_cases e : g = 1 ∧ i = s ∧ w < 13
  · rw [if_pos e, g_au_ne (by omega), g_au_ne (by omega), if_pos e]
  · rw [if_neg e]
    by_cases e8 : g = 0 ∧ w = 0 ∧ i = 8
    · obtain ⟨rfl, rfl, rfl⟩ := e8
      rw [if_pos ⟨rfl, rfl, rfl⟩, g_au_ne (by omega), g_au_eq]
    · rw [if_neg e8]
      by_cases ec : g = 0 ∧ w = 0 ∧ i = 23 + s / 10
      · obtain ⟨rfl, rfl, rfl⟩ := ec
        rw [if_pos ⟨rfl, rfl, rfl⟩, g_au_eq]
      · rw [if_neg ec, g_au_ne (by omega), g_au_ne (by omega), if_neg e, hB]
        by_cases c : s % 10 = g_ln A (s / 10)
        · rw [if_pos c]
          by_cases el : g = 0 ∧ w = 0 ∧ i = 17 + s / 10
          · obtain ⟨rfl, rfl, rfl⟩ := el
            rw [g_au_eq, if_pos ⟨rfl, rfl, rfl, c⟩]
          · rw [g_au_ne (by omega), if_neg (fun q => el ⟨q.1, q.2.1, q.2.2.1⟩), if_neg (fun q => q.2.2.2 c)]
        · rw [if_neg c]
          by_cases el : g = 0 ∧ w = 0 ∧ i = 11
          · obtain ⟨rfl, rfl, rfl⟩ := el
            rw [g_au_eq, if_neg (fun q => c q.2.2.2), if_pos ⟨rfl, rfl, rfl, c⟩]
          · rw [g_au_ne (by omega), if_neg (fun q => c q.2.2.2), if_neg (fun q => el ⟨q.1, q.2.1, q.2.2.1⟩)]
theorem m_fills {h : q_H} {A : g_A} {s : Nat} {row key val size maker light : Int32} (hs : s < 60) (hl : g_wl A) (hg : light = 0 ∨ light = 1) : Mo_fills (nI s) row key val size maker light (g_ma h 31 A) = some (g_ma h 31 (g_fil A s row key val size maker light)) := by
  have hp : s / 10 < 6 := by omega
  unfold Mo_fills
  rw [g_r10 (by omega), g_d10 (by omega), m_b1 hp, m_b2 hl hp]
  simp only [cond_true]
  have i17 : ((17 : Int32) + nI (s / 10)).toNatClampNeg = 17 + s / 10 := by rw [show (17 : Int32) = nI 17 from rfl, nI_add, g_cl (by omega)]
  have i23 : q_in ((23 : Int32) + nI (s / 10)) 1644 = true ∧ ((23 : Int32) + nI (s / 10)).toNatClampNeg = 23 + s / 10 := by
    rw [show (23 : Int32) = nI 23 from rfl, nI_add, g_cl (by omega)]; exact ⟨g_inN (by omega) (by decide), rfl⟩
  have e1 : (if ¬ nI (s % 10) = nI (g_ln A (s / 10)) then (some ((q_si (g_ma h 31 A) 31 0 7 11 (((g_ma h 31 A).1 31 0 7 11) + (1 : Int32))))) else (some ((q_si (g_ma h 31 A) 31 0 7 ((17 : Int32) + nI (s / 10)).toNatClampNeg (nI (g_ln A (s / 10)) + (1 : Int32)))))) = some (g_ma h 31 (if s % 10 = g_ln A (s / 10) then g_au A 0 (17 + s / 10) 0 (A 0 (17 + s / 10) 0 + 1) else g_au A 0 11 0 (A 0 11 0 + 1))) := by
    have h10 := (hl (s / 10) hp).2
    by_cases c : s % 10 = g_ln A (s / 10)
    · rw [if_neg (fun q => q (by rw [c])), if_pos c, i17, g_w0 (by omega), (hl (s / 10) hp).1]
    · rw [if_pos (fun q => c ((nI_eq (by omega) (by omega)).mp q)), if_neg c, m_g (by omega), g_w0 (by omega)]
  rw [e1]
  simp only [Option.bind_some]
  have hB : ∀ B : g_A, B = (if s % 10 = g_ln A (s / 10) then g_au A 0 (17 + s / 10) 0 (A 0 (17 + s / 10) 0 + 1) else g_au A 0 11 0 (A 0 11 0 + 1)) → B 0 8 0 = A 0 8 0 := fun B e => by
    rw [e]
    by_cases c : s % 10 = g_ln A (s / 10)
    · rw [if_pos c, g_au_ne (by omega)]
    · rw [if_neg c, g_au_ne (by omega)]
  have key := g_fil_e (A := A) (B := if s % 10 = g_ln A (s / 10) then g_au A 0 (17 + s / 10) 0 (A 0 (17 + s / 10) 0 + 1) else g_au A 0 11 0 (A 0 11 0 + 1)) (row := row) (key := key) (val := val) (size := size) (maker := maker) (light := light) hs rfl
  have hB8 := hB _ rfl
  generalize (if s % 10 = g_ln A (s / 10) then g_au A 0 (17 + s / 10) 0 (A 0 (17 + s / 10) 0 + 1) else g_au A 0 11 0 (A 0 11 0 + 1)) = B at key hB8 ⊢
  rw [m_st0 hs]; simp only [Option.bind_some]
  rw [m_st1 hs]; simp only [Option.bind_some]
  rw [m_st2 hs]; simp only [Option.bind_some]
  rw [m_st3 hs]; simp only [Option.bind_some]
  rw [m_st4 hs]; simp only [Option.bind_some]
  rw [m_st5 hs]; simp only [Option.bind_some]
  rw [m_st6 hs]; simp only [Option.bind_some]
  rw [m_st7 hs]; simp only [Option.bind_some]
  rw [m_st8 hs]; simp only [Option.bind_some]
  rw [m_st9 hs]; simp only [Option.bind_some]
  rcases hg with rfl | rfl
  · rw [if_pos rfl, m_st10 hs]; simp only [Option.bind_some]
    rw [m_st11 hs]; simp only [Option.bind_some]
    rw [m_g (by omega), m_st12 hs]; simp only [Option.bind_some]
    rw [i23.1, i23.2, m_g (by omega), g_w0 (by omega), g_w0 (by omega)]
    have r8 : ∀ C : g_A, ∀ w v, g_au C 1 s w v 0 8 0 = C 0 8 0 := fun C w v => g_au_ne (by omega)
    simp only [r8, hB8, cond_true]
    rw [← key]
    rfl
  · rw [if_neg (by decide), m_st10 hs]; simp only [Option.bind_some]
    rw [m_st11 hs]; simp only [Option.bind_some]
    rw [m_g (by omega), m_st12 hs]; simp only [Option.bind_some]
    rw [i23.1, i23.2, m_g (by omega), g_w0 (by omega), g_w0 (by omega)]
    have r8 : ∀ C : g_A, ∀ w v, g_au C 1 s w v 0 8 0 = C 0 8 0 := fun C w v => g_au_ne (by omega)
    simp only [r8, hB8, cond_true]
    rw [← key]
    rfl
def g_end (A : g_A) (s : Nat) (t p q : Int32) : g_A := g_au (g_au (g_au (g_au A 1 s 7 t) 1 s 8 p) 1 s 9 q) 0 (23 + s / 10) 0 0
theorem m_endsAt {h : q_H} {A : g_A} {s : Nat} {t p q : Int32} (hs : s < 60) : Mo_endsAt (nI s) t p q (g_ma h 31 A) = some (g_ma h 31 (g_end A s t p q)) := by
  unfold Mo_endsAt
  rw [m_st7 hs]; simp only [Option.bind_some]
  rw [m_st8 hs]; simp only [Option.bind_some]
  rw [m_st9 hs]; simp only [Option.bind_some]
  rw [show (23 : Int32) = nI 23 from rfl, show (10 : Int32) = nI 10 from rfl, pk_div (by omega) (by omega) (by omega), nI_add, g_inN (by omega) (by decide), g_cl (by omega), g_w0 (by omega)]
  rfl
