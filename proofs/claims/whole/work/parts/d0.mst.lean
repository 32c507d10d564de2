/-! most: the waits don't matter to the vacuum -/
def g_p6 (w : Nat → Nat → Int32) (A : g_A) : g_A := fun g i c => if g = 6 then w i c else A g i c
section g_P6
variable {A B : g_A} {w : Nat → Nat → Int32}
theorem p6_o {g i c : Nat} (h : g ≠ 6) : g_p6 w A g i c = A g i c := if_neg h
theorem p6_6 {i c : Nat} : g_p6 w A 6 i c = w i c := if_pos rfl
theorem p6_au {g i c : Nat} {v : Int32} (h : g ≠ 6) : g_p6 w (g_au A g i c v) = g_au (g_p6 w A) g i c v := by
  funext a b d
  by_cases e : a = 6
  · subst e
    rw [p6_6, g_au_ne (fun q => h q.1.symm), p6_6]
  · rw [p6_o e]
    unfold g_au
    rw [p6_o e]
theorem p6_tell {k n : Int32} : g_p6 w (g_tell A k n) = g_tell (g_p6 w A) k n := by
  funext a b d
  by_cases e : a = 6
  · subst e
    rw [p6_6]
    unfold g_tell
    rw [if_neg (by omega), if_neg (by omega), p6_6]
  · rw [p6_o e]
    unfold g_tell
    simp only [p6_o (show (4 : Nat) ≠ 6 by decide), p6_o (show (0 : Nat) ≠ 6 by decide), p6_o e]
theorem p6_ft : g_ft A (g_p6 w A) := ⟨fun _ _ => rfl, rfl⟩
theorem p6_fb : g_fb A (g_p6 w A) := ⟨fun _ _ => rfl, fun _ _ => rfl, fun _ _ => rfl⟩
theorem it_map {β γ : Type} {f : Nat → β → β} {f' : Nat → γ → γ} {Q : β → γ} (h : ∀ i x, Q (f i x) = f' i (Q x)) {i0 : Nat} {b : β} : ∀ n, Q (g_it f i0 n b) = g_it f' i0 n (Q b)
  | 0 => rfl
  | n + 1 => by
    show Q (f (i0 + n) (g_it f i0 n b)) = f' (i0 + n) (g_it f' i0 n (Q b))
    rw [h, it_map h n]
theorem p6_i6 {f : Nat → g_A → g_A} (h : ∀ p B, g_p6 w (f p B) = f p (g_p6 w B)) : ∀ n, g_p6 w (g_i6 f A n) = g_i6 f (g_p6 w A) n
  | 0 => rfl
  | n + 1 => by rw [g_i6_s, g_i6_s, h, p6_i6 h n]
theorem p6_nn {s : Nat} : g_nn (g_p6 w A) s = g_nn A s := rfl
theorem p6_ci {s : Nat} : ∀ i, g_ci (g_p6 w A) s i = g_ci A s i
  | 0 => rfl
  | i + 1 => by
    show (if g_ci (g_p6 w A) s i < 60 then g_nn (g_p6 w A) (g_ci (g_p6 w A) s i) else 60) = (if g_ci A s i < 60 then g_nn A (g_ci A s i) else 60)
    rw [p6_ci i, p6_nn]
theorem p6_ch {s : Nat} : g_ch (g_p6 w A) s = g_ch A s := rfl
theorem p6_de {z s : Nat} : g_de (g_p6 w A) z s = g_de A z s := rfl
theorem p6_cc {z s : Nat} : g_cc (g_p6 w A) z s = g_cc A z s := by
  unfold g_cc
  congr 1
  funext i
  unfold g_cp
  rw [p6_ch, p6_ci, p6_de]
theorem p6_ck {z s : Nat} : g_ck (g_p6 w A) z s = g_ck A z s := by
  unfold g_ck
  rw [p6_cc, p6_ch, p6_ci]
theorem p6_goes {s : Nat} : g_p6 w (g_goes A s) = g_goes (g_p6 w A) s := by
  unfold g_goes
  rw [p6_au (by decide), p6_au (by decide)]
theorem p6_rmv {c n : Nat} : g_p6 w (g_rmv A c n) = g_rmv (g_p6 w A) c n := by
  unfold g_rmv
  rw [it_map (Q := g_p6 w) (f' := fun j B => g_goes B (g_ci A c j)) (fun i x => p6_goes) n]
  congr 1
  funext j B
  rw [p6_ci]
theorem p6_cu {z s : Nat} : g_p6 w (g_cu A z s) = g_cu (g_p6 w A) z s := by
  unfold g_cu
  rw [p6_cc, p6_ck]
  by_cases c : g_cc A z s = 0
  · rw [if_pos c, if_pos c]
  · rw [if_neg c, if_neg c, p6_tell, p6_au (by decide), p6_au (by decide), p6_rmv, p6_ch]
theorem p6_p1f {z s : Nat} {x : Nat × g_A} : ((g_p1f z s x).1, g_p6 w (g_p1f z s x).2) = g_p1f z s (x.1, g_p6 w x.2) := by
  unfold g_p1f
  by_cases c : x.2 1 s 0 = 2 ∨ (x.2 1 s 0 = 1 ∧ x.2 1 s 10 = 0)
  · rw [if_pos c, if_pos (show (x.1, g_p6 w x.2).2 1 s 0 = 2 ∨ ((x.1, g_p6 w x.2).2 1 s 0 = 1 ∧ (x.1, g_p6 w x.2).2 1 s 10 = 0) from c)]
    dsimp only
    rw [p6_cc, p6_cu]
  · rw [if_neg c, if_neg (show ¬ ((x.1, g_p6 w x.2).2 1 s 0 = 2 ∨ ((x.1, g_p6 w x.2).2 1 s 0 = 1 ∧ (x.1, g_p6 w x.2).2 1 s 10 = 0)) from c)]
theorem p6_p2f {s : Nat} {x : Nat × g_A} : ((g_p2f s x).1, g_p6 w (g_p2f s x).2) = g_p2f s (x.1, g_p6 w x.2) := by
  unfold g_p2f
  by_cases c : x.2 1 s 0 = 1 ∧ x.2 1 s 10 ≠ 0 ∧ x.2 1 s 11 ≠ 1 ∧ x.2 3 (g_mk x.2 s) 0 = 2
  · rw [if_pos c, if_pos (show (x.1, g_p6 w x.2).2 1 s 0 = 1 ∧ (x.1, g_p6 w x.2).2 1 s 10 ≠ 0 ∧ (x.1, g_p6 w x.2).2 1 s 11 ≠ 1 ∧ (x.1, g_p6 w x.2).2 3 (g_mk (x.1, g_p6 w x.2).2 s) 0 = 2 from c)]
    dsimp only
    rw [p6_goes]
  · rw [if_neg c, if_neg (show ¬ ((x.1, g_p6 w x.2).2 1 s 0 = 1 ∧ (x.1, g_p6 w x.2).2 1 s 10 ≠ 0 ∧ (x.1, g_p6 w x.2).2 1 s 11 ≠ 1 ∧ (x.1, g_p6 w x.2).2 3 (g_mk (x.1, g_p6 w x.2).2 s) 0 = 2) from c)]
theorem p6_hz : g_hz (g_p6 w A) = g_hz A := g_ft_hz p6_ft
theorem p6_ln {p : Nat} : g_ln (g_p6 w A) p = g_ln A p := rfl
theorem p6_pu {p : Nat} : g_pu (g_p6 w A) p = ((g_pu A p).1, g_p6 w (g_pu A p).2) := by
  unfold g_pu
  rw [p6_hz, p6_ln]
  unfold g_p2
  rw [it_map (Q := fun x : Nat × g_A => (x.1, g_p6 w x.2)) (f' := g_p2f) (fun i x => p6_p2f) (g_ln A p)]
  congr 1
  unfold g_p1
  rw [it_map (Q := fun x : Nat × g_A => (x.1, g_p6 w x.2)) (f' := g_p1f (g_hz A)) (fun i x => p6_p1f) (g_ln A p)]
theorem p6_pr {p : Nat} : g_p6 w (g_pr A p) = g_pr (g_p6 w A) p := by
  unfold g_pr g_pn
  rw [p6_pu]
  dsimp only
  by_cases c : (g_pu A p).1 = 0
  · rw [if_pos c, if_pos c]
  · rw [if_neg c, if_neg c]
    unfold g_pt
    rw [p6_tell, p6_au (by decide), p6_au (by decide)]
    rfl
theorem p6_v1 : g_p6 w (g_v1 A) = g_v1 (g_p6 w A) := by
  unfold g_v1
  rw [p6_i6 (f := fun p A => g_pr A p) (fun _ _ => p6_pr)]
theorem p6_sL {i : Nat} : g_sL (g_p6 w A) i = g_sL A i := rfl
theorem p6_fl {L : List Nat} : g_fl (g_p6 w A) L = g_fl A L := rfl
theorem p6_ps1 {x : Nat} : g_p6 w (g_ps1 A x) = g_ps1 (g_p6 w A) x := by
  unfold g_ps1
  rw [p6_tell, p6_au (by decide), p6_au (by decide)]
  rfl
theorem p6_pd {L : List Nat} {b : Nat} : ∀ q, g_p6 w (g_pd A L b q) = g_pd (g_p6 w A) L b q
  | 0 => rfl
  | q + 1 => by
    show g_p6 w (g_ps1 (g_pd A L b q) _) = g_ps1 (g_pd (g_p6 w A) L b q) _
    rw [p6_ps1, p6_pd q, p6_fl, p6_fl]
theorem p6_pv {b q : Nat} {L : List Nat} (h : g_pv A b q L B) : g_pv (g_p6 w A) b q L (g_p6 w B) := by
  obtain ⟨h1, h2, h3⟩ := h
  refine ⟨h1, h2, ?_⟩
  rw [← p6_pd]
  intro g i c a b d
  by_cases e : g = 6
  · subst e; rw [p6_6, p6_6]
  · rw [p6_o e, p6_o e]; exact h3 g i c a b d
theorem p6_dn {p : Nat} : ∀ n, g_dn (g_p6 w A) p n = g_dn A p n
  | 0 => rfl
  | n + 1 => by
    show (if A 1 (10 * p + n) 0 = 0 then g_dn (g_p6 w A) p n else n + 1) = (if A 1 (10 * p + n) 0 = 0 then g_dn A p n else n + 1)
    rw [p6_dn n]
theorem p6_dr {p : Nat} : g_p6 w (g_dr p A) = g_dr p (g_p6 w A) := by
  unfold g_dr
  rw [p6_au (by decide), p6_dn, p6_ln]
theorem p6_frz {z s : Nat} : g_p6 w (g_frz z s A) = g_frz z s (g_p6 w A) := by
  unfold g_frz
  have e : g_fzc z (g_p6 w A) s = g_fzc z A s := rfl
  rw [e]
  cases g_fzc z A s with
  | false => rfl
  | true =>
    show g_p6 w (g_fzt A s) = g_fzt (g_p6 w A) s
    unfold g_fzt
    rw [p6_tell, p6_au (by decide), p6_au (by decide)]
    rfl
theorem p6_cL {z p : Nat} : g_cL z (g_p6 w A) p = g_cL z A p := rfl
theorem p6_ff {p : Nat} : g_p6 w (g_ff p A) = g_ff p (g_p6 w A) := by
  unfold g_ff
  rw [p6_au (by decide), p6_hz, p6_cL]
theorem p6_v3 : g_p6 w (g_v3 A) = g_v3 (g_p6 w A) := by
  unfold g_v3
  rw [p6_i6 (f := g_ff) (fun _ _ => p6_ff), p6_i6 (f := g_frz (g_hz A)) (fun _ _ => p6_frz), p6_i6 (f := g_dr) (fun _ _ => p6_dr), p6_hz]
theorem p6_fr {p : Nat} : g_fr (g_p6 w A) p = g_fr A p := rfl
theorem p6_p6 {v : Nat → Nat → Int32} : g_p6 v (g_p6 w A) = g_p6 v A := by
  funext g i c
  by_cases e : g = 6
  · subst e; rw [p6_6, p6_6]
  · rw [p6_o e, p6_o e, p6_o e]
theorem p6_id : g_p6 (A 6) A = A := by
  funext g i c
  by_cases e : g = 6
  · subst e; rw [p6_6]
  · rw [p6_o e]
theorem ww_cg (hn : g_nx B = g_nx A) (h6 : ∀ t, B 6 t 0 = A 6 t 0) (hw : g_ww A) : g_ww B := by
  have wn : ∀ t, g_wn B t = g_wn A t := fun t => by unfold g_wn; rw [h6]
  have wp : ∀ t i, g_wp B t i = g_wp A t i := fun t i => by
    induction i with
    | zero => rfl
    | succ i ih => rw [g_wp_s, g_wp_s, ih, wn]
  refine ⟨fun t a b => ?_, fun t a b => ?_⟩
  · rw [hn] at b ⊢
    rw [h6, wn]; exact hw.1 t a b
  · rw [hn] at b
    obtain ⟨n, e⟩ := hw.2 t a b
    exact ⟨n, by rw [wp]; exact e⟩
theorem p6_W {C : g_A} (hW : g_W A) (hC : g_W C) (hn : g_nx A = g_nx C) : g_W (g_p6 (C 6) A) :=
  fb_W p6_fb hW hW.2.1.1 hW.2.1.2.1 hW.2.2.1 (ww_cg (A := C) hn (fun t => p6_6) hC.2.2.2.1) hW.2.2.2.2.2.1 hW.2.2.2.2.2.2.1
end g_P6
