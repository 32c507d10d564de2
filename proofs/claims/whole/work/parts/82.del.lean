/-! delete, update -/
def g_rea (A : g_A) (a row : Int32) : Int32 := if g_rw A row = true then (if g_free A a = 0 then (if g_so A a.toNatClampNeg row < 60 then 0 else 6) else g_free A a) else 2
def g_ens (A : g_A) (v : Nat) : Int32 := if g_en A v = 0 then -1 else A 3 (g_en A v) 0
def g_cha (A : g_A) (a row : Int32) : Int32 := if g_rea A a row = 0 then (if g_ens A (g_so A a.toNatClampNeg row) = 0 then 7 else if g_ens A (g_so A a.toNatClampNeg row) = 1 then 8 else 0) else g_rea A a row
theorem g_so_f {A : g_A} {t : Nat} {row : Int32} (h : g_so A t row < 60) : g_fu A (g_so A t row) = true ∧ A 1 (g_so A t row) 2 = row ∧ g_se A t (g_so A t row) = true := by
  have := g_fst_at (fun s => g_fu A s && (decide (A 1 s 2 = row) && g_se A t s)) 60 0 h
  simp only [Bool.and_eq_true, decide_eq_true_iff] at this
  exact ⟨this.1, this.2.1, this.2.2⟩
theorem g_rea_t {A : g_A} {a row : Int32} (hw : g_wt A) (h : g_rea A a row = 0) : ∃ t, a = nI t ∧ g_tn A t ∧ A 3 t 0 = 0 ∧ a.toNatClampNeg = t ∧ g_tx A a = true ∧ ¬ 0 < A 6 t 0 ∧ g_rw A row = true ∧ g_so A t row < 60 := by
  unfold g_rea at h
  by_cases c : g_rw A row = true
  · rw [if_pos c] at h
    by_cases d : g_free A a = 0
    · rw [if_pos d] at h
      obtain ⟨t, e, t1, t2, t3, t4, t5⟩ := g_free_t hw d
      rw [t3] at h
      by_cases f : g_so A t row < 60
      · exact ⟨t, e, t1, t2, t3, t4, t5, c, f⟩
      · rw [if_neg f] at h; exact absurd h (by decide)
    · rw [if_neg d] at h; exact absurd h d
  · rw [if_neg c] at h; exact absurd h (by decide)
theorem g_cha_t {A : g_A} {a row : Int32} (hI : g_PI A) (h : g_cha A a row = 0) : ∃ t v, a = nI t ∧ a.toNatClampNeg = t ∧ v = g_so A t row ∧ g_rea A a row = 0 ∧ g_up A t v ∧ A 1 v 2 = row := by
  obtain ⟨wt, wq, wl, wv, wc, wL, wT, wE, wF⟩ := hI
  unfold g_cha at h
  by_cases c : g_rea A a row = 0
  · rw [if_pos c] at h
    obtain ⟨t, e, t1, t2, t3, t4, t5, t6, t7⟩ := g_rea_t wt c
    rw [t3] at h
    obtain ⟨s1, s2, s3⟩ := g_so_f t7
    refine ⟨t, _, e, t3, rfl, c, ⟨t7, s1, t1, t2, ?_, ?_⟩, s2⟩
    · unfold g_se at s3
      simp only [Bool.and_eq_true, Bool.or_eq_true, decide_eq_true_iff] at s3
      exact s3.1
    · unfold g_ens at h
      unfold g_eo
      by_cases z : g_en A (g_so A t row) = 0
      · rw [if_neg (fun q => q.1 z)]
      · rw [if_neg z] at h
        obtain ⟨_, n1, n2⟩ := g_ws_en (wv _ t7 s1) z
        rcases wq _ n1 n2 with q | q | q
        · rw [if_pos q] at h; exact absurd h (by decide)
        · rw [if_neg (by rw [q]; decide), if_pos q] at h; exact absurd h (by decide)
        · rw [if_neg (fun y => y.2 q)]
  · rw [if_neg c] at h; exact absurd h c
theorem c_asReader {a row : Int32} {A : g_A} {H : q_H} {b : Nat} (hW : g_W A) (hR : g_R b (g_st H 0) A) : Rp_asReader a row H = some (g_rea A a row) := by
  have wt := hW.1.1
  unfold Rp_asReader g_rea
  rw [c_hasRow hR.1.2.2.2]
  simp only [Option.bind_some]
  cases g_rw A row with
  | false => rw [if_neg (by decide), if_neg (by decide)]
  | true =>
    rw [if_pos (by decide), c_asFree hR.2.1 wt, if_pos rfl]
    simp only [Option.bind_some]
    by_cases d : g_free A a = 0
    · obtain ⟨t, e, t1, t2, t3, t4, t5⟩ := g_free_t wt d
      rw [if_pos d, if_pos d, t3, e, c_seenPlace hR.2.1 hR.2.2.2.1 wt hW.1.2.2.2.1 t1]
      simp only [Option.bind_some]
      by_cases f : g_so A t row < 60
      · rw [if_pos (fun q => g_pp1.mp q f), if_pos f]
      · rw [if_neg (fun q => q (g_pp1.mpr f)), if_neg f]
    · rw [if_neg d, if_neg d]
theorem c_asChanger {a row : Int32} {A : g_A} {H : q_H} {b : Nat} (hW : g_W A) (hR : g_R b (g_st H 0) A) : Rp_asChanger a row H = some (g_cha A a row) := by
  have wt := hW.1.1
  unfold Rp_asChanger g_cha
  rw [c_asReader hW hR]
  simp only [Option.bind_some]
  by_cases c : g_rea A a row = 0
  · obtain ⟨t, e, t1, t2, t3, t4, t5, t6, t7⟩ := g_rea_t wt c
    rw [if_pos c, if_pos c, t3, e, c_seenPlace hR.2.1 hR.2.2.2.1 wt hW.1.2.2.2.1 t1]
    simp only [Option.bind_some]
    have ep : g_pp (g_so A t row) = nI (g_so A t row) := if_pos t7
    obtain ⟨s1, s2, s3⟩ := g_so_f t7
    rw [ep, c_at t7]
    simp only [Option.bind_some]
    obtain ⟨_, _, _, _, _, _, _, s7, _⟩ := (r_ps hR.2.2.2.1 t7).1 s1
    rw [show H.1 3 7 0 (g_so A t row) = _ from s7, c_es hR.2.1 wt (hW.1.2.2.2.1 _ t7 s1)]
    simp only [Option.bind_some]
    unfold g_ens
    generalize (if g_en A (g_so A t row) = 0 then (-1 : Int32) else A 3 (g_en A (g_so A t row)) 0) = z
    by_cases z0 : z = 0
    · rw [if_pos z0, if_pos z0]
    · rw [if_neg z0, if_neg z0]
      by_cases z1 : z = 1
      · rw [if_pos z1, if_pos z1]
      · rw [if_neg z1, if_neg z1]
  · rw [if_neg c, if_neg c]
theorem m_noTouch {A : g_A} {h : q_H} {a : Int32} {v : Nat} (hW : g_W A) (hv : v < 60) (hf : g_fu A v = true) : Mo_noTouch a (nI v) (g_ma h 31 A) = some (if g_ens A v = 0 then 7 else if g_ens A v = 1 then 8 else 0) := by
  have wt := hW.1.1
  have hw := hW.1.2.2.2.1 v hv hf
  unfold Mo_noTouch g_ens
  rw [m_enderOf hv wt hw]
  simp only [Option.bind_some]
  by_cases z : g_en A v = 0
  · have : g_eo A v = 0 := if_neg (fun q => q.1 z)
    rw [this, if_neg (by decide), if_pos z]; rfl
  · obtain ⟨_, n1, n2⟩ := g_ws_en hw z
    have n61 := wt.2.2
    rw [if_neg z]
    rcases hW.1.2.1 _ n1 n2 with q | q | q
    · have e : g_eo A v = g_en A v := if_pos ⟨z, by rw [q]; decide⟩
      have e2 : g_pe (g_en A v) = nI (g_en A v) := if_neg z
      rw [e, e2, if_pos (nI_pos' (by omega)), m_isOpen (by omega), if_pos q]
      unfold g_op
      rw [decide_eq_true q]; rfl
    · have e : g_eo A v = g_en A v := if_pos ⟨z, by rw [q]; decide⟩
      have e2 : g_pe (g_en A v) = nI (g_en A v) := if_neg z
      rw [e, e2, if_pos (nI_pos' (by omega)), m_isOpen (by omega), q]
      unfold g_op
      rw [q]; rfl
    · have e : g_eo A v = 0 := if_neg (fun y => y.2 q)
      rw [e, if_neg (by decide), q]; rfl
theorem m_touched {A : g_A} {h : q_H} {a row : Int32} (hW : g_W A) : Mo_touched a row (g_ma h 31 A) = if g_cha A a row = 0 then some (nI (g_so A a.toNatClampNeg row), g_ma h 31 A) else some (-1, q_si (g_ma h 31 A) 30 6 7 0 (g_cha A a row)) := by
  have wt := hW.1.1
  have wr := hW.2.2.2.2.1
  unfold Mo_touched
  rw [m_isTxn wt, m_isRow wr.1 wr.2.1]
  simp only [Option.bind_some]
  cases ct : g_tx A a with
  | false =>
    have e : g_cha A a row = 2 := by
      have : g_rea A a row = 2 := by
        unfold g_rea
        cases g_rw A row with
        | false => rw [if_neg (by decide)]
        | true =>
          have : g_free A a = 2 := by
            have e0 : g_opn A a = 2 := by unfold g_opn; rw [ct, if_neg (by decide)]
            unfold g_free; rw [e0, if_neg (by decide)]
          rw [if_pos rfl, this, if_neg (by decide)]
      unfold g_cha
      rw [this, if_neg (by decide)]
    rw [if_pos (by rfl), e, if_neg (by decide)]; rfl
  | true =>
    rw [if_neg (by decide)]
    cases cr : g_rw A row with
    | false =>
      have e : g_cha A a row = 2 := by
        unfold g_cha g_rea
        rw [cr, if_neg (show ¬ false = true by decide), if_neg (by decide)]
      rw [if_neg (by decide), e, if_neg (by decide)]; rfl
    | true =>
      obtain ⟨t, e, t1, t2⟩ := g_tx_t wt ct
      have ht : a.toNatClampNeg = t := by rw [e]; exact g_cl (by have := wt.2.2; omega)
      have t61 : t < 61 := by have := wt.2.2; omega
      rw [if_pos (by decide), e, m_isOpen t61, ← e]
      simp only [Option.bind_some]
      unfold g_op
      by_cases o : A 3 t 0 = 0
      · have eo : g_opn A a = 0 := by unfold g_opn; rw [ct, if_pos rfl, ht, if_pos o]
        rw [decide_eq_true o, if_pos (by decide), e, m_isWaiting t61, ← e]
        simp only [Option.bind_some]
        by_cases w : 0 < A 6 t 0
        · have ec : g_cha A a row = 11 := by
            have : g_rea A a row = 11 := by
              unfold g_rea g_free
              rw [cr, if_pos rfl, eo, if_pos rfl, ht, if_pos w, if_neg (by decide)]
            unfold g_cha
            rw [this, if_neg (by decide)]
          rw [decide_eq_true w, if_neg (by decide), ec, if_neg (by decide)]; rfl
        · have ef : g_free A a = 0 := by unfold g_free; rw [eo, if_pos rfl, ht, if_neg w]
          rw [decide_eq_false w, if_pos (by rfl), e, m_seenOf hW.1.2.2.1 wt hW.1.2.2.2.1 ⟨t1, t2⟩, ← e]
          simp only [Option.bind_some]
          by_cases f : g_so A t row < 60
          · obtain ⟨s1, s2, s3⟩ := g_so_f f
            have er : g_rea A a row = 0 := by unfold g_rea; rw [cr, if_pos rfl, ef, if_pos rfl, ht, if_pos f]
            have ep : g_pp (g_so A t row) = nI (g_so A t row) := if_pos f
            rw [if_pos (g_ppP.mpr f), ep, m_noTouch hW f s1]
            simp only [Option.bind_some]
            have ec : g_cha A a row = (if g_ens A (g_so A t row) = 0 then 7 else if g_ens A (g_so A t row) = 1 then 8 else 0) := by
              unfold g_cha; rw [er, if_pos rfl, ht]
            rw [← ec]
            by_cases z : g_cha A a row = 0
            · rw [z, if_pos (by decide), if_pos rfl, ht]
            · have : ¬ g_cha A a row ≤ 0 := by
                rw [ec] at z ⊢
                by_cases z0 : g_ens A (g_so A t row) = 0
                · rw [if_pos z0]; decide
                · rw [if_neg z0] at z ⊢
                  by_cases z1 : g_ens A (g_so A t row) = 1
                  · rw [if_pos z1]; decide
                  · rw [if_neg z1] at z; exact absurd rfl z
              rw [if_neg this, if_neg z]; rfl
          · have ec : g_cha A a row = 6 := by
              have : g_rea A a row = 6 := by unfold g_rea; rw [cr, if_pos rfl, ef, if_pos rfl, ht, if_neg f]
              unfold g_cha
              rw [this, if_neg (by decide)]
            rw [if_neg (fun q => f (g_ppP.mp q)), ec, if_neg (by decide)]; rfl
      · have ec : g_cha A a row = 4 := by
          have eo : g_opn A a = 4 := by unfold g_opn; rw [ct, if_pos rfl, ht, if_neg o]
          have : g_rea A a row = 4 := by
            have e1 : g_free A a = 4 := by unfold g_free; rw [eo, if_neg (by decide)]
            unfold g_rea
            rw [cr, if_pos rfl, e1, if_neg (by decide)]
          unfold g_cha
          rw [this, if_neg (by decide)]
        rw [decide_eq_false o, if_neg (by decide), ec, if_neg (by decide)]; rfl
theorem g_vo_pos {A : g_A} {row : Int32} : 0 ≤ g_vo A row := by
  have key : ∀ n, n ≤ 60 → ∃ m, m ≤ n ∧ g_sm (fun s => q_bi (g_fu A s && decide (A 1 s 2 = row))) 0 n = nI m := by
    intro n
    induction n with
    | zero => intro _; exact ⟨0, Nat.le_refl _, rfl⟩
    | succ n ih =>
      intro hn
      obtain ⟨m, hm, e⟩ := ih (by omega)
      show ∃ m, m ≤ n + 1 ∧ g_sm _ 0 n + q_bi (g_fu A (0 + n) && decide (A 1 (0 + n) 2 = row)) = nI m
      rw [e]
      cases (g_fu A (0 + n) && decide (A 1 (0 + n) 2 = row)) with
      | true => exact ⟨m + 1, by omega, by rw [show q_bi true = 1 from rfl, nI_1]⟩
      | false => exact ⟨m, by omega, by rw [show q_bi false = 0 from rfl, Int32.add_zero]⟩
  obtain ⟨m, hm, e⟩ := key 60 (Nat.le_refl _)
  unfold g_vo
  rw [e]
  exact nI_pos' (by omega)
theorem act_delete {b : Nat} {A : g_A} {H : q_H} {a row : Int32} (hW : g_W A) (hR : g_R b (g_st H 0) A) : g_act b A H (Rp_delete a row H) (Mo_deleteNow a row) := by
  unfold Rp_delete
  rw [c_asChanger hW hR]
  simp only [Option.bind_some]
  by_cases c : g_cha A a row = 0
  · obtain ⟨t, v, e, ht, ev, er, hu, h2⟩ := g_cha_t hW.1 c
    have hWd := g_W_del hW hu
    have hRd := r_end (t := nI t) (p := -1) (q := -1) hR hu.1 hu.2.1
    have ep : g_pp (g_so A t row) = nI v := by rw [← ev]; exact if_pos hu.1
    rw [if_pos c, e, c_seenPlace hR.2.1 hR.2.2.2.1 hW.1.1 hW.1.2.2.2.1 hu.2.2.1, ep]
    simp only [Option.bind_some]
    have pl : g_pl (-1) (-1) = -1 := rfl
    rw [pl] at hRd
    rw [c_endV hu.1]
    simp only [Option.bind_some]
    rw [c_versionsOf (A := g_end A v (nI t) (-1) (-1)) (by rw [g_st_cw]; exact hRd.2.2.2.1)]
    simp only [Option.bind_some]
    rw [e_answer]
    refine act_ans hRd hWd g_vo_pos c1_end (fun h => ?_)
    unfold Mo_deleteNow
    rw [m_touched hW, ← e, if_pos c, ht, ← ev]
    simp only [Option.bind_some]
    rw [if_pos (nI_pos' (by have := hu.1; omega)), e, m_endsAt hu.1]
    simp only [Option.bind_some]
    rw [m_versionsOf hWd.1.2.2.1]
    rfl
  · rw [if_neg c, e_refuse]
    refine act_ref hR hW c (fun h => ?_)
    unfold Mo_deleteNow
    rw [m_touched hW, if_neg c]
    simp only [Option.bind_some]
    rw [if_neg (by decide)]
