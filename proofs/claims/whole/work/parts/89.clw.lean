/-! commit, abort: what holds of the rows; the acts -/
theorem g_W_cls {A : g_A} {t : Nat} {how : Int32} (w : g_W A) (ht : g_tn A t) (ho : A 3 t 0 = 0) (hh : how = 1 ∨ how = 2) : g_W (g_cls A t how) := by
  obtain ⟨⟨wt, wq, wl, wv, wc, wL, wT, wE, wF⟩, ⟨wi, we, wO⟩, wg, ww, wr, wb, wd, wI⟩ := w
  have n61 := wt.2.2
  have o : ∀ g i w, g ≠ 3 → g ≠ 6 → g_cls A t how g i w = A g i w := fun g i w h3 h6 => by
    unfold g_cls g_cw0
    rw [g_au_ne (by omega), if_neg (by omega)]
  have o3 : ∀ x w, ¬ (x = t ∧ w = 0) → g_cls A t how 3 x w = A 3 x w := fun x w h => by
    unfold g_cls g_cw0
    rw [g_au_ne (fun q => h q.2), if_neg (by omega)]
  have e3 : g_cls A t how 3 t 0 = how := by unfold g_cls; rw [g_au_eq]
  have e6 : ∀ x, 1 ≤ x → x < g_nx A → g_cls A t how 6 x 0 = if x = t ∨ A 6 x 0 = nI t then 0 else A 6 x 0 := fun x a b => by
    unfold g_cls g_cw0
    rw [g_au_ne (by omega)]
    by_cases d : x = t ∨ A 6 x 0 = nI t
    · rw [if_pos d, if_pos ⟨rfl, rfl, by rcases d with d | d; exact Or.inl d; exact Or.inr ⟨a, by omega, d⟩⟩]
    · rw [if_neg d, if_neg (fun q => d (by rcases q.2.2 with y | y; exact Or.inl y; exact Or.inr y.2.2))]
  obtain ⟨wt', nx⟩ := g_cls_wt (t := t) (how := how) wt
  generalize g_cls A t how = B at *
  have s : ∀ x, x ≠ t → B 3 x 0 = A 3 x 0 := fun x h => o3 x 0 (fun q => h q.1)
  have ln : ∀ p, g_ln B p = g_ln A p := fun p => by unfold g_ln; rw [o _ _ _ (by omega) (by omega)]
  have iv : ∀ x, g_iv B x = g_iv A x := fun x => by unfold g_iv; rw [ln]
  have fu : ∀ x, g_fu B x = g_fu A x := fun x => by unfold g_fu; rw [iv, o _ _ _ (by omega) (by omega)]
  have mk : ∀ x, g_mk B x = g_mk A x := fun x => by unfold g_mk; rw [o _ _ _ (by omega) (by omega)]
  have en : ∀ x, g_en B x = g_en A x := fun x => by unfold g_en; rw [o _ _ _ (by omega) (by omega)]
  have n1 : ∀ x, g_n1 B x = g_n1 A x := fun x => by unfold g_n1; rw [o _ _ _ (by omega) (by omega)]
  have n2 : ∀ x, g_n2 B x = g_n2 A x := fun x => by unfold g_n2; rw [o _ _ _ (by omega) (by omega), o _ _ _ (by omega) (by omega)]
  have mm : ∀ x, g_mm B x = g_mm A x := fun x => by unfold g_mm; rw [o _ _ _ (by omega) (by omega)]
  have ch : ∀ x, g_ch B x = g_ch A x := fun x => by unfold g_ch; rw [o _ _ _ (by omega) (by omega), o _ _ _ (by omega) (by omega)]
  have eoB : ∀ x, g_eo B x ≠ 0 → g_eo B x = g_eo A x := fun x h => by
    unfold g_eo at h ⊢
    rw [en] at h ⊢
    by_cases z : g_en A x ≠ 0 ∧ B 3 (g_en A x) 0 ≠ 2
    · rw [if_pos z]
      by_cases d : g_en A x = t
      · rw [if_pos ⟨z.1, by rw [d, ho]; decide⟩]
      · rw [if_pos ⟨z.1, by rw [← s _ d]; exact z.2⟩]
    · rw [if_neg z] at h; exact absurd rfl h
  have lk : ∀ a x, a < 60 → x < 60 → g_lk B a x → g_lk A a x := fun a x ha hx l => by
    rcases l with ⟨l1, l2, l3⟩ | ⟨l1, l2⟩
    · rw [iv] at l1; rw [o _ _ _ (by omega) (by omega)] at l2; rw [ch] at l3; exact Or.inl ⟨l1, l2, l3⟩
    · rw [fu] at l1
      have hn : g_nn B a < 60 := by omega
      obtain ⟨m0, m1, m2, m3, m4, m5⟩ := g_nn_in hn
      have ee := eoB a m1
      rw [ee] at m1 m5
      rw [o _ _ _ (by omega) (by omega)] at m2
      rw [n1] at m0 m3 m4 m5
      rw [fu] at m3
      rw [o _ _ _ (by omega) (by omega)] at m4 m5
      have : g_nn A a = g_n1 A a := if_pos ⟨m1, m2, m3, m4, m5⟩
      exact Or.inr ⟨l1, by rw [this, ← m0]; exact l2⟩
  have done : ∀ x, A 3 x 0 = 1 → B 3 x 0 = 1 := fun x h => by
    rw [s x (fun q => by rw [q, ho] at h; exact absurd h (by decide))]; exact h
  have ne : g_ne B = g_ne A := by unfold g_ne; rw [o _ _ _ (by omega) (by omega)]
  have ep : ∀ i, g_ep B i = g_ep A i := fun i => by unfold g_ep; rw [o _ _ _ (by omega) (by omega), o _ _ _ (by omega) (by omega)]
  have nr : g_nr B = g_nr A := by unfold g_nr; rw [o _ _ _ (by omega) (by omega)]
  have nf : g_nf B = g_nf A := by unfold g_nf; rw [o _ _ _ (by omega) (by omega)]
  have tn : ∀ x, g_tn B x ↔ g_tn A x := fun x => by unfold g_tn; rw [nx]
  have wnB : ∀ x, 1 ≤ x → x < g_nx A → B 6 x 0 = nI (g_wn B x) ∧ (g_wn B x = 0 ∨ g_wn B x = g_wn A x) := fun x a b => by
    have e := e6 x a b
    by_cases d : x = t ∨ A 6 x 0 = nI t
    · rw [if_pos d] at e
      have : g_wn B x = 0 := by unfold g_wn; rw [e]; rfl
      rw [this, e]; exact ⟨rfl, Or.inl rfl⟩
    · rw [if_neg d] at e
      have : g_wn B x = g_wn A x := by unfold g_wn; rw [e]
      rw [this, e]; exact ⟨(ww.1 x a b).1, Or.inr rfl⟩
  refine ⟨⟨wt', fun x a b => ?_, fun p hp => by rw [ln, o _ _ _ (by omega) (by omega)]; exact wl p hp, fun x hx f => ?_, fun x hx f e f2 => ?_, fun a b x ha hb hx la lb => wL a b x ha hb hx (lk a x ha hx la) (lk b x hb hx lb), fun a ha ia ka => ?_, fun x hx f e => ?_, fun x hx f e => ?_⟩, ⟨⟨by rw [ne, o _ _ _ (by omega) (by omega)]; exact wi.1, by rw [ne]; exact wi.2.1, fun i hi => ?_⟩, fun i hi => ?_, fun x hx f e0 eo' e8 => ?_⟩, ⟨by unfold g_nv; rw [o _ _ _ (by omega) (by omega)]; exact wg.1, by unfold g_nv; rw [o _ _ _ (by omega) (by omega)]; exact wg.2⟩, ⟨fun x a b => ?_, fun x a b => ?_⟩, ⟨by rw [nr, o _ _ _ (by omega) (by omega)]; exact wr.1, by rw [nr]; exact wr.2.1, fun x hx f => ?_⟩, by unfold g_wb; rw [o _ _ _ (by omega) (by omega)]; exact wb, ⟨by rw [nf, o _ _ _ (by omega) (by omega)]; exact wd.1, by rw [nf]; exact wd.2.1, fun i hi => ?_⟩, fun a b ha hb fa fb e => ?_⟩
  · rw [nx] at b
    by_cases d : x = t
    · rw [d, e3]
      rcases hh with q | q
      · exact Or.inr (Or.inl q)
      · exact Or.inr (Or.inr q)
    · rw [s x d]; exact wq x a b
  · rw [fu] at f
    have := wv x hx f
    unfold g_ws at this ⊢
    rw [mk, en, tn, tn, o _ _ _ (by omega) (by omega), o _ _ _ (by omega) (by omega), o _ _ _ (by omega) (by omega), o _ _ _ (by omega) (by omega), o _ _ _ (by omega) (by omega), o _ _ _ (by omega) (by omega)]
    exact this
  · rw [fu] at f f2
    rw [o _ _ _ (by omega) (by omega)] at e
    rw [n1] at f2 ⊢
    rw [mm, mm]; exact wc x hx f e f2
  · rw [iv] at ia
    rw [o _ _ _ (by omega) (by omega)] at ka
    obtain ⟨⟨x, hx, e⟩, t2, t3, t4⟩ := wT a ha ia ka
    rw [ch, fu, mk, o _ _ _ (by omega) (by omega), o _ _ _ (by omega) (by omega)]
    exact ⟨⟨x, hx, e⟩, t2, t3, done _ t4⟩
  · rw [fu] at f
    rw [en] at e ⊢
    rw [mk]
    rcases wE x hx f e with q | q
    · exact Or.inl q
    · exact Or.inr (done _ q)
  · rw [fu] at f
    rw [o _ _ _ (by omega) (by omega)] at e
    rw [mk]; exact done _ (wF x hx f e)
  · rw [ne] at hi
    rw [o _ _ _ (by omega) (by omega), o _ _ _ (by omega) (by omega), o _ _ _ (by omega) (by omega)]; exact wi.2.2 i hi
  · rw [ne] at hi
    rw [ep, iv, o _ _ _ (by omega) (by omega), o _ _ _ (by omega) (by omega)]; exact we i hi
  · rw [fu] at f
    rw [en] at e0 eo'
    have d : g_en A x ≠ t := fun q => by
      rw [q, e3] at eo'
      rcases hh with y | y <;> rw [y] at eo' <;> exact absurd eo' (by decide)
    rw [s _ d] at eo'
    rw [o _ _ _ (by omega) (by omega)] at e8
    rw [n2, fu, o _ _ _ (by omega) (by omega), o _ _ _ (by omega) (by omega)]; exact wO x hx f e0 eo' e8
  · rw [nx] at b ⊢
    obtain ⟨q1, q2⟩ := wnB x a b
    refine ⟨q1, ?_⟩
    rcases q2 with q | q
    · rw [q]; omega
    · rw [q]; exact (ww.1 x a b).2
  · rw [nx] at b
    obtain ⟨n, hn⟩ := ww.2 x a b
    refine ⟨n, ?_⟩
    have key : ∀ i, g_wp B x i = 0 ∨ g_wp B x i = g_wp A x i := by
      intro i
      induction i with
      | zero => exact Or.inr rfl
      | succ i ih =>
        rw [g_wp_s, g_wp_s]
        rcases ih with z | z
        · rw [if_pos z]; exact Or.inl rfl
        · by_cases y : g_wp B x i = 0
          · rw [if_pos y]; exact Or.inl rfl
          · rw [if_neg y, if_neg (by rw [← z]; exact y), z]
            have := g_wp_lt ww wt b i
            rcases (wnB _ (by omega) this).2 with u | u
            · exact Or.inl u
            · exact Or.inr u
    rcases key n with z | z
    · exact z
    · rw [z]; exact hn
  · rw [fu] at f
    rw [nr, o _ _ _ (by omega) (by omega), o _ _ _ (by omega) (by omega)]; exact wr.2.2 x hx f
  · rw [nf] at hi
    rw [o _ _ _ (by omega) (by omega), o _ _ _ (by omega) (by omega)]; exact wd.2.2 i hi
  · rw [fu] at fa fb
    rw [o _ _ _ (by omega) (by omega), o _ _ _ (by omega) (by omega)] at e
    obtain ⟨i1, i2, i3, i4⟩ := wI a b ha hb fa fb e
    have I := wI
    rw [mk, mk, en]
    have eo0 : ∀ x, g_eo B x = 0 → g_eo A x = 0 ∨ (g_en A x = t ∧ how = 2) := fun x h => by
      unfold g_eo at h ⊢
      rw [en] at h
      by_cases z : g_en A x = 0
      · exact Or.inl (if_neg (fun q => q.1 z))
      · by_cases d : g_en A x = t
        · right
          refine ⟨d, ?_⟩
          rcases hh with y | y
          · rw [if_pos ⟨z, by rw [d, e3, y]; decide⟩] at h; exact absurd h z
          · exact y
        · left
          rw [s _ d] at h; exact h
    have edn : ∀ x, ¬ g_ed B x → ¬ g_ed A x := fun x h q => h ⟨by rw [en]; exact q.1, by rw [en]; exact done _ q.2⟩
    have edt : how = 1 → ∀ x, ¬ g_ed B x → g_en A x ≠ t := fun h1 x h q => h ⟨by rw [en, q]; have := ht.1; omega, by rw [en, q, e3]; exact h1⟩
    have st1 : ∀ x, B 3 x 0 = 1 → A 3 x 0 = 1 ∨ (x = t ∧ how = 1) := fun x h => by
      by_cases d : x = t
      · right; rw [d, e3] at h; exact ⟨d, h⟩
      · left; rw [s x d] at h; exact h
    have st0 : ∀ x, B 3 x 0 = 0 → A 3 x 0 = 0 ∧ x ≠ t := fun x h => by
      have d : x ≠ t := fun q => by
        rw [q, e3] at h
        rcases hh with y | y <;> rw [y] at h <;> exact absurd h (by decide)
      rw [s x d] at h; exact ⟨h, d⟩
    have st2 : ∀ x, B 3 x 0 ≠ 2 → A 3 x 0 ≠ 2 ∧ (x = t → how = 1) := fun x h => by
      by_cases d : x = t
      · refine ⟨by rw [d, ho]; decide, fun _ => ?_⟩
        rw [d, e3] at h
        rcases hh with y | y
        · exact y
        · exact absurd y h
      · rw [s x d] at h; exact ⟨h, fun q => absurd q d⟩
    have own : ∀ x, x < 60 → g_fu A x = true → g_mk A x = t → ¬ g_ed B x → how = 1 → g_eo A x = 0 := fun x hx f hm he h1 => by
      have z : g_en A x = 0 := by
        by_cases z : g_en A x = 0
        · exact z
        · exfalso
          rcases wE x hx f z with q | q
          · exact edt h1 x he (q.trans hm)
          · rw [hm, ho] at q; exact absurd q (by decide)
      exact if_neg (fun q => q.1 z)
    refine ⟨fun h1 h2 h3 h4 => ?_, fun h1 h2 h3 h4 => ?_, fun h1 h2 h3 => ?_, fun h1 h2 => i4 (st0 _ h1).1 (st0 _ h2).1⟩
    · rcases st1 _ h1 with p | p
      · rcases st1 _ h2 with q | q
        · exact i1 p q (edn a h3) (edn b h4)
        · exfalso
          have := (I b a hb ha fb fa e.symm).2.2.1 (by rw [q.1]; exact ho) p (edn a h3)
          exact edt q.2 a h3 (this.trans q.1)
      · rcases st1 _ h2 with q | q
        · exfalso
          have := i3 (by rw [p.1]; exact ho) q (edn b h4)
          exact edt p.2 b h4 (this.trans p.1)
        · exact i2 (by rw [p.1, ho]; decide) (by rw [q.1, ho]; decide) (own a ha fa p.1 h3 p.2) (own b hb fb q.1 h4 p.2)
    · obtain ⟨a1, a2⟩ := st2 _ h1
      obtain ⟨b1, b2⟩ := st2 _ h2
      have dn : ∀ x, x < 60 → g_fu A x = true → g_en A x = t → (g_mk A x = t → how = 1) → how = 2 → A 3 (g_mk A x) 0 = 1 ∧ ¬ g_ed A x := fun x hx f q1 q2 q3 => by
        have hm : g_mk A x ≠ t := fun y => by rw [q2 y] at q3; exact absurd q3 (by decide)
        refine ⟨?_, fun y => ?_⟩
        · rcases wE x hx f (by rw [q1]; have := ht.1; omega) with y | y
          · exact absurd (y.symm.trans q1) hm
          · exact y
        · have := y.2
          rw [q1, ho] at this; exact absurd this (by decide)
      have un : ∀ x, g_eo A x = 0 → ¬ g_ed A x := fun x h q => by
        unfold g_eo at h
        rw [if_pos ⟨q.1, by rw [q.2]; decide⟩] at h
        exact q.1 h
      rcases eo0 a h3 with p | p
      · rcases eo0 b h4 with q | q
        · exact i2 a1 b1 p q
        · obtain ⟨d1, d2⟩ := dn b hb fb q.1 b2 q.2
          rcases wq _ (wv a ha fa).2.1.1 (wv a ha fa).2.1.2 with y | y | y
          · exfalso
            have := i3 y d1 d2
            have := a2 (this.symm.trans q.1)
            rw [this] at q; exact absurd q.2 (by decide)
          · exact i1 y d1 (un a p) d2
          · exact absurd y a1
      · obtain ⟨d1, d2⟩ := dn a ha fa p.1 a2 p.2
        rcases eo0 b h4 with q | q
        · rcases wq _ (wv b hb fb).2.1.1 (wv b hb fb).2.1.2 with y | y | y
          · exfalso
            have := (I b a hb ha fb fa e.symm).2.2.1 y d1 d2
            have := b2 (this.symm.trans p.1)
            rw [this] at p; exact absurd p.2 (by decide)
          · exact i1 d1 y d2 (un b q)
          · exact absurd y b1
        · obtain ⟨g1, g2⟩ := dn b hb fb q.1 b2 q.2
          exact i1 d1 g1 d2 g2
    · obtain ⟨a1, a2⟩ := st0 _ h1
      rcases st1 _ h2 with q | q
      · exact i3 a1 q (edn b h3)
      · exact absurd ((i4 a1 (by rw [q.1]; exact ho)).trans q.1) a2
theorem g_W_clo {A : g_A} {t : Nat} {how : Int32} (w : g_W A) (ht : g_tn A t) (ho : A 3 t 0 = 0) (hh : how = 1 ∨ how = 2) : g_W (g_clo A t how) := by
  have w' := g_W_cls w ht ho hh
  have hk : g_fk (g_cls A t how) (g_clo A t how) := g_fk_tell
  have e1 : ∀ s w, g_clo A t how 1 s w = g_cls A t how 1 s w := fun s w => g_tell_1
  have p := g_PI_eq w'.1 hk (fun s => e1 s 0) (fun s => e1 s 1)
  exact ⟨p.1, g_PX_eq w'.2.1 w'.1.2.2.2.1 hk (fun s => e1 s 0), (g_tell_nv w'.2.2.1).1, g_fk_ww hk w'.2.2.2.1, g_ls_r p.2 w'.2.2.2.2.1, g_fk_wb hk w'.2.2.2.2.2.1, g_fk_wd hk w'.2.2.2.2.2.2.1, g_ls_I p.2 w'.2.2.2.2.2.2.2⟩
/-- a told event keeps a store's picture -/
theorem r_tell {b : Nat} {S : g_S} {A : g_A} {kd nm : Int32} (hR : g_R b S A) (hg : g_wg A) : g_R b (g_tellS S kd nm) (g_tell A kd nm) := by
  obtain ⟨rg, rt, rh, rp, rn, ri, rl, rf, rm⟩ := hR
  have hk : g_fk A (g_tell A kd nm) := g_fk_tell
  have So : ∀ t f i, t ≠ 15 → t ≠ 16 → t ≠ 17 → (g_tellS S kd nm).1 t f i = S.1 t f i := fun t f i a b c => g_tellS_t a b c
  have c23 : ∀ p, p < 6 → g_tell A kd nm 0 (23 + p) 0 = A 0 (23 + p) 0 := fun p hp => by unfold g_tell; rw [if_neg (by omega), if_neg (by omega)]
  refine ⟨⟨?_, ?_, ?_, ?_⟩, r_t_fk rt g_fs_tell hk, ?_, fun x hx => ⟨?_, ?_, fun j hj => ?_⟩, ?_, r_i_eq ri (fun t f i a b => So t f i (by omega) (by omega) (by omega)) (g_fk_0 hk (by omega)) (fun i w => g_fk_2 hk i w), r_l_tell rl hg, r_f_eq rf (fun t f i a b => So t f i (by omega) (by omega) (by omega)) (g_fk_0 hk (by omega)) (fun i w => g_fk_5 hk i w), ?_⟩
  · rw [So 1 4 0 (by omega) (by omega) (by omega), g_fk_0 hk (by omega)]; exact rg.1
  · rw [So 0 5 0 (by omega) (by omega) (by omega), g_fk_0 hk (by omega)]; exact rg.2.1
  · rw [So 0 6 0 (by omega) (by omega) (by omega), g_fk_0 hk (by omega)]; exact rg.2.2.1
  · rw [So 0 7 0 (by omega) (by omega) (by omega), g_fk_0 hk (by omega)]; exact rg.2.2.2
  · unfold r_h
    rw [So 6 5 0 (by omega) (by omega) (by omega), g_fk_hz hk]; exact rh
  · rw [So 4 0 x (by omega) (by omega) (by omega), g_fk_0 hk (by omega)]; exact (rp x hx).1
  · rw [So 5 0 x (by omega) (by omega) (by omega), c23 x hx]; exact (rp x hx).2.1
  · exact r_s_eq ((rp x hx).2.2 j hj) (fun f => So 3 f _ (by omega) (by omega) (by omega)) (g_fk_iv hk (by omega)) (fun w => g_tell_1)
  · unfold r_n
    simp only [fun f => So 3 f 60 (by omega) (by omega) (by omega)]
    exact rn
  · obtain ⟨⟨x, y, h1, h2, h3, h4, h5⟩, h6⟩ := rm
    have co : ∀ x', g_cm (g_tellS S kd nm) x' = g_cm S x' := fun x' => by unfold g_cm; rw [So 3 9 x' (by omega) (by omega) (by omega)]
    have fu : ∀ x, x < 60 → g_fu (g_tell A kd nm) x = g_fu A x := fun x hx => g_fk_kd hk hx g_tell_1
    refine ⟨⟨x, y, by rw [So 0 8 0 (by omega) (by omega) (by omega)]; exact h1, by rw [g_fk_0 hk (by omega)]; exact h2, h3, h4, fun s' hs' f => ?_⟩, fun a c ha hc fa fc => ?_⟩
    · rw [fu s' hs'] at f
      rw [co, g_fk_mm hk, So 3 9 s' (by omega) (by omega) (by omega), g_fk_1 hk (by omega)]
      exact h5 s' hs' f
    · rw [fu a ha] at fa
      rw [fu c hc] at fc
      rw [co, co, g_fk_mm hk, g_fk_mm hk]
      exact h6 a c ha hc fa fc
theorem r_cls {b : Nat} {S : g_S} {A : g_A} {t : Nat} {how : Int32} (hR : g_R b S A) (hw : g_wt A) (ht : g_tn A t) : g_R b (g_su (g_cS0 S t (g_nx A - 1) how) 6 5 0 (nI (g_hz (g_cls A t how)))) (g_cls A t how) := by
  obtain ⟨rg, rt, rh, rp, rn, ri, rl, rf, rm⟩ := hR
  have o : ∀ g i w, g ≠ 3 → g ≠ 6 → g_cls A t how g i w = A g i w := fun g i w h3 h6 => by
    unfold g_cls g_cw0
    rw [g_au_ne (by omega), if_neg (by omega)]
  have So : ∀ a f i, ¬ (6 ≤ a ∧ a ≤ 9) → (g_su (g_cS0 S t (g_nx A - 1) how) 6 5 0 (nI (g_hz (g_cls A t how)))).1 a f i = S.1 a f i := fun a f i h => by
    rw [g_su_t (by omega), g_cS0_o (by omega) (by omega)]
  have iv : ∀ x, g_iv (g_cls A t how) x = g_iv A x := fun x => by unfold g_iv g_ln; rw [o _ _ _ (by omega) (by omega)]
  have fu : ∀ x, g_fu (g_cls A t how) x = g_fu A x := fun x => by unfold g_fu; rw [iv, o _ _ _ (by omega) (by omega)]
  refine ⟨⟨?_, ?_, ?_, ?_⟩, ?_, ?_, fun x hx => ⟨?_, ?_, fun j hj => ?_⟩, ?_, r_i_eq ri (fun t f i a b => So t f i (by omega)) (o _ _ _ (by omega) (by omega)) (fun i w => o _ _ _ (by omega) (by omega)), ⟨?_, fun i hi => ?_, fun j hj => ?_⟩, r_f_eq rf (fun t f i a b => So t f i (by omega)) (o _ _ _ (by omega) (by omega)) (fun i w => o _ _ _ (by omega) (by omega)), ?_⟩
  · rw [So 1 4 0 (by omega), o _ _ _ (by omega) (by omega)]; exact rg.1
  · rw [So 0 5 0 (by omega), o _ _ _ (by omega) (by omega)]; exact rg.2.1
  · rw [So 0 6 0 (by omega), o _ _ _ (by omega) (by omega)]; exact rg.2.2.1
  · rw [So 0 7 0 (by omega), o _ _ _ (by omega) (by omega)]; exact rg.2.2.2
  · have h1 := r_t_cls (how := how) rt hw ht.1 ht.2
    refine ⟨by rw [g_su_t (by omega)]; exact h1.1, fun x a b => ?_⟩
    rw [g_su_t (by omega), g_su_t (by omega), g_su_t (by omega)]
    exact h1.2 x a b
  · unfold r_h; rw [g_su_e]
  · rw [So 4 0 x (by omega), o _ _ _ (by omega) (by omega)]; exact (rp x hx).1
  · rw [So 5 0 x (by omega), o _ _ _ (by omega) (by omega)]; exact (rp x hx).2.1
  · exact r_s_eq ((rp x hx).2.2 j hj) (fun f => So 3 f _ (by omega)) (iv _) (fun w => o _ _ _ (by omega) (by omega))
  · unfold r_n
    simp only [fun f => So 3 f 60 (by omega)]
    exact rn
  · rw [So 15 3 0 (by omega), o _ _ _ (by omega) (by omega)]; exact rl.1
  · have hn : g_nv (g_cls A t how) = g_nv A := by unfold g_nv; rw [o _ _ _ (by omega) (by omega)]
    rw [hn] at hi
    rw [So 16 0 i (by omega), So 17 0 i (by omega), o _ _ _ (by omega) (by omega), o _ _ _ (by omega) (by omega)]; exact rl.2.1 i hi
  · rw [So 18 0 j (by omega), o _ _ _ (by omega) (by omega)]; exact rl.2.2 j hj
  · obtain ⟨⟨x, y, h1, h2, h3, h4, h5⟩, h6⟩ := rm
    have co : ∀ x', g_cm (g_su (g_cS0 S t (g_nx A - 1) how) 6 5 0 (nI (g_hz (g_cls A t how)))) x' = g_cm S x' := fun x' => by unfold g_cm; rw [So 3 9 x' (by omega)]
    have mo : ∀ x', g_mm (g_cls A t how) x' = g_mm A x' := fun x' => by unfold g_mm; rw [o _ _ _ (by omega) (by omega)]
    refine ⟨⟨x, y, by rw [So 0 8 0 (by omega)]; exact h1, by rw [o _ _ _ (by omega) (by omega)]; exact h2, h3, h4, fun s' hs' f => ?_⟩, fun a c ha hc fa fc => ?_⟩
    · rw [fu] at f
      rw [co, mo, So 3 9 s' (by omega), o _ _ _ (by omega) (by omega)]
      exact h5 s' hs' f
    · rw [fu] at fa fc
      rw [co, co, mo, mo]
      exact h6 a c ha hc fa fc
theorem g_hz_lt' {A : g_A} (ht : g_wt A) : (0 : Int32) ≤ nI (g_hz A) := nI_pos' (by have := g_hz_lt ht; omega)
theorem act_commit {b : Nat} {A : g_A} {H : q_H} {a : Int32} (hW : g_W A) (hR : g_R b (g_st H 0) A) : g_act b A H (Rp_commit a H) (Mo_closeNow a 1) := by
  have wt := hW.1.1
  unfold Rp_commit
  rw [c_asFree hR.2.1 wt]
  simp only [Option.bind_some]
  by_cases c : g_free A a = 0
  · obtain ⟨t, e, t1, t2, t3, t4, t5⟩ := g_free_t wt c
    have co : g_opn A a = 0 := by
      unfold g_free at c
      by_cases z : g_opn A a = 0
      · exact z
      · rw [if_neg z] at c; exact absurd c z
    have wC := g_W_clo hW t1 t2 (Or.inl rfl : (1 : Int32) = 1 ∨ (1 : Int32) = 2)
    rw [if_pos c, e, c_end hR.2.1 wt t1.1 t1.2]
    simp only [Option.bind_some]
    rw [c_tell, g_st_cw, g_cw_cw]
    simp only [Option.bind_some]
    rw [g_cw_rd, g_tellS_t (by omega) (by omega) (by omega), g_su_e, e_answer]
    have hz : g_hz (g_clo A t 1) = g_hz (g_cls A t 1) := g_fk_hz g_fk_tell
    refine act_ans (r_tell (r_cls hR wt t1) (g_W_cls hW t1 t2 (Or.inl rfl)).2.2.1) wC (g_hz_lt' (g_cls_wt wt).1) (fun q => c1_tell (c1_eq (fun x hx => Or.inr (by unfold g_cls g_cw0; rw [g_au_ne (by omega), if_neg (by omega)])) q)) (fun h => ?_)
    rw [← e, m_closeNow hW (Or.inl rfl), if_pos co, t3, if_neg (fun q => t5 q.2), hz]
    unfold g_clo
    rw [if_pos rfl, e]
  · rw [if_neg c, e_refuse]
    refine act_ref hR hW c (fun h => ?_)
    rw [m_closeNow hW (Or.inl rfl)]
    unfold g_free at c ⊢
    by_cases z : g_opn A a = 0
    · rw [if_pos z] at c ⊢
      rw [if_pos z]
      by_cases w : 0 < A 6 a.toNatClampNeg 0
      · rw [if_pos w, if_pos ⟨rfl, w⟩]
      · rw [if_neg w] at c; exact absurd rfl c
    · rw [if_neg z, if_neg z]
theorem act_abort {b : Nat} {A : g_A} {H : q_H} {a : Int32} (hW : g_W A) (hR : g_R b (g_st H 0) A) : g_act b A H (Rp_abort a H) (Mo_closeNow a 2) := by
  have wt := hW.1.1
  unfold Rp_abort
  rw [c_asOpen hR.2.1 wt]
  simp only [Option.bind_some]
  by_cases c : g_opn A a = 0
  · obtain ⟨t, e, t1, t2, t3, t4⟩ := g_opn_t wt c
    have wC := g_W_clo hW t1 t2 (Or.inr rfl : (2 : Int32) = 1 ∨ (2 : Int32) = 2)
    rw [if_pos c, e, c_end hR.2.1 wt t1.1 t1.2]
    simp only [Option.bind_some]
    rw [c_tell, g_st_cw, g_cw_cw]
    simp only [Option.bind_some]
    rw [g_cw_rd, g_tellS_t (by omega) (by omega) (by omega), g_su_e, e_answer]
    have hz : g_hz (g_clo A t 2) = g_hz (g_cls A t 2) := g_fk_hz g_fk_tell
    refine act_ans (r_tell (r_cls hR wt t1) (g_W_cls hW t1 t2 (Or.inr rfl)).2.2.1) wC (g_hz_lt' (g_cls_wt wt).1) (fun q => c1_tell (c1_eq (fun x hx => Or.inr (by unfold g_cls g_cw0; rw [g_au_ne (by omega), if_neg (by omega)])) q)) (fun h => ?_)
    rw [← e, m_closeNow hW (Or.inr rfl), if_pos c, t3, if_neg (fun q => absurd q.1 (by decide)), hz]
    unfold g_clo
    rw [if_neg (by decide), e]
  · rw [if_neg c, e_refuse]
    exact act_ref hR hW c (fun h => by rw [m_closeNow hW (Or.inr rfl), if_neg c])
