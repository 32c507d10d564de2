def Rp_perform  (h : q_H) : Option q_H :=
  (Tx_told (0 : Int32) h).bind fun x1 => (Tx_told (1 : Int32) h).bind fun x3 => (Tx_told (2 : Int32) h).bind fun x5 => (Tx_told (3 : Int32) h).bind fun x7 => Option.bind (α := q_H) (if ((q_si h 24 6 6 0 (0 : Int32)).1 25 7 6 0) = 0 then (some ((q_si (q_si h 24 6 6 0 (0 : Int32)) 1 4 0 0 x1))) else (if ((q_si h 24 6 6 0 (0 : Int32)).1 25 7 6 0) = 1 then (some ((q_si (q_si h 24 6 6 0 (0 : Int32)) 0 5 0 0 x1))) else (if ((q_si h 24 6 6 0 (0 : Int32)).1 25 7 6 0) = 2 then (some ((q_si (q_si h 24 6 6 0 (0 : Int32)) 0 6 0 0 x1))) else (if ((q_si h 24 6 6 0 (0 : Int32)).1 25 7 6 0) = 3 then ((Rp_addFirstRow x1 x3 x5 (q_si h 24 6 6 0 (0 : Int32))).bind fun x13 => some (x13)) else (if ((q_si h 24 6 6 0 (0 : Int32)).1 25 7 6 0) = 4 then ((Rp_begin (q_si h 24 6 6 0 (0 : Int32))).bind fun x15 => some (x15.2)) else (if ((q_si h 24 6 6 0 (0 : Int32)).1 25 7 6 0) = 5 then ((Rp_insert x1 x3 x5 x7 (q_si h 24 6 6 0 (0 : Int32))).bind fun x17 => some (x17.2)) else (if ((q_si h 24 6 6 0 (0 : Int32)).1 25 7 6 0) = 6 then ((Tx_told (4 : Int32) (q_si h 24 6 6 0 (0 : Int32))).bind fun x19 => (Rp_update x1 x3 x5 x7 x19 (q_si h 24 6 6 0 (0 : Int32))).bind fun x21 => some (x21.2)) else (if ((q_si h 24 6 6 0 (0 : Int32)).1 25 7 6 0) = 7 then ((Rp_delete x1 x3 (q_si h 24 6 6 0 (0 : Int32))).bind fun x23 => some (x23.2)) else (if ((q_si h 24 6 6 0 (0 : Int32)).1 25 7 6 0) = 8 then ((Rp_commit x1 (q_si h 24 6 6 0 (0 : Int32))).bind fun x25 => some (x25.2)) else (if ((q_si h 24 6 6 0 (0 : Int32)).1 25 7 6 0) = 9 then ((Rp_abort x1 (q_si h 24 6 6 0 (0 : Int32))).bind fun x27 => some (x27.2)) else (if ((q_si h 24 6 6 0 (0 : Int32)).1 25 7 6 0) = 10 then ((Rp_prune x1 (q_si h 24 6 6 0 (0 : Int32))).bind fun x29 => some (x29.2)) else (if ((q_si h 24 6 6 0 (0 : Int32)).1 25 7 6 0) = 11 then ((Rp_vacuum (q_si h 24 6 6 0 (0 : Int32))).bind fun x31 => some (x31.2)) else (if ((q_si h 24 6 6 0 (0 : Int32)).1 25 7 6 0) = 12 then ((Rp_look x1 x3 (q_si h 24 6 6 0 (0 : Int32))).bind fun x33 => some (x33.2)) else (if ((q_si h 24 6 6 0 (0 : Int32)).1 25 7 6 0) = 13 then ((Rp_repack (q_si h 24 6 6 0 (0 : Int32))).bind fun x35 => some (x35.2)) else (some ((q_si h 24 6 6 0 (0 : Int32)))))))))))))))))) (fun p51 => if (p51.1 24 6 6 0) = 0 then (some (p51)) else (if ¬ (p51.1 25 7 6 0) = (3 : Int32) then ((Tx_blame (7 : Int32) (p51.1 25 8 6 0) p51).bind fun x52 => some (x52)) else ((Tx_blame (6 : Int32) (p51.1 25 8 6 0) p51).bind fun x54 => some (x54))))
set_option maxRecDepth 100000 in
set_option maxHeartbeats 4000000 in
theorem eRp_perform {d : Nat} (hd : 7 ≤ d)  {h : q_H} {r : q_H} (HF : Rp_perform  h = some r) : q_T d 53 [.inr (.inr (24, 6, 0))] h (none, r) := by
  obtain ⟨d, rfl⟩ : ∃ d', d = d' + 1 := ⟨d - 1, by omega⟩
  refine q_ent q_K53 rfl rfl rfl ?_
  unfold Rp_perform at HF
  obtain ⟨x1, hx2, HF⟩ := q_bind HF
  refine q_cll (m' := 126) (av := [.inr (.inr (25, 6, 0)), .inl (0 : Int32)]) (st' := []) (pc' := 8) (loc' := [some (.inr (.inr (24, 6, 0))), none, none, none, none]) (h' := h) 4 (fun _ _ => rfl) (eTx_told (by omega) hx2) ?_
  obtain ⟨x3, hx4, HF⟩ := q_bind HF
  refine q_cll (m' := 126) (av := [.inr (.inr (25, 6, 0)), .inl (1 : Int32)]) (st' := []) (pc' := 17) (loc' := [some (.inr (.inr (24, 6, 0))), some (.inl x1), none, none, none]) (h' := h) 5 (fun _ _ => rfl) (eTx_told (by omega) hx4) ?_
  obtain ⟨x5, hx6, HF⟩ := q_bind HF
  refine q_cll (m' := 126) (av := [.inr (.inr (25, 6, 0)), .inl (2 : Int32)]) (st' := []) (pc' := 26) (loc' := [some (.inr (.inr (24, 6, 0))), some (.inl x1), some (.inl x3), none, none]) (h' := h) 5 (fun _ _ => rfl) (eTx_told (by omega) hx6) ?_
  obtain ⟨x7, hx8, HF⟩ := q_bind HF
  refine q_cll (m' := 126) (av := [.inr (.inr (25, 6, 0)), .inl (3 : Int32)]) (st' := []) (pc' := 35) (loc' := [some (.inr (.inr (24, 6, 0))), some (.inl x1), some (.inl x3), some (.inl x5), none]) (h' := h) 5 (fun _ _ => rfl) (eTx_told (by omega) hx8) ?_
  obtain ⟨z9, HA10, HK11⟩ := q_bind HF
  have hP12 : ∀ p51 : q_H, (if (p51.1 24 6 6 0) = 0 then (some (p51)) else (if ¬ (p51.1 25 7 6 0) = (3 : Int32) then ((Tx_blame (7 : Int32) (p51.1 25 8 6 0) p51).bind fun x52 => some (x52)) else ((Tx_blame (6 : Int32) (p51.1 25 8 6 0) p51).bind fun x54 => some (x54))) : Option q_H) = some r → q_E d q_K53 271 [some (.inr (.inr (24, 6, 0))), some (.inl x1), some (.inl x3), some (.inl x5), some (.inl x7)] [] p51 (none, r) := by
    intro p51 HF
    refine q_br (P := (p51.1 24 6 6 0) = 0) (pcT := 310) (pcF := 278) (loc' := [some (.inr (.inr (24, 6, 0))), some (.inl x1), some (.inl x3), some (.inl x5), some (.inl x7)]) (stk' := []) (h' := p51) 3 (fun _ _ => rfl) (fun c57 => ?_) (fun c57 => ?_)
    · rw [if_pos c57] at HF
      have hz := Option.some.inj HF
      subst hz
      exact q_rtn 1 (fun _ _ => rfl)
    · rw [if_neg c57] at HF
      refine q_br (P := ¬ (p51.1 25 7 6 0) = (3 : Int32)) (pcT := 298) (pcF := 293) (loc' := [some (.inr (.inr (24, 6, 0))), some (.inl x1), some (.inl x3), some (.inl x5), some (.inl x7)]) (stk' := [.inr (.inr (25, 6, 0))]) (h' := p51) 7 (fun _ _ => rfl) (fun c56 => ?_) (fun c56 => ?_)
      · rw [if_pos c56] at HF
        obtain ⟨x52, hx53, HF⟩ := q_bind HF
        refine q_cll (m' := 125) (av := [.inr (.inr (25, 6, 0)), .inl (7 : Int32), .inl (p51.1 25 8 6 0)]) (st' := []) (pc' := 310) (loc' := [some (.inr (.inr (24, 6, 0))), some (.inl x1), some (.inl x3), some (.inl x5), some (.inl x7)]) (h' := p51) 5 (fun _ _ => rfl) (eTx_blame (by omega) hx53) ?_
        have hz := Option.some.inj HF
        subst hz
        exact q_rtn 1 (fun _ _ => rfl)
      · rw [if_neg c56] at HF
        obtain ⟨x54, hx55, HF⟩ := q_bind HF
        refine q_cll (m' := 125) (av := [.inr (.inr (25, 6, 0)), .inl (6 : Int32), .inl (p51.1 25 8 6 0)]) (st' := []) (pc' := 310) (loc' := [some (.inr (.inr (24, 6, 0))), some (.inl x1), some (.inl x3), some (.inl x5), some (.inl x7)]) (h' := p51) 6 (fun _ _ => rfl) (eTx_blame (by omega) hx55) ?_
        have hz := Option.some.inj HF
        subst hz
        exact q_rtn 1 (fun _ _ => rfl)
  replace HF := HA10
  by_cases c37 : ((q_si h 24 6 6 0 (0 : Int32)).1 25 7 6 0) = 0
  · rw [if_pos c37] at HF
    refine q_sw (o1 := 71) (pcx := 49) (pc' := 120) (loc' := [some (.inr (.inr (24, 6, 0))), some (.inl x1), some (.inl x3), some (.inl x5), some (.inl x7)]) (stk' := []) (h' := (q_si h 24 6 6 0 (0 : Int32))) 8 (fun _ _ => rfl) (q_tsI c37 rfl) rfl ?_
    refine q_blk (pc' := 271) (loc' := [some (.inr (.inr (24, 6, 0))), some (.inl x1), some (.inl x3), some (.inl x5), some (.inl x7)]) (stk' := []) (h' := (q_si (q_si h 24 6 6 0 (0 : Int32)) 1 4 0 0 x1)) 6 (fun _ _ => rfl) ?_
    have hz := Option.some.inj HF
    subst hz
    exact hP12 (q_si (q_si h 24 6 6 0 (0 : Int32)) 1 4 0 0 x1) HK11
  · rw [if_neg c37] at HF
    by_cases c38 : ((q_si h 24 6 6 0 (0 : Int32)).1 25 7 6 0) = 1
    · rw [if_pos c38] at HF
      refine q_sw (o1 := 85) (pcx := 49) (pc' := 134) (loc' := [some (.inr (.inr (24, 6, 0))), some (.inl x1), some (.inl x3), some (.inl x5), some (.inl x7)]) (stk' := []) (h' := (q_si h 24 6 6 0 (0 : Int32))) 8 (fun _ _ => rfl) (q_tsI c38 rfl) rfl ?_
      refine q_blk (pc' := 271) (loc' := [some (.inr (.inr (24, 6, 0))), some (.inl x1), some (.inl x3), some (.inl x5), some (.inl x7)]) (stk' := []) (h' := (q_si (q_si h 24 6 6 0 (0 : Int32)) 0 5 0 0 x1)) 5 (fun _ _ => rfl) ?_
      have hz := Option.some.inj HF
      subst hz
      exact hP12 (q_si (q_si h 24 6 6 0 (0 : Int32)) 0 5 0 0 x1) HK11
    · rw [if_neg c38] at HF
      by_cases c39 : ((q_si h 24 6 6 0 (0 : Int32)).1 25 7 6 0) = 2
      · rw [if_pos c39] at HF
        refine q_sw (o1 := 96) (pcx := 49) (pc' := 145) (loc' := [some (.inr (.inr (24, 6, 0))), some (.inl x1), some (.inl x3), some (.inl x5), some (.inl x7)]) (stk' := []) (h' := (q_si h 24 6 6 0 (0 : Int32))) 8 (fun _ _ => rfl) (q_tsI c39 rfl) rfl ?_
        refine q_blk (pc' := 271) (loc' := [some (.inr (.inr (24, 6, 0))), some (.inl x1), some (.inl x3), some (.inl x5), some (.inl x7)]) (stk' := []) (h' := (q_si (q_si h 24 6 6 0 (0 : Int32)) 0 6 0 0 x1)) 5 (fun _ _ => rfl) ?_
        have hz := Option.some.inj HF
        subst hz
        exact hP12 (q_si (q_si h 24 6 6 0 (0 : Int32)) 0 6 0 0 x1) HK11
      · rw [if_neg c39] at HF
        by_cases c40 : ((q_si h 24 6 6 0 (0 : Int32)).1 25 7 6 0) = 3
        · rw [if_pos c40] at HF
          refine q_sw (o1 := 107) (pcx := 49) (pc' := 156) (loc' := [some (.inr (.inr (24, 6, 0))), some (.inl x1), some (.inl x3), some (.inl x5), some (.inl x7)]) (stk' := []) (h' := (q_si h 24 6 6 0 (0 : Int32))) 8 (fun _ _ => rfl) (q_tsI c40 rfl) rfl ?_
          obtain ⟨x13, hx14, HF⟩ := q_bind HF
          refine q_cll (m' := 54) (av := [.inr (.inr (24, 6, 0)), .inl x1, .inl x3, .inl x5]) (st' := []) (pc' := 163) (loc' := [some (.inr (.inr (24, 6, 0))), some (.inl x1), some (.inl x3), some (.inl x5), some (.inl x7)]) (h' := (q_si h 24 6 6 0 (0 : Int32))) 5 (fun _ _ => rfl) (eRp_addFirstRow (by omega) hx14) ?_
          refine q_blk (pc' := 271) (loc' := [some (.inr (.inr (24, 6, 0))), some (.inl x1), some (.inl x3), some (.inl x5), some (.inl x7)]) (stk' := []) (h' := x13) 1 (fun _ _ => rfl) ?_
          have hz := Option.some.inj HF
          subst hz
          exact hP12 (x13) HK11
        · rw [if_neg c40] at HF
          by_cases c41 : ((q_si h 24 6 6 0 (0 : Int32)).1 25 7 6 0) = 4
          · rw [if_pos c41] at HF
            refine q_sw (o1 := 117) (pcx := 49) (pc' := 166) (loc' := [some (.inr (.inr (24, 6, 0))), some (.inl x1), some (.inl x3), some (.inl x5), some (.inl x7)]) (stk' := []) (h' := (q_si h 24 6 6 0 (0 : Int32))) 8 (fun _ _ => rfl) (q_tsI c41 rfl) rfl ?_
            obtain ⟨x15, hx16, HF⟩ := q_bind HF
            refine q_cll (m' := 21) (av := [.inr (.inr (24, 6, 0))]) (st' := []) (pc' := 170) (loc' := [some (.inr (.inr (24, 6, 0))), some (.inl x1), some (.inl x3), some (.inl x5), some (.inl x7)]) (h' := (q_si h 24 6 6 0 (0 : Int32))) 2 (fun _ _ => rfl) (eRp_begin (by omega) hx16) ?_
            refine q_blk (pc' := 271) (loc' := [some (.inr (.inr (24, 6, 0))), some (.inl x1), some (.inl x3), some (.inl x5), some (.inl x7)]) (stk' := []) (h' := x15.2) 2 (fun _ _ => rfl) ?_
            have hz := Option.some.inj HF
            subst hz
            exact hP12 (x15.2) HK11
          · rw [if_neg c41] at HF
            by_cases c42 : ((q_si h 24 6 6 0 (0 : Int32)).1 25 7 6 0) = 5
            · rw [if_pos c42] at HF
              refine q_sw (o1 := 125) (pcx := 49) (pc' := 174) (loc' := [some (.inr (.inr (24, 6, 0))), some (.inl x1), some (.inl x3), some (.inl x5), some (.inl x7)]) (stk' := []) (h' := (q_si h 24 6 6 0 (0 : Int32))) 8 (fun _ _ => rfl) (q_tsI c42 rfl) rfl ?_
              obtain ⟨x17, hx18, HF⟩ := q_bind HF
              refine q_cll (m' := 24) (av := [.inr (.inr (24, 6, 0)), .inl x1, .inl x3, .inl x5, .inl x7]) (st' := []) (pc' := 183) (loc' := [some (.inr (.inr (24, 6, 0))), some (.inl x1), some (.inl x3), some (.inl x5), some (.inl x7)]) (h' := (q_si h 24 6 6 0 (0 : Int32))) 6 (fun _ _ => rfl) (eRp_insert (by omega) hx18) ?_
              refine q_blk (pc' := 271) (loc' := [some (.inr (.inr (24, 6, 0))), some (.inl x1), some (.inl x3), some (.inl x5), some (.inl x7)]) (stk' := []) (h' := x17.2) 2 (fun _ _ => rfl) ?_
              have hz := Option.some.inj HF
              subst hz
              exact hP12 (x17.2) HK11
            · rw [if_neg c42] at HF
              by_cases c43 : ((q_si h 24 6 6 0 (0 : Int32)).1 25 7 6 0) = 6
              · rw [if_pos c43] at HF
                refine q_sw (o1 := 138) (pcx := 49) (pc' := 187) (loc' := [some (.inr (.inr (24, 6, 0))), some (.inl x1), some (.inl x3), some (.inl x5), some (.inl x7)]) (stk' := []) (h' := (q_si h 24 6 6 0 (0 : Int32))) 8 (fun _ _ => rfl) (q_tsI c43 rfl) rfl ?_
                obtain ⟨x19, hx20, HF⟩ := q_bind HF
                refine q_cll (m' := 126) (av := [.inr (.inr (25, 6, 0)), .inl (4 : Int32)]) (st' := [.inl x7, .inl x5, .inl x3, .inl x1, .inr (.inr (24, 6, 0))]) (pc' := 201) (loc' := [some (.inr (.inr (24, 6, 0))), some (.inl x1), some (.inl x3), some (.inl x5), some (.inl x7)]) (h' := (q_si h 24 6 6 0 (0 : Int32))) 9 (fun _ _ => rfl) (eTx_told (by omega) hx20) ?_
                obtain ⟨x21, hx22, HF⟩ := q_bind HF
                refine q_cll (m' := 25) (av := [.inr (.inr (24, 6, 0)), .inl x1, .inl x3, .inl x5, .inl x7, .inl x19]) (st' := []) (pc' := 204) (loc' := [some (.inr (.inr (24, 6, 0))), some (.inl x1), some (.inl x3), some (.inl x5), some (.inl x7)]) (h' := (q_si h 24 6 6 0 (0 : Int32))) 1 (fun _ _ => rfl) (eRp_update (by omega) hx22) ?_
                refine q_blk (pc' := 271) (loc' := [some (.inr (.inr (24, 6, 0))), some (.inl x1), some (.inl x3), some (.inl x5), some (.inl x7)]) (stk' := []) (h' := x21.2) 2 (fun _ _ => rfl) ?_
                have hz := Option.some.inj HF
                subst hz
                exact hP12 (x21.2) HK11
              · rw [if_neg c43] at HF
                by_cases c44 : ((q_si h 24 6 6 0 (0 : Int32)).1 25 7 6 0) = 7
                · rw [if_pos c44] at HF
                  refine q_sw (o1 := 159) (pcx := 49) (pc' := 208) (loc' := [some (.inr (.inr (24, 6, 0))), some (.inl x1), some (.inl x3), some (.inl x5), some (.inl x7)]) (stk' := []) (h' := (q_si h 24 6 6 0 (0 : Int32))) 8 (fun _ _ => rfl) (q_tsI c44 rfl) rfl ?_
                  obtain ⟨x23, hx24, HF⟩ := q_bind HF
                  refine q_cll (m' := 26) (av := [.inr (.inr (24, 6, 0)), .inl x1, .inl x3]) (st' := []) (pc' := 214) (loc' := [some (.inr (.inr (24, 6, 0))), some (.inl x1), some (.inl x3), some (.inl x5), some (.inl x7)]) (h' := (q_si h 24 6 6 0 (0 : Int32))) 4 (fun _ _ => rfl) (eRp_delete (by omega) hx24) ?_
                  refine q_blk (pc' := 271) (loc' := [some (.inr (.inr (24, 6, 0))), some (.inl x1), some (.inl x3), some (.inl x5), some (.inl x7)]) (stk' := []) (h' := x23.2) 2 (fun _ _ => rfl) ?_
                  have hz := Option.some.inj HF
                  subst hz
                  exact hP12 (x23.2) HK11
                · rw [if_neg c44] at HF
                  by_cases c45 : ((q_si h 24 6 6 0 (0 : Int32)).1 25 7 6 0) = 8
                  · rw [if_pos c45] at HF
                    refine q_sw (o1 := 169) (pcx := 49) (pc' := 218) (loc' := [some (.inr (.inr (24, 6, 0))), some (.inl x1), some (.inl x3), some (.inl x5), some (.inl x7)]) (stk' := []) (h' := (q_si h 24 6 6 0 (0 : Int32))) 8 (fun _ _ => rfl) (q_tsI c45 rfl) rfl ?_
                    obtain ⟨x25, hx26, HF⟩ := q_bind HF
                    refine q_cll (m' := 22) (av := [.inr (.inr (24, 6, 0)), .inl x1]) (st' := []) (pc' := 223) (loc' := [some (.inr (.inr (24, 6, 0))), some (.inl x1), some (.inl x3), some (.inl x5), some (.inl x7)]) (h' := (q_si h 24 6 6 0 (0 : Int32))) 3 (fun _ _ => rfl) (eRp_commit (by omega) hx26) ?_
                    refine q_blk (pc' := 271) (loc' := [some (.inr (.inr (24, 6, 0))), some (.inl x1), some (.inl x3), some (.inl x5), some (.inl x7)]) (stk' := []) (h' := x25.2) 2 (fun _ _ => rfl) ?_
                    have hz := Option.some.inj HF
                    subst hz
                    exact hP12 (x25.2) HK11
                  · rw [if_neg c45] at HF
                    by_cases c46 : ((q_si h 24 6 6 0 (0 : Int32)).1 25 7 6 0) = 9
                    · rw [if_pos c46] at HF
                      refine q_sw (o1 := 178) (pcx := 49) (pc' := 227) (loc' := [some (.inr (.inr (24, 6, 0))), some (.inl x1), some (.inl x3), some (.inl x5), some (.inl x7)]) (stk' := []) (h' := (q_si h 24 6 6 0 (0 : Int32))) 8 (fun _ _ => rfl) (q_tsI c46 rfl) rfl ?_
                      obtain ⟨x27, hx28, HF⟩ := q_bind HF
                      refine q_cll (m' := 23) (av := [.inr (.inr (24, 6, 0)), .inl x1]) (st' := []) (pc' := 232) (loc' := [some (.inr (.inr (24, 6, 0))), some (.inl x1), some (.inl x3), some (.inl x5), some (.inl x7)]) (h' := (q_si h 24 6 6 0 (0 : Int32))) 3 (fun _ _ => rfl) (eRp_abort (by omega) hx28) ?_
                      refine q_blk (pc' := 271) (loc' := [some (.inr (.inr (24, 6, 0))), some (.inl x1), some (.inl x3), some (.inl x5), some (.inl x7)]) (stk' := []) (h' := x27.2) 2 (fun _ _ => rfl) ?_
                      have hz := Option.some.inj HF
                      subst hz
                      exact hP12 (x27.2) HK11
                    · rw [if_neg c46] at HF
                      by_cases c47 : ((q_si h 24 6 6 0 (0 : Int32)).1 25 7 6 0) = 10
                      · rw [if_pos c47] at HF
                        refine q_sw (o1 := 187) (pcx := 49) (pc' := 236) (loc' := [some (.inr (.inr (24, 6, 0))), some (.inl x1), some (.inl x3), some (.inl x5), some (.inl x7)]) (stk' := []) (h' := (q_si h 24 6 6 0 (0 : Int32))) 8 (fun _ _ => rfl) (q_tsI c47 rfl) rfl ?_
                        obtain ⟨x29, hx30, HF⟩ := q_bind HF
                        refine q_cll (m' := 28) (av := [.inr (.inr (24, 6, 0)), .inl x1]) (st' := []) (pc' := 241) (loc' := [some (.inr (.inr (24, 6, 0))), some (.inl x1), some (.inl x3), some (.inl x5), some (.inl x7)]) (h' := (q_si h 24 6 6 0 (0 : Int32))) 3 (fun _ _ => rfl) (eRp_prune (by omega) hx30) ?_
                        refine q_blk (pc' := 271) (loc' := [some (.inr (.inr (24, 6, 0))), some (.inl x1), some (.inl x3), some (.inl x5), some (.inl x7)]) (stk' := []) (h' := x29.2) 2 (fun _ _ => rfl) ?_
                        have hz := Option.some.inj HF
                        subst hz
                        exact hP12 (x29.2) HK11
                      · rw [if_neg c47] at HF
                        by_cases c48 : ((q_si h 24 6 6 0 (0 : Int32)).1 25 7 6 0) = 11
                        · rw [if_pos c48] at HF
                          refine q_sw (o1 := 196) (pcx := 49) (pc' := 245) (loc' := [some (.inr (.inr (24, 6, 0))), some (.inl x1), some (.inl x3), some (.inl x5), some (.inl x7)]) (stk' := []) (h' := (q_si h 24 6 6 0 (0 : Int32))) 8 (fun _ _ => rfl) (q_tsI c48 rfl) rfl ?_
                          obtain ⟨x31, hx32, HF⟩ := q_bind HF
                          refine q_cll (m' := 29) (av := [.inr (.inr (24, 6, 0))]) (st' := []) (pc' := 249) (loc' := [some (.inr (.inr (24, 6, 0))), some (.inl x1), some (.inl x3), some (.inl x5), some (.inl x7)]) (h' := (q_si h 24 6 6 0 (0 : Int32))) 2 (fun _ _ => rfl) (eRp_vacuum (by omega) hx32) ?_
                          refine q_blk (pc' := 271) (loc' := [some (.inr (.inr (24, 6, 0))), some (.inl x1), some (.inl x3), some (.inl x5), some (.inl x7)]) (stk' := []) (h' := x31.2) 2 (fun _ _ => rfl) ?_
                          have hz := Option.some.inj HF
                          subst hz
                          exact hP12 (x31.2) HK11
                        · rw [if_neg c48] at HF
                          by_cases c49 : ((q_si h 24 6 6 0 (0 : Int32)).1 25 7 6 0) = 12
                          · rw [if_pos c49] at HF
                            refine q_sw (o1 := 204) (pcx := 49) (pc' := 253) (loc' := [some (.inr (.inr (24, 6, 0))), some (.inl x1), some (.inl x3), some (.inl x5), some (.inl x7)]) (stk' := []) (h' := (q_si h 24 6 6 0 (0 : Int32))) 8 (fun _ _ => rfl) (q_tsI c49 rfl) rfl ?_
                            obtain ⟨x33, hx34, HF⟩ := q_bind HF
                            refine q_cll (m' := 30) (av := [.inr (.inr (24, 6, 0)), .inl x1, .inl x3]) (st' := []) (pc' := 259) (loc' := [some (.inr (.inr (24, 6, 0))), some (.inl x1), some (.inl x3), some (.inl x5), some (.inl x7)]) (h' := (q_si h 24 6 6 0 (0 : Int32))) 4 (fun _ _ => rfl) (eRp_look (by omega) hx34) ?_
                            refine q_blk (pc' := 271) (loc' := [some (.inr (.inr (24, 6, 0))), some (.inl x1), some (.inl x3), some (.inl x5), some (.inl x7)]) (stk' := []) (h' := x33.2) 2 (fun _ _ => rfl) ?_
                            have hz := Option.some.inj HF
                            subst hz
                            exact hP12 (x33.2) HK11
                          · rw [if_neg c49] at HF
                            by_cases c50 : ((q_si h 24 6 6 0 (0 : Int32)).1 25 7 6 0) = 13
                            · rw [if_pos c50] at HF
                              refine q_sw (o1 := 214) (pcx := 49) (pc' := 263) (loc' := [some (.inr (.inr (24, 6, 0))), some (.inl x1), some (.inl x3), some (.inl x5), some (.inl x7)]) (stk' := []) (h' := (q_si h 24 6 6 0 (0 : Int32))) 8 (fun _ _ => rfl) (q_tsI c50 rfl) rfl ?_
                              obtain ⟨x35, hx36, HF⟩ := q_bind HF
                              refine q_cll (m' := 32) (av := [.inr (.inr (24, 6, 0))]) (st' := []) (pc' := 267) (loc' := [some (.inr (.inr (24, 6, 0))), some (.inl x1), some (.inl x3), some (.inl x5), some (.inl x7)]) (h' := (q_si h 24 6 6 0 (0 : Int32))) 2 (fun _ _ => rfl) (eRp_repack (by omega) hx36) ?_
                              refine q_blk (pc' := 271) (loc' := [some (.inr (.inr (24, 6, 0))), some (.inl x1), some (.inl x3), some (.inl x5), some (.inl x7)]) (stk' := []) (h' := x35.2) 2 (fun _ _ => rfl) ?_
                              have hz := Option.some.inj HF
                              subst hz
                              exact hP12 (x35.2) HK11
                            · rw [if_neg c50] at HF
                              refine q_sw (o1 := 222) (pcx := 49) (pc' := 271) (loc' := [some (.inr (.inr (24, 6, 0))), some (.inl x1), some (.inl x3), some (.inl x5), some (.inl x7)]) (stk' := []) (h' := (q_si h 24 6 6 0 (0 : Int32))) 8 (fun _ _ => rfl) (q_tsD (a := ((q_si h 24 6 6 0 (0 : Int32)).1 25 7 6 0)) (lo := 0) (hi := 13) (by have z0 := q_neI c37 (a := 0) rfl; have z1 := q_neI c38 (a := 1) rfl; have z2 := q_neI c39 (a := 2) rfl; have z3 := q_neI c40 (a := 3) rfl; have z4 := q_neI c41 (a := 4) rfl; have z5 := q_neI c42 (a := 5) rfl; have z6 := q_neI c43 (a := 6) rfl; have z7 := q_neI c44 (a := 7) rfl; have z8 := q_neI c45 (a := 8) rfl; have z9 := q_neI c46 (a := 9) rfl; have z10 := q_neI c47 (a := 10) rfl; have z11 := q_neI c48 (a := 11) rfl; have z12 := q_neI c49 (a := 12) rfl; have z13 := q_neI c50 (a := 13) rfl; omega)) rfl ?_
                              have hz := Option.some.inj HF
                              subst hz
                              exact hP12 (q_si h 24 6 6 0 (0 : Int32)) HK11
def Tx_wordRead  (h : q_H) : Option Int32 :=
  (q_lp (fun s1 : Int32 => (if (14 : Int32) ≤ s1 then (some (.inr ((-1 : Int32)))) else ((Tx_spelling s1 h).bind fun x9 => (Tx_isSpelled x9 h).bind fun x11 => if x11 = 0 then (some (.inl (s1 + (1 : Int32)))) else (some (.inr (s1)))) : Option ((Int32) ⊕ Int32))) q_fu ((0 : Int32) : Int32)).bind fun z8 => some z8
set_option maxRecDepth 100000 in
set_option maxHeartbeats 4000000 in
theorem eTx_wordRead {d : Nat} (hd : 7 ≤ d)  {h : q_H} {r : Int32} (HF : Tx_wordRead  h = some r) : q_T d 138 [.inr (.inr (25, 6, 0))] h (some (.inl r), h) := by
  obtain ⟨d, rfl⟩ : ∃ d', d = d' + 1 := ⟨d - 1, by omega⟩
  refine q_ent q_K138 rfl rfl rfl ?_
  unfold Tx_wordRead at HF
  refine q_blk (pc' := 2) (loc' := [some (.inr (.inr (25, 6, 0))), some (.inl (0 : Int32))]) (stk' := []) (h' := h) 2 (fun _ _ => rfl) ?_
  obtain ⟨r6, hl7, HK4⟩ := q_bind HF
  refine q_lpE (E := fun s1 => q_E d q_K138 2 [some (.inr (.inr (25, 6, 0))), some (.inl s1)] [] h (some (.inl r), h)) r6 (fun s1 z8 HF H12 H23 => ?_) _ _ hl7
  refine q_br (P := (14 : Int32) ≤ s1) (pcT := 27) (pcF := 8) (loc' := [some (.inr (.inr (25, 6, 0))), some (.inl s1)]) (stk' := []) (h' := h) 3 (fun _ _ => rfl) (fun c14 => ?_) (fun c14 => ?_)
  · rw [if_pos c14] at HF
    have hz := Option.some.inj HF
    subst hz
    replace HF := HK4
    rw [← H23 _ rfl] at HF
    have hz := Option.some.inj HF
    subst hz
    exact q_rtn 2 (fun _ _ => rfl)
  · rw [if_neg c14] at HF
    obtain ⟨x9, hx10, HF⟩ := q_bind HF
    refine q_cll (m' := 141) (av := [.inl s1]) (st' := [.inr (.inr (25, 6, 0))]) (pc' := 13) (loc' := [some (.inr (.inr (25, 6, 0))), some (.inl s1)]) (h' := h) 3 (fun _ _ => rfl) (eTx_spelling (by omega) hx10) ?_
    obtain ⟨x11, hx12, HF⟩ := q_bind HF
    refine q_cll (m' := 139) (av := [.inr (.inr (25, 6, 0)), .inr (.inr (60, 0, x9))]) (st' := []) (pc' := 16) (loc' := [some (.inr (.inr (25, 6, 0))), some (.inl s1)]) (h' := h) 1 (fun _ _ => rfl) (eTx_isSpelled (by omega) hx12) ?_
    refine q_br (P := x11 = 0) (pcT := 21) (pcF := 19) (loc' := [some (.inr (.inr (25, 6, 0))), some (.inl s1)]) (stk' := []) (h' := h) 1 (fun _ _ => rfl) (fun c13 => ?_) (fun c13 => ?_)
    · rw [if_pos c13] at HF
      refine q_blk (pc' := 2) (loc' := [some (.inr (.inr (25, 6, 0))), some (.inl (s1 + (1 : Int32)))]) (stk' := []) (h' := h) 2 (fun _ _ => rfl) ?_
      have hz := Option.some.inj HF
      subst hz
      exact H12 (s1 + (1 : Int32)) rfl
    · rw [if_neg c13] at HF
      have hz := Option.some.inj HF
      subst hz
      replace HF := HK4
      rw [← H23 _ rfl] at HF
      have hz := Option.some.inj HF
      subst hz
      exact q_rtn 2 (fun _ _ => rfl)
def Mo_vacuums  (h : q_H) : Option (Int32 × q_H) :=
  (q_lp (fun s1 : Int32 × q_H => (Option.bind (α := (Unit) ⊕ ((Int32 × q_H) ⊕ (q_H))) (if (6 : Int32) ≤ s1.1 then (some (.inr (.inr (s1.2)))) else (some (.inl ()))) (fun z9 => match z9 with | .inl p14 => (Mo_prunes s1.1 s1.2).bind fun x15 => some (.inl ((s1.1 + (1 : Int32)), x15.2)) | .inr z9 => some z9) : Option ((Int32 × q_H) ⊕ (q_H)))) q_fu (((0 : Int32), h) : Int32 × q_H)).bind fun p18 => (Mo_passes p18).bind fun x19 => (q_lp (fun s21 : Int32 × q_H => (Option.bind (α := (Unit) ⊕ ((Int32 × q_H) ⊕ (q_H))) (if (6 : Int32) ≤ s21.1 then (some (.inr (.inr (s21.2)))) else (some (.inl ()))) (fun z29 => match z29 with | .inl p34 => (q_lp (fun s35 : q_H => (bif q_in ((17 : Int32) + s21.1) 1644 then (Option.bind (α := (Unit) ⊕ ((q_H) ⊕ (q_H))) (if (s35.1 31 0 7 ((17 : Int32) + s21.1).toNatClampNeg) ≤ 0 then (some (.inr (.inr (s35)))) else (some (.inl ()))) (fun z43 => match z43 with | .inl p48 => bif q_in ((17 : Int32) + s21.1) 1644 then ((Mo_of ((((10 : Int32) * s21.1) + (s35.1 31 0 7 ((17 : Int32) + s21.1).toNatClampNeg)) - (1 : Int32)) (0 : Int32) s35).bind fun x49 => Option.bind (α := (Unit) ⊕ ((q_H) ⊕ (q_H))) (if ¬ x49 = 0 then (some (.inr (.inr (s35)))) else (some (.inl ()))) (fun z51 => match z51 with | .inl p56 => bif q_in ((17 : Int32) + s21.1) 1644 then (bif q_in ((17 : Int32) + s21.1) 1644 then (some (.inl (q_si s35 31 0 7 ((17 : Int32) + s21.1).toNatClampNeg ((s35.1 31 0 7 ((17 : Int32) + s21.1).toNatClampNeg) - (1 : Int32))))) else none) else none | .inr z51 => some z51)) else none | .inr z43 => some z43)) else none : Option ((q_H) ⊕ (q_H)))) q_fu (s21.2 : q_H)).bind fun p63 => some (.inl ((s21.1 + (1 : Int32)), p63)) | .inr z29 => some z29) : Option ((Int32 × q_H) ⊕ (q_H)))) q_fu (((0 : Int32), x19) : Int32 × q_H)).bind fun p65 => (Mo_horizon p65).bind fun x66 => (Mo_freezes x66 p65).bind fun x68 => (q_lp (fun s70 : Int32 × q_H => (if (6 : Int32) ≤ s70.1 then (some (.inr (((s70.2.1 30 9 7 0), s70.2)))) else ((Mo_isClear s70.1 x66 s70.2).bind fun x78 => Option.bind (α := Int32) (if x78 = 0 then (some ((0 : Int32))) else (some ((1 : Int32)))) (fun p85 => bif q_in ((23 : Int32) + s70.1) 1644 then (some (.inl ((s70.1 + (1 : Int32)), (q_si s70.2 31 0 7 ((23 : Int32) + s70.1).toNatClampNeg p85)))) else none)) : Option ((Int32 × q_H) ⊕ (Int32 × q_H)))) q_fu (((0 : Int32), x68) : Int32 × q_H)).bind fun z77 => some z77
set_option maxRecDepth 100000 in
set_option maxHeartbeats 4000000 in
theorem eMo_vacuums {d : Nat} (hd : 7 ≤ d)  {h : q_H} {r : (Int32 × q_H)} (HF : Mo_vacuums  h = some r) : q_T d 224 [.inr (.inr (30, 7, 0))] h (some (.inl r.1), r.2) := by
  obtain ⟨d, rfl⟩ : ∃ d', d = d' + 1 := ⟨d - 1, by omega⟩
  refine q_ent q_K224 rfl rfl rfl ?_
  unfold Mo_vacuums at HF
  refine q_blk (pc' := 2) (loc' := [some (.inr (.inr (30, 7, 0))), some (.inl (0 : Int32)), none]) (stk' := []) (h' := h) 2 (fun _ _ => rfl) ?_
  obtain ⟨r6, hl7, HK4⟩ := q_bind HF
  have hP5 : ∀ p18 : q_H, ((Mo_passes p18).bind fun x19 => (q_lp (fun s21 : Int32 × q_H => (Option.bind (α := (Unit) ⊕ ((Int32 × q_H) ⊕ (q_H))) (if (6 : Int32) ≤ s21.1 then (some (.inr (.inr (s21.2)))) else (some (.inl ()))) (fun z29 => match z29 with | .inl p34 => (q_lp (fun s35 : q_H => (bif q_in ((17 : Int32) + s21.1) 1644 then (Option.bind (α := (Unit) ⊕ ((q_H) ⊕ (q_H))) (if (s35.1 31 0 7 ((17 : Int32) + s21.1).toNatClampNeg) ≤ 0 then (some (.inr (.inr (s35)))) else (some (.inl ()))) (fun z43 => match z43 with | .inl p48 => bif q_in ((17 : Int32) + s21.1) 1644 then ((Mo_of ((((10 : Int32) * s21.1) + (s35.1 31 0 7 ((17 : Int32) + s21.1).toNatClampNeg)) - (1 : Int32)) (0 : Int32) s35).bind fun x49 => Option.bind (α := (Unit) ⊕ ((q_H) ⊕ (q_H))) (if ¬ x49 = 0 then (some (.inr (.inr (s35)))) else (some (.inl ()))) (fun z51 => match z51 with | .inl p56 => bif q_in ((17 : Int32) + s21.1) 1644 then (bif q_in ((17 : Int32) + s21.1) 1644 then (some (.inl (q_si s35 31 0 7 ((17 : Int32) + s21.1).toNatClampNeg ((s35.1 31 0 7 ((17 : Int32) + s21.1).toNatClampNeg) - (1 : Int32))))) else none) else none | .inr z51 => some z51)) else none | .inr z43 => some z43)) else none : Option ((q_H) ⊕ (q_H)))) q_fu (s21.2 : q_H)).bind fun p63 => some (.inl ((s21.1 + (1 : Int32)), p63)) | .inr z29 => some z29) : Option ((Int32 × q_H) ⊕ (q_H)))) q_fu (((0 : Int32), x19) : Int32 × q_H)).bind fun p65 => (Mo_horizon p65).bind fun x66 => (Mo_freezes x66 p65).bind fun x68 => (q_lp (fun s70 : Int32 × q_H => (if (6 : Int32) ≤ s70.1 then (some (.inr (((s70.2.1 30 9 7 0), s70.2)))) else ((Mo_isClear s70.1 x66 s70.2).bind fun x78 => Option.bind (α := Int32) (if x78 = 0 then (some ((0 : Int32))) else (some ((1 : Int32)))) (fun p85 => bif q_in ((23 : Int32) + s70.1) 1644 then (some (.inl ((s70.1 + (1 : Int32)), (q_si s70.2 31 0 7 ((23 : Int32) + s70.1).toNatClampNeg p85)))) else none)) : Option ((Int32 × q_H) ⊕ (Int32 × q_H)))) q_fu (((0 : Int32), x68) : Int32 × q_H)).bind fun z77 => some z77 : Option (Int32 × q_H)) = some r → q_E d q_K224 20 [some (.inr (.inr (30, 7, 0))), none, none] [] p18 (some (.inl r.1), r.2) := by
    intro p18 HF
    obtain ⟨x19, hx20, HF⟩ := q_bind HF
    refine q_cll (m' := 221) (av := [.inr (.inr (30, 7, 0))]) (st' := []) (pc' := 24) (loc' := [some (.inr (.inr (30, 7, 0))), none, none]) (h' := p18) 2 (fun _ _ => rfl) (eMo_passes (by omega) hx20) ?_
    refine q_blk (pc' := 26) (loc' := [some (.inr (.inr (30, 7, 0))), some (.inl (0 : Int32)), none]) (stk' := []) (h' := x19) 2 (fun _ _ => rfl) ?_
    obtain ⟨r26, hl27, HK24⟩ := q_bind HF
    have hP25 : ∀ p65 : q_H, ((Mo_horizon p65).bind fun x66 => (Mo_freezes x66 p65).bind fun x68 => (q_lp (fun s70 : Int32 × q_H => (if (6 : Int32) ≤ s70.1 then (some (.inr (((s70.2.1 30 9 7 0), s70.2)))) else ((Mo_isClear s70.1 x66 s70.2).bind fun x78 => Option.bind (α := Int32) (if x78 = 0 then (some ((0 : Int32))) else (some ((1 : Int32)))) (fun p85 => bif q_in ((23 : Int32) + s70.1) 1644 then (some (.inl ((s70.1 + (1 : Int32)), (q_si s70.2 31 0 7 ((23 : Int32) + s70.1).toNatClampNeg p85)))) else none)) : Option ((Int32 × q_H) ⊕ (Int32 × q_H)))) q_fu (((0 : Int32), x68) : Int32 × q_H)).bind fun z77 => some z77 : Option (Int32 × q_H)) = some r → q_E d q_K224 90 [some (.inr (.inr (30, 7, 0))), none, none] [] p65 (some (.inl r.1), r.2) := by
      intro p65 HF
      obtain ⟨x66, hx67, HF⟩ := q_bind HF
      refine q_cll (m' := 205) (av := [.inr (.inr (30, 7, 0))]) (st' := []) (pc' := 94) (loc' := [some (.inr (.inr (30, 7, 0))), none, none]) (h' := p65) 2 (fun _ _ => rfl) (eMo_horizon (by omega) hx67) ?_
      obtain ⟨x68, hx69, HF⟩ := q_bind HF
      refine q_cll (m' := 222) (av := [.inr (.inr (30, 7, 0)), .inl x66]) (st' := []) (pc' := 100) (loc' := [some (.inr (.inr (30, 7, 0))), some (.inl x66), none]) (h' := p65) 4 (fun _ _ => rfl) (eMo_freezes (by omega) hx69) ?_
      refine q_blk (pc' := 102) (loc' := [some (.inr (.inr (30, 7, 0))), some (.inl x66), some (.inl (0 : Int32))]) (stk' := []) (h' := x68) 2 (fun _ _ => rfl) ?_
      obtain ⟨r75, hl76, HK73⟩ := q_bind HF
      refine q_lpE (E := fun s70 => q_E d q_K224 102 [some (.inr (.inr (30, 7, 0))), some (.inl x66), some (.inl s70.1)] [] s70.2 (some (.inl r.1), r.2)) r75 (fun s70 z77 HF H171 H272 => ?_) _ _ hl76
      refine q_br (P := (6 : Int32) ≤ s70.1) (pcT := 137) (pcF := 108) (loc' := [some (.inr (.inr (30, 7, 0))), some (.inl x66), some (.inl s70.1)]) (stk' := []) (h' := s70.2) 3 (fun _ _ => rfl) (fun c88 => ?_) (fun c88 => ?_)
      · rw [if_pos c88] at HF
        have hz := Option.some.inj HF
        subst hz
        replace HF := HK73
        rw [← H272 _ rfl] at HF
        have hz := Option.some.inj HF
        subst hz
        exact q_rtn 3 (fun _ _ => rfl)
      · rw [if_neg c88] at HF
        obtain ⟨x78, hx79, HF⟩ := q_bind HF
        refine q_cll (m' := 223) (av := [.inr (.inr (30, 7, 0)), .inl s70.1, .inl x66]) (st' := [.inl ((23 : Int32) + s70.1), .inr (.inr (31, 7, 0))]) (pc' := 122) (loc' := [some (.inr (.inr (30, 7, 0))), some (.inl x66), some (.inl s70.1)]) (h' := s70.2) 9 (fun _ _ => rfl) (eMo_isClear (by omega) hx79) ?_
        obtain ⟨z80, HA81, HK82⟩ := q_bind HF
        have hP83 : ∀ p85 : Int32, (bif q_in ((23 : Int32) + s70.1) 1644 then (some (.inl ((s70.1 + (1 : Int32)), (q_si s70.2 31 0 7 ((23 : Int32) + s70.1).toNatClampNeg p85)))) else none : Option ((Int32 × q_H) ⊕ (Int32 × q_H))) = some z77 → q_E d q_K224 130 [some (.inr (.inr (30, 7, 0))), some (.inl x66), some (.inl s70.1)] [.inl p85, .inl ((23 : Int32) + s70.1), .inr (.inr (31, 7, 0))] s70.2 (some (.inl r.1), r.2) := by
          intro p85 HF
          obtain ⟨g86, HF⟩ := q_gF HF
          refine q_gd (pc' := 131) (loc' := [some (.inr (.inr (30, 7, 0))), some (.inl x66), some (.inl s70.1)]) (stk' := []) (h' := (q_si s70.2 31 0 7 ((23 : Int32) + s70.1).toNatClampNeg p85)) 1 (fun _ _ => rfl) g86 ?_
          refine q_blk (pc' := 102) (loc' := [some (.inr (.inr (30, 7, 0))), some (.inl x66), some (.inl (s70.1 + (1 : Int32)))]) (stk' := []) (h' := (q_si s70.2 31 0 7 ((23 : Int32) + s70.1).toNatClampNeg p85)) 2 (fun _ _ => rfl) ?_
          have hz := Option.some.inj HF
          subst hz
          exact H171 ((s70.1 + (1 : Int32)), (q_si s70.2 31 0 7 ((23 : Int32) + s70.1).toNatClampNeg p85)) rfl
        replace HF := HA81
        refine q_br (P := x78 = 0) (pcT := 129) (pcF := 125) (loc' := [some (.inr (.inr (30, 7, 0))), some (.inl x66), some (.inl s70.1)]) (stk' := [.inl ((23 : Int32) + s70.1), .inr (.inr (31, 7, 0))]) (h' := s70.2) 1 (fun _ _ => rfl) (fun c84 => ?_) (fun c84 => ?_)
        · rw [if_pos c84] at HF
          refine q_blk (pc' := 130) (loc' := [some (.inr (.inr (30, 7, 0))), some (.inl x66), some (.inl s70.1)]) (stk' := [.inl (0 : Int32), .inl ((23 : Int32) + s70.1), .inr (.inr (31, 7, 0))]) (h' := s70.2) 1 (fun _ _ => rfl) ?_
          have hz := Option.some.inj HF
          subst hz
          exact hP83 (0 : Int32) HK82
        · rw [if_neg c84] at HF
          refine q_blk (pc' := 130) (loc' := [some (.inr (.inr (30, 7, 0))), some (.inl x66), some (.inl s70.1)]) (stk' := [.inl (1 : Int32), .inl ((23 : Int32) + s70.1), .inr (.inr (31, 7, 0))]) (h' := s70.2) 2 (fun _ _ => rfl) ?_
          have hz := Option.some.inj HF
          subst hz
          exact hP83 (1 : Int32) HK82
    refine q_lpE (E := fun s21 => q_E d q_K224 26 [some (.inr (.inr (30, 7, 0))), some (.inl s21.1), none] [] s21.2 (some (.inl r.1), r.2)) r26 (fun s21 z28 HF H122 H223 => ?_) _ _ hl27
    obtain ⟨z29, HA30, HK31⟩ := q_bind HF
    have hP32 : ∀ p34 : Unit, ((q_lp (fun s35 : q_H => (bif q_in ((17 : Int32) + s21.1) 1644 then (Option.bind (α := (Unit) ⊕ ((q_H) ⊕ (q_H))) (if (s35.1 31 0 7 ((17 : Int32) + s21.1).toNatClampNeg) ≤ 0 then (some (.inr (.inr (s35)))) else (some (.inl ()))) (fun z43 => match z43 with | .inl p48 => bif q_in ((17 : Int32) + s21.1) 1644 then ((Mo_of ((((10 : Int32) * s21.1) + (s35.1 31 0 7 ((17 : Int32) + s21.1).toNatClampNeg)) - (1 : Int32)) (0 : Int32) s35).bind fun x49 => Option.bind (α := (Unit) ⊕ ((q_H) ⊕ (q_H))) (if ¬ x49 = 0 then (some (.inr (.inr (s35)))) else (some (.inl ()))) (fun z51 => match z51 with | .inl p56 => bif q_in ((17 : Int32) + s21.1) 1644 then (bif q_in ((17 : Int32) + s21.1) 1644 then (some (.inl (q_si s35 31 0 7 ((17 : Int32) + s21.1).toNatClampNeg ((s35.1 31 0 7 ((17 : Int32) + s21.1).toNatClampNeg) - (1 : Int32))))) else none) else none | .inr z51 => some z51)) else none | .inr z43 => some z43)) else none : Option ((q_H) ⊕ (q_H)))) q_fu (s21.2 : q_H)).bind fun p63 => some (.inl ((s21.1 + (1 : Int32)), p63)) : Option ((Int32 × q_H) ⊕ (q_H))) = some z28 → q_E d q_K224 32 [some (.inr (.inr (30, 7, 0))), some (.inl s21.1), none] [] s21.2 (some (.inl r.1), r.2) := by
      intro p34 HF
      obtain ⟨r40, hl41, HK38⟩ := q_bind HF
      have hP39 : ∀ p63 : q_H, (some (.inl ((s21.1 + (1 : Int32)), p63)) : Option ((Int32 × q_H) ⊕ (q_H))) = some z28 → q_E d q_K224 84 [some (.inr (.inr (30, 7, 0))), some (.inl s21.1), none] [] p63 (some (.inl r.1), r.2) := by
        intro p63 HF
        refine q_blk (pc' := 26) (loc' := [some (.inr (.inr (30, 7, 0))), some (.inl (s21.1 + (1 : Int32))), none]) (stk' := []) (h' := p63) 2 (fun _ _ => rfl) ?_
        have hz := Option.some.inj HF
        subst hz
        exact H122 ((s21.1 + (1 : Int32)), p63) rfl
      refine q_lpE (E := fun s35 => q_E d q_K224 32 [some (.inr (.inr (30, 7, 0))), some (.inl s21.1), none] [] s35 (some (.inl r.1), r.2)) r40 (fun s35 z42 HF H136 H237 => ?_) _ _ hl41
      obtain ⟨g62, HF⟩ := q_gF HF
      refine q_gd (pc' := 41) (loc' := [some (.inr (.inr (30, 7, 0))), some (.inl s21.1), none]) (stk' := [.inl (s35.1 31 0 7 ((17 : Int32) + s21.1).toNatClampNeg)]) (h' := s35) 6 (fun _ _ => rfl) g62 ?_
      obtain ⟨z43, HA44, HK45⟩ := q_bind HF
      have hP46 : ∀ p48 : Unit, (bif q_in ((17 : Int32) + s21.1) 1644 then ((Mo_of ((((10 : Int32) * s21.1) + (s35.1 31 0 7 ((17 : Int32) + s21.1).toNatClampNeg)) - (1 : Int32)) (0 : Int32) s35).bind fun x49 => Option.bind (α := (Unit) ⊕ ((q_H) ⊕ (q_H))) (if ¬ x49 = 0 then (some (.inr (.inr (s35)))) else (some (.inl ()))) (fun z51 => match z51 with | .inl p56 => bif q_in ((17 : Int32) + s21.1) 1644 then (bif q_in ((17 : Int32) + s21.1) 1644 then (some (.inl (q_si s35 31 0 7 ((17 : Int32) + s21.1).toNatClampNeg ((s35.1 31 0 7 ((17 : Int32) + s21.1).toNatClampNeg) - (1 : Int32))))) else none) else none | .inr z51 => some z51)) else none : Option ((q_H) ⊕ (q_H))) = some z42 → q_E d q_K224 44 [some (.inr (.inr (30, 7, 0))), some (.inl s21.1), none] [] s35 (some (.inl r.1), r.2) := by
        intro p48 HF
        obtain ⟨g60, HF⟩ := q_gF HF
        refine q_gd (pc' := 58) (loc' := [some (.inr (.inr (30, 7, 0))), some (.inl s21.1), none]) (stk' := [.inl (s35.1 31 0 7 ((17 : Int32) + s21.1).toNatClampNeg), .inl ((10 : Int32) * s21.1), .inr (.inr (30, 7, 0))]) (h' := s35) 10 (fun _ _ => rfl) g60 ?_
        obtain ⟨x49, hx50, HF⟩ := q_bind HF
        refine q_cll (m' := 187) (av := [.inr (.inr (30, 7, 0)), .inl ((((10 : Int32) * s21.1) + (s35.1 31 0 7 ((17 : Int32) + s21.1).toNatClampNeg)) - (1 : Int32)), .inl (0 : Int32)]) (st' := []) (pc' := 65) (loc' := [some (.inr (.inr (30, 7, 0))), some (.inl s21.1), none]) (h' := s35) 5 (fun _ _ => rfl) (eMo_of (by omega) hx50) ?_
        obtain ⟨z51, HA52, HK53⟩ := q_bind HF
        have hP54 : ∀ p56 : Unit, (bif q_in ((17 : Int32) + s21.1) 1644 then (bif q_in ((17 : Int32) + s21.1) 1644 then (some (.inl (q_si s35 31 0 7 ((17 : Int32) + s21.1).toNatClampNeg ((s35.1 31 0 7 ((17 : Int32) + s21.1).toNatClampNeg) - (1 : Int32))))) else none) else none : Option ((q_H) ⊕ (q_H))) = some z42 → q_E d q_K224 68 [some (.inr (.inr (30, 7, 0))), some (.inl s21.1), none] [] s35 (some (.inl r.1), r.2) := by
          intro p56 HF
          obtain ⟨g58, HF⟩ := q_gF HF
          refine q_gd (pc' := 78) (loc' := [some (.inr (.inr (30, 7, 0))), some (.inl s21.1), none]) (stk' := [.inl (s35.1 31 0 7 ((17 : Int32) + s21.1).toNatClampNeg), .inl ((17 : Int32) + s21.1), .inr (.inr (31, 7, 0))]) (h' := s35) 7 (fun _ _ => rfl) g58 ?_
          obtain ⟨g57, HF⟩ := q_gF HF
          refine q_gd (pc' := 81) (loc' := [some (.inr (.inr (30, 7, 0))), some (.inl s21.1), none]) (stk' := []) (h' := (q_si s35 31 0 7 ((17 : Int32) + s21.1).toNatClampNeg ((s35.1 31 0 7 ((17 : Int32) + s21.1).toNatClampNeg) - (1 : Int32)))) 3 (fun _ _ => rfl) g57 ?_
          refine q_blk (pc' := 32) (loc' := [some (.inr (.inr (30, 7, 0))), some (.inl s21.1), none]) (stk' := []) (h' := (q_si s35 31 0 7 ((17 : Int32) + s21.1).toNatClampNeg ((s35.1 31 0 7 ((17 : Int32) + s21.1).toNatClampNeg) - (1 : Int32)))) 1 (fun _ _ => rfl) ?_
          have hz := Option.some.inj HF
          subst hz
          exact H136 (q_si s35 31 0 7 ((17 : Int32) + s21.1).toNatClampNeg ((s35.1 31 0 7 ((17 : Int32) + s21.1).toNatClampNeg) - (1 : Int32))) rfl
        replace HF := HA52
        refine q_br (P := ¬ x49 = 0) (pcT := 84) (pcF := 68) (loc' := [some (.inr (.inr (30, 7, 0))), some (.inl s21.1), none]) (stk' := []) (h' := s35) 1 (fun _ _ => rfl) (fun c55 => ?_) (fun c55 => ?_)
        · rw [if_pos c55] at HF
          have hz := Option.some.inj HF
          subst hz
          replace HF := HK53
          have hz := Option.some.inj HF
          subst hz
          rw [← H237 _ rfl] at HK38
          exact hP39 (s35) HK38
        · rw [if_neg c55] at HF
          have hz := Option.some.inj HF
          subst hz
          exact hP54 () HK53
      replace HF := HA44
      refine q_br (P := (s35.1 31 0 7 ((17 : Int32) + s21.1).toNatClampNeg) ≤ 0) (pcT := 84) (pcF := 44) (loc' := [some (.inr (.inr (30, 7, 0))), some (.inl s21.1), none]) (stk' := []) (h' := s35) 1 (fun _ _ => rfl) (fun c47 => ?_) (fun c47 => ?_)
      · rw [if_pos c47] at HF
        have hz := Option.some.inj HF
        subst hz
        replace HF := HK45
        have hz := Option.some.inj HF
        subst hz
        rw [← H237 _ rfl] at HK38
        exact hP39 (s35) HK38
      · rw [if_neg c47] at HF
        have hz := Option.some.inj HF
        subst hz
        exact hP46 () HK45
    replace HF := HA30
    refine q_br (P := (6 : Int32) ≤ s21.1) (pcT := 90) (pcF := 32) (loc' := [some (.inr (.inr (30, 7, 0))), some (.inl s21.1), none]) (stk' := []) (h' := s21.2) 3 (fun _ _ => rfl) (fun c33 => ?_) (fun c33 => ?_)
    · rw [if_pos c33] at HF
      have hz := Option.some.inj HF
      subst hz
      replace HF := HK31
      have hz := Option.some.inj HF
      subst hz
      rw [← H223 _ rfl] at HK24
      exact q_wk (loc := [some (.inr (.inr (30, 7, 0))), none, none]) ⟨Or.inl rfl, ⟨Or.inr ⟨rfl, fun _ h => by cases h⟩, ⟨Or.inl rfl, trivial⟩⟩⟩ (hP25 (s21.2) HK24)
    · rw [if_neg c33] at HF
      have hz := Option.some.inj HF
      subst hz
      exact hP32 () HK31
  refine q_lpE (E := fun s1 => q_E d q_K224 2 [some (.inr (.inr (30, 7, 0))), some (.inl s1.1), none] [] s1.2 (some (.inl r.1), r.2)) r6 (fun s1 z8 HF H12 H23 => ?_) _ _ hl7
  obtain ⟨z9, HA10, HK11⟩ := q_bind HF
  have hP12 : ∀ p14 : Unit, ((Mo_prunes s1.1 s1.2).bind fun x15 => some (.inl ((s1.1 + (1 : Int32)), x15.2)) : Option ((Int32 × q_H) ⊕ (q_H))) = some z8 → q_E d q_K224 8 [some (.inr (.inr (30, 7, 0))), some (.inl s1.1), none] [] s1.2 (some (.inl r.1), r.2) := by
    intro p14 HF
    obtain ⟨x15, hx16, HF⟩ := q_bind HF
    refine q_cll (m' := 215) (av := [.inr (.inr (30, 7, 0)), .inl s1.1]) (st' := []) (pc' := 13) (loc' := [some (.inr (.inr (30, 7, 0))), some (.inl s1.1), none]) (h' := s1.2) 3 (fun _ _ => rfl) (eMo_prunes (by omega) hx16) ?_
    refine q_blk (pc' := 2) (loc' := [some (.inr (.inr (30, 7, 0))), some (.inl (s1.1 + (1 : Int32))), none]) (stk' := []) (h' := x15.2) 3 (fun _ _ => rfl) ?_
    have hz := Option.some.inj HF
    subst hz
    exact H12 ((s1.1 + (1 : Int32)), x15.2) rfl
  replace HF := HA10
  refine q_br (P := (6 : Int32) ≤ s1.1) (pcT := 20) (pcF := 8) (loc' := [some (.inr (.inr (30, 7, 0))), some (.inl s1.1), none]) (stk' := []) (h' := s1.2) 3 (fun _ _ => rfl) (fun c13 => ?_) (fun c13 => ?_)
  · rw [if_pos c13] at HF
    have hz := Option.some.inj HF
    subst hz
    replace HF := HK11
    have hz := Option.some.inj HF
    subst hz
    rw [← H23 _ rfl] at HK4
    exact q_wk (loc := [some (.inr (.inr (30, 7, 0))), none, none]) ⟨Or.inl rfl, ⟨Or.inr ⟨rfl, fun _ h => by cases h⟩, ⟨Or.inl rfl, trivial⟩⟩⟩ (hP5 (s1.2) HK4)
  · rw [if_neg c13] at HF
    have hz := Option.some.inj HF
    subst hz
    exact hP12 () HK11
def Mo_insertNow (a1 : Int32) (a2 : Int32) (a3 : Int32) (a4 : Int32) (h : q_H) : Option (Int32 × q_H) :=
  (Mo_isValue a2 a3 a4 h).bind fun x1 => if ¬ x1 = 0 then ((Mo_isTxn a1 h).bind fun x3 => if ¬ x3 = 0 then (if (h.1 31 0 7 3) = (40 : Int32) then ((Mo_refuse (3 : Int32) h).bind fun x5 => some ((x5.1, x5.2))) else (if ¬ (h.1 31 0 7 5) = (60 : Int32) then ((Mo_isOpen a1 h).bind fun x7 => if ¬ x7 = 0 then ((Mo_isWaiting a1 h).bind fun x9 => if x9 = 0 then ((Mo_firstPlace a4 h).bind fun x11 => if 0 ≤ x11 then ((Mo_inserts a1 a2 a3 a4 h).bind fun x13 => some ((x13.1, x13.2))) else ((Mo_refuse (5 : Int32) h).bind fun x15 => some ((x15.1, x15.2)))) else ((Mo_refuse (11 : Int32) h).bind fun x18 => some ((x18.1, x18.2)))) else ((Mo_refuse (4 : Int32) h).bind fun x21 => some ((x21.1, x21.2)))) else ((Mo_refuse (3 : Int32) h).bind fun x24 => some ((x24.1, x24.2))))) else ((Mo_refuse (2 : Int32) h).bind fun x28 => some ((x28.1, x28.2)))) else ((Mo_refuse (1 : Int32) h).bind fun x31 => some ((x31.1, x31.2)))
set_option maxRecDepth 100000 in
set_option maxHeartbeats 4000000 in
theorem eMo_insertNow {d : Nat} (hd : 7 ≤ d) {a1 : Int32} {a2 : Int32} {a3 : Int32} {a4 : Int32} {h : q_H} {r : (Int32 × q_H)} (HF : Mo_insertNow a1 a2 a3 a4 h = some r) : q_T d 230 [.inr (.inr (30, 7, 0)), .inl a1, .inl a2, .inl a3, .inl a4] h (some (.inl r.1), r.2) := by
  obtain ⟨d, rfl⟩ : ∃ d', d = d' + 1 := ⟨d - 1, by omega⟩
  refine q_ent q_K230 rfl rfl rfl ?_
  unfold Mo_insertNow at HF
  obtain ⟨x1, hx2, HF⟩ := q_bind HF
  refine q_cll (m' := 229) (av := [.inr (.inr (30, 7, 0)), .inl a2, .inl a3, .inl a4]) (st' := []) (pc' := 8) (loc' := [some (.inr (.inr (30, 7, 0))), some (.inl a1), some (.inl a2), some (.inl a3), some (.inl a4)]) (h' := h) 5 (fun _ _ => rfl) (eMo_isValue (by omega) hx2) ?_
  refine q_br (P := ¬ x1 = 0) (pcT := 17) (pcF := 11) (loc' := [some (.inr (.inr (30, 7, 0))), some (.inl a1), some (.inl a2), some (.inl a3), some (.inl a4)]) (stk' := []) (h' := h) 1 (fun _ _ => rfl) (fun c33 => ?_) (fun c33 => ?_)
  · rw [if_pos c33] at HF
    obtain ⟨x3, hx4, HF⟩ := q_bind HF
    refine q_cll (m' := 198) (av := [.inr (.inr (30, 7, 0)), .inl a1]) (st' := []) (pc' := 22) (loc' := [some (.inr (.inr (30, 7, 0))), some (.inl a1), some (.inl a2), some (.inl a3), some (.inl a4)]) (h' := h) 3 (fun _ _ => rfl) (eMo_isTxn (by omega) hx4) ?_
    refine q_br (P := ¬ x3 = 0) (pcT := 31) (pcF := 25) (loc' := [some (.inr (.inr (30, 7, 0))), some (.inl a1), some (.inl a2), some (.inl a3), some (.inl a4)]) (stk' := []) (h' := h) 1 (fun _ _ => rfl) (fun c30 => ?_) (fun c30 => ?_)
    · rw [if_pos c30] at HF
      refine q_br (P := (h.1 31 0 7 3) = (40 : Int32)) (pcT := 53) (pcF := 42) (loc' := [some (.inr (.inr (30, 7, 0))), some (.inl a1), some (.inl a2), some (.inl a3), some (.inl a4)]) (stk' := []) (h' := h) 6 (fun _ _ => rfl) (fun c27 => ?_) (fun c27 => ?_)
      · rw [if_pos c27] at HF
        obtain ⟨x5, hx6, HF⟩ := q_bind HF
        refine q_cll (m' := 182) (av := [.inr (.inr (30, 7, 0)), .inl (3 : Int32)]) (st' := []) (pc' := 58) (loc' := [some (.inr (.inr (30, 7, 0))), some (.inl a1), some (.inl a2), some (.inl a3), some (.inl a4)]) (h' := h) 3 (fun _ _ => rfl) (eMo_refuse (by omega) hx6) ?_
        have hz := Option.some.inj HF
        subst hz
        exact q_rtn 1 (fun _ _ => rfl)
      · rw [if_neg c27] at HF
        refine q_br (P := ¬ (h.1 31 0 7 5) = (60 : Int32)) (pcT := 59) (pcF := 53) (loc' := [some (.inr (.inr (30, 7, 0))), some (.inl a1), some (.inl a2), some (.inl a3), some (.inl a4)]) (stk' := []) (h' := h) 6 (fun _ _ => rfl) (fun c26 => ?_) (fun c26 => ?_)
        · rw [if_pos c26] at HF
          obtain ⟨x7, hx8, HF⟩ := q_bind HF
          refine q_cll (m' := 197) (av := [.inr (.inr (30, 7, 0)), .inl a1]) (st' := []) (pc' := 64) (loc' := [some (.inr (.inr (30, 7, 0))), some (.inl a1), some (.inl a2), some (.inl a3), some (.inl a4)]) (h' := h) 3 (fun _ _ => rfl) (eMo_isOpen (by omega) hx8) ?_
          refine q_br (P := ¬ x7 = 0) (pcT := 73) (pcF := 67) (loc' := [some (.inr (.inr (30, 7, 0))), some (.inl a1), some (.inl a2), some (.inl a3), some (.inl a4)]) (stk' := []) (h' := h) 1 (fun _ _ => rfl) (fun c23 => ?_) (fun c23 => ?_)
          · rw [if_pos c23] at HF
            obtain ⟨x9, hx10, HF⟩ := q_bind HF
            refine q_cll (m' := 201) (av := [.inr (.inr (30, 7, 0)), .inl a1]) (st' := []) (pc' := 78) (loc' := [some (.inr (.inr (30, 7, 0))), some (.inl a1), some (.inl a2), some (.inl a3), some (.inl a4)]) (h' := h) 3 (fun _ _ => rfl) (eMo_isWaiting (by omega) hx10) ?_
            refine q_br (P := x9 = 0) (pcT := 88) (pcF := 81) (loc' := [some (.inr (.inr (30, 7, 0))), some (.inl a1), some (.inl a2), some (.inl a3), some (.inl a4)]) (stk' := []) (h' := h) 1 (fun _ _ => rfl) (fun c20 => ?_) (fun c20 => ?_)
            · rw [if_pos c20] at HF
              obtain ⟨x11, hx12, HF⟩ := q_bind HF
              refine q_cll (m' := 194) (av := [.inr (.inr (30, 7, 0)), .inl a4]) (st' := []) (pc' := 94) (loc' := [some (.inr (.inr (30, 7, 0))), some (.inl a1), some (.inl a2), some (.inl a3), some (.inl a4)]) (h' := h) 3 (fun _ _ => rfl) (eMo_firstPlace (by omega) hx12) ?_
              refine q_br (P := 0 ≤ x11) (pcT := 105) (pcF := 97) (loc' := [some (.inr (.inr (30, 7, 0))), some (.inl a1), some (.inl a2), some (.inl a3), some (.inl a4)]) (stk' := []) (h' := h) 1 (fun _ _ => rfl) (fun c17 => ?_) (fun c17 => ?_)
              · rw [if_pos c17] at HF
                obtain ⟨x13, hx14, HF⟩ := q_bind HF
                refine q_cll (m' := 226) (av := [.inr (.inr (30, 7, 0)), .inl a1, .inl a2, .inl a3, .inl a4]) (st' := []) (pc' := 114) (loc' := [some (.inr (.inr (30, 7, 0))), some (.inl a1), some (.inl a2), some (.inl a3), some (.inl a4)]) (h' := h) 6 (fun _ _ => rfl) (eMo_inserts (by omega) hx14) ?_
                have hz := Option.some.inj HF
                subst hz
                exact q_rtn 1 (fun _ _ => rfl)
              · rw [if_neg c17] at HF
                obtain ⟨x15, hx16, HF⟩ := q_bind HF
                refine q_cll (m' := 182) (av := [.inr (.inr (30, 7, 0)), .inl (5 : Int32)]) (st' := []) (pc' := 102) (loc' := [some (.inr (.inr (30, 7, 0))), some (.inl a1), some (.inl a2), some (.inl a3), some (.inl a4)]) (h' := h) 3 (fun _ _ => rfl) (eMo_refuse (by omega) hx16) ?_
                have hz := Option.some.inj HF
                subst hz
                exact q_rtn 2 (fun _ _ => rfl)
            · rw [if_neg c20] at HF
              obtain ⟨x18, hx19, HF⟩ := q_bind HF
              refine q_cll (m' := 182) (av := [.inr (.inr (30, 7, 0)), .inl (11 : Int32)]) (st' := []) (pc' := 87) (loc' := [some (.inr (.inr (30, 7, 0))), some (.inl a1), some (.inl a2), some (.inl a3), some (.inl a4)]) (h' := h) 3 (fun _ _ => rfl) (eMo_refuse (by omega) hx19) ?_
              have hz := Option.some.inj HF
              subst hz
              exact q_rtn 1 (fun _ _ => rfl)
          · rw [if_neg c23] at HF
            obtain ⟨x21, hx22, HF⟩ := q_bind HF
            refine q_cll (m' := 182) (av := [.inr (.inr (30, 7, 0)), .inl (4 : Int32)]) (st' := []) (pc' := 72) (loc' := [some (.inr (.inr (30, 7, 0))), some (.inl a1), some (.inl a2), some (.inl a3), some (.inl a4)]) (h' := h) 3 (fun _ _ => rfl) (eMo_refuse (by omega) hx22) ?_
            have hz := Option.some.inj HF
            subst hz
            exact q_rtn 1 (fun _ _ => rfl)
        · rw [if_neg c26] at HF
          obtain ⟨x24, hx25, HF⟩ := q_bind HF
          refine q_cll (m' := 182) (av := [.inr (.inr (30, 7, 0)), .inl (3 : Int32)]) (st' := []) (pc' := 58) (loc' := [some (.inr (.inr (30, 7, 0))), some (.inl a1), some (.inl a2), some (.inl a3), some (.inl a4)]) (h' := h) 3 (fun _ _ => rfl) (eMo_refuse (by omega) hx25) ?_
          have hz := Option.some.inj HF
          subst hz
          exact q_rtn 1 (fun _ _ => rfl)
    · rw [if_neg c30] at HF
      obtain ⟨x28, hx29, HF⟩ := q_bind HF
      refine q_cll (m' := 182) (av := [.inr (.inr (30, 7, 0)), .inl (2 : Int32)]) (st' := []) (pc' := 30) (loc' := [some (.inr (.inr (30, 7, 0))), some (.inl a1), some (.inl a2), some (.inl a3), some (.inl a4)]) (h' := h) 3 (fun _ _ => rfl) (eMo_refuse (by omega) hx29) ?_
      have hz := Option.some.inj HF
      subst hz
      exact q_rtn 1 (fun _ _ => rfl)
  · rw [if_neg c33] at HF
    obtain ⟨x31, hx32, HF⟩ := q_bind HF
    refine q_cll (m' := 182) (av := [.inr (.inr (30, 7, 0)), .inl (1 : Int32)]) (st' := []) (pc' := 16) (loc' := [some (.inr (.inr (30, 7, 0))), some (.inl a1), some (.inl a2), some (.inl a3), some (.inl a4)]) (h' := h) 3 (fun _ _ => rfl) (eMo_refuse (by omega) hx32) ?_
    have hz := Option.some.inj HF
    subst hz
    exact q_rtn 1 (fun _ _ => rfl)
def Mo_updateNow (a1 : Int32) (a2 : Int32) (a3 : Int32) (a4 : Int32) (a5 : Int32) (h : q_H) : Option (Int32 × q_H) :=
  (Mo_isValue a3 a4 a5 h).bind fun x1 => if ¬ x1 = 0 then ((Mo_touched a1 a2 h).bind fun x3 => if 0 ≤ x3.1 then ((Mo_copy 31 7 32 7 x3.2).bind fun x5 => (Mo_placeIn (x3.1 / (10 : Int32)) a5 x5).bind fun x7 => Option.bind (α := Int32 × q_H) (if 0 ≤ x7 then (some ((x7, x5))) else ((Mo_prunes (x3.1 / (10 : Int32)) x5).bind fun x13 => (Mo_placeIn (x3.1 / (10 : Int32)) a5 x13.2).bind fun x15 => some ((x15, x13.2)))) (fun p18 => Option.bind (α := Int32) (if 0 ≤ p18.1 then (some (p18.1)) else ((Mo_firstPlace a5 p18.2).bind fun x23 => some (x23))) (fun p26 => Option.bind (α := Int32) (if p26 < 0 then (some ((0 : Int32))) else (if ¬ (p26 / (10 : Int32)) = (x3.1 / (10 : Int32)) then (some ((0 : Int32))) else ((Mo_of x3.1 (3 : Int32) p18.2).bind fun x31 => if ¬ x31 = a3 then (some ((0 : Int32))) else (some ((1 : Int32)))))) (fun p36 => Option.bind (α := Int32) (if 0 ≤ p26 then (if ¬ p36 = 0 then (some ((0 : Int32))) else (if ¬ (p18.2.1 31 0 7 5) = (60 : Int32) then (some ((0 : Int32))) else (some ((3 : Int32))))) else (some ((5 : Int32)))) (fun p44 => if p44 ≤ 0 then ((Mo_fills p26 a2 a3 a4 a5 a1 p36 p18.2).bind fun x45 => Option.bind (α := q_H) (if ¬ p36 = 0 then (some (x45)) else ((Mo_enters a3 p26 x45).bind fun x51 => some (x51))) (fun p54 => (Mo_endsAt x3.1 a1 (p26 / (10 : Int32)) (p26 - p26 / (10 : Int32) * (10 : Int32)) p54).bind fun x55 => if p36 = 0 then (some (((0 : Int32), x55))) else (some (((1 : Int32), x55))))) else ((Mo_copy 32 7 31 7 p18.2).bind fun x59 => (Mo_refuse p44 x59).bind fun x61 => some ((x61.1, x61.2)))))))) else (some (((-1 : Int32), x3.2)))) else ((Mo_refuse (1 : Int32) h).bind fun x69 => some ((x69.1, x69.2)))
set_option maxRecDepth 100000 in
set_option maxHeartbeats 4000000 in
theorem eMo_updateNow {d : Nat} (hd : 7 ≤ d) {a1 : Int32} {a2 : Int32} {a3 : Int32} {a4 : Int32} {a5 : Int32} {h : q_H} {r : (Int32 × q_H)} (HF : Mo_updateNow a1 a2 a3 a4 a5 h = some r) : q_T d 233 [.inr (.inr (30, 7, 0)), .inl a1, .inl a2, .inl a3, .inl a4, .inl a5] h (some (.inl r.1), r.2) := by
  obtain ⟨d, rfl⟩ : ∃ d', d = d' + 1 := ⟨d - 1, by omega⟩
  refine q_ent q_K233 rfl rfl rfl ?_
  unfold Mo_updateNow at HF
  obtain ⟨x1, hx2, HF⟩ := q_bind HF
  refine q_cll (m' := 229) (av := [.inr (.inr (30, 7, 0)), .inl a3, .inl a4, .inl a5]) (st' := []) (pc' := 9) (loc' := [some (.inr (.inr (30, 7, 0))), some (.inl a1), some (.inl a2), some (.inl a3), some (.inl a4), some (.inl a5), none, none, none, none, none]) (h' := h) 5 (fun _ _ => rfl) (eMo_isValue (by omega) hx2) ?_
  refine q_br (P := ¬ x1 = 0) (pcT := 18) (pcF := 12) (loc' := [some (.inr (.inr (30, 7, 0))), some (.inl a1), some (.inl a2), some (.inl a3), some (.inl a4), some (.inl a5), none, none, none, none, none]) (stk' := []) (h' := h) 1 (fun _ _ => rfl) (fun c71 => ?_) (fun c71 => ?_)
  · rw [if_pos c71] at HF
    obtain ⟨x3, hx4, HF⟩ := q_bind HF
    refine q_cll (m' := 232) (av := [.inr (.inr (30, 7, 0)), .inl a1, .inl a2]) (st' := []) (pc' := 24) (loc' := [some (.inr (.inr (30, 7, 0))), some (.inl a1), some (.inl a2), some (.inl a3), some (.inl a4), some (.inl a5), none, none, none, none, none]) (h' := h) 4 (fun _ _ => rfl) (eMo_touched (by omega) hx4) ?_
    refine q_br (P := 0 ≤ x3.1) (pcT := 33) (pcF := 31) (loc' := [some (.inr (.inr (30, 7, 0))), some (.inl a1), some (.inl a2), some (.inl a3), some (.inl a4), some (.inl a5), some (.inl x3.1), none, none, none, none]) (stk' := []) (h' := x3.2) 3 (fun _ _ => rfl) (fun c68 => ?_) (fun c68 => ?_)
    · rw [if_pos c68] at HF
      obtain ⟨x5, hx6, HF⟩ := q_bind HF
      refine q_cll (m' := 186) (av := [.inr (.inr (31, 7, 0)), .inr (.inr (32, 7, 0))]) (st' := []) (pc' := 44) (loc' := [some (.inr (.inr (30, 7, 0))), some (.inl a1), some (.inl a2), some (.inl a3), some (.inl a4), some (.inl a5), some (.inl x3.1), none, none, none, none]) (h' := x3.2) 5 (fun _ _ => rfl) (eMo_copy (by omega) hx6) ?_
      obtain ⟨x7, hx8, HF⟩ := q_bind HF
      refine q_cll (m' := 193) (av := [.inr (.inr (30, 7, 0)), .inl (x3.1 / (10 : Int32)), .inl a5]) (st' := []) (pc' := 59) (loc' := [some (.inr (.inr (30, 7, 0))), some (.inl a1), some (.inl a2), some (.inl a3), some (.inl a4), some (.inl a5), some (.inl x3.1), some (.inl (x3.1 / (10 : Int32))), none, none, none]) (h' := x5) 8 (fun _ _ => rfl) (eMo_placeIn (by omega) hx8) ?_
      obtain ⟨z9, HA10, HK11⟩ := q_bind HF
      have hP12 : ∀ p18 : Int32 × q_H, (Option.bind (α := Int32) (if 0 ≤ p18.1 then (some (p18.1)) else ((Mo_firstPlace a5 p18.2).bind fun x23 => some (x23))) (fun p26 => Option.bind (α := Int32) (if p26 < 0 then (some ((0 : Int32))) else (if ¬ (p26 / (10 : Int32)) = (x3.1 / (10 : Int32)) then (some ((0 : Int32))) else ((Mo_of x3.1 (3 : Int32) p18.2).bind fun x31 => if ¬ x31 = a3 then (some ((0 : Int32))) else (some ((1 : Int32)))))) (fun p36 => Option.bind (α := Int32) (if 0 ≤ p26 then (if ¬ p36 = 0 then (some ((0 : Int32))) else (if ¬ (p18.2.1 31 0 7 5) = (60 : Int32) then (some ((0 : Int32))) else (some ((3 : Int32))))) else (some ((5 : Int32)))) (fun p44 => if p44 ≤ 0 then ((Mo_fills p26 a2 a3 a4 a5 a1 p36 p18.2).bind fun x45 => Option.bind (α := q_H) (if ¬ p36 = 0 then (some (x45)) else ((Mo_enters a3 p26 x45).bind fun x51 => some (x51))) (fun p54 => (Mo_endsAt x3.1 a1 (p26 / (10 : Int32)) (p26 - p26 / (10 : Int32) * (10 : Int32)) p54).bind fun x55 => if p36 = 0 then (some (((0 : Int32), x55))) else (some (((1 : Int32), x55))))) else ((Mo_copy 32 7 31 7 p18.2).bind fun x59 => (Mo_refuse p44 x59).bind fun x61 => some ((x61.1, x61.2)))))) : Option (Int32 × q_H)) = some r → q_E d q_K233 83 [some (.inr (.inr (30, 7, 0))), some (.inl a1), some (.inl a2), some (.inl a3), some (.inl a4), some (.inl a5), some (.inl x3.1), some (.inl (x3.1 / (10 : Int32))), some (.inl p18.1), none, none] [] p18.2 (some (.inl r.1), r.2) := by
        intro p18 HF
        obtain ⟨z19, HA20, HK21⟩ := q_bind HF
        have hP22 : ∀ p26 : Int32, (Option.bind (α := Int32) (if p26 < 0 then (some ((0 : Int32))) else (if ¬ (p26 / (10 : Int32)) = (x3.1 / (10 : Int32)) then (some ((0 : Int32))) else ((Mo_of x3.1 (3 : Int32) p18.2).bind fun x31 => if ¬ x31 = a3 then (some ((0 : Int32))) else (some ((1 : Int32)))))) (fun p36 => Option.bind (α := Int32) (if 0 ≤ p26 then (if ¬ p36 = 0 then (some ((0 : Int32))) else (if ¬ (p18.2.1 31 0 7 5) = (60 : Int32) then (some ((0 : Int32))) else (some ((3 : Int32))))) else (some ((5 : Int32)))) (fun p44 => if p44 ≤ 0 then ((Mo_fills p26 a2 a3 a4 a5 a1 p36 p18.2).bind fun x45 => Option.bind (α := q_H) (if ¬ p36 = 0 then (some (x45)) else ((Mo_enters a3 p26 x45).bind fun x51 => some (x51))) (fun p54 => (Mo_endsAt x3.1 a1 (p26 / (10 : Int32)) (p26 - p26 / (10 : Int32) * (10 : Int32)) p54).bind fun x55 => if p36 = 0 then (some (((0 : Int32), x55))) else (some (((1 : Int32), x55))))) else ((Mo_copy 32 7 31 7 p18.2).bind fun x59 => (Mo_refuse p44 x59).bind fun x61 => some ((x61.1, x61.2))))) : Option (Int32 × q_H)) = some r → q_E d q_K233 96 [some (.inr (.inr (30, 7, 0))), some (.inl a1), some (.inl a2), some (.inl a3), some (.inl a4), some (.inl a5), some (.inl x3.1), some (.inl (x3.1 / (10 : Int32))), some (.inl p26), none, none] [] p18.2 (some (.inl r.1), r.2) := by
          intro p26 HF
          obtain ⟨z27, HA28, HK29⟩ := q_bind HF
          have hP30 : ∀ p36 : Int32, (Option.bind (α := Int32) (if 0 ≤ p26 then (if ¬ p36 = 0 then (some ((0 : Int32))) else (if ¬ (p18.2.1 31 0 7 5) = (60 : Int32) then (some ((0 : Int32))) else (some ((3 : Int32))))) else (some ((5 : Int32)))) (fun p44 => if p44 ≤ 0 then ((Mo_fills p26 a2 a3 a4 a5 a1 p36 p18.2).bind fun x45 => Option.bind (α := q_H) (if ¬ p36 = 0 then (some (x45)) else ((Mo_enters a3 p26 x45).bind fun x51 => some (x51))) (fun p54 => (Mo_endsAt x3.1 a1 (p26 / (10 : Int32)) (p26 - p26 / (10 : Int32) * (10 : Int32)) p54).bind fun x55 => if p36 = 0 then (some (((0 : Int32), x55))) else (some (((1 : Int32), x55))))) else ((Mo_copy 32 7 31 7 p18.2).bind fun x59 => (Mo_refuse p44 x59).bind fun x61 => some ((x61.1, x61.2)))) : Option (Int32 × q_H)) = some r → q_E d q_K233 127 [some (.inr (.inr (30, 7, 0))), some (.inl a1), some (.inl a2), some (.inl a3), some (.inl a4), some (.inl a5), some (.inl x3.1), some (.inl (x3.1 / (10 : Int32))), some (.inl p26), none, none] [.inl p36] p18.2 (some (.inl r.1), r.2) := by
            intro p36 HF
            obtain ⟨z37, HA38, HK39⟩ := q_bind HF
            have hP40 : ∀ p44 : Int32, (if p44 ≤ 0 then ((Mo_fills p26 a2 a3 a4 a5 a1 p36 p18.2).bind fun x45 => Option.bind (α := q_H) (if ¬ p36 = 0 then (some (x45)) else ((Mo_enters a3 p26 x45).bind fun x51 => some (x51))) (fun p54 => (Mo_endsAt x3.1 a1 (p26 / (10 : Int32)) (p26 - p26 / (10 : Int32) * (10 : Int32)) p54).bind fun x55 => if p36 = 0 then (some (((0 : Int32), x55))) else (some (((1 : Int32), x55))))) else ((Mo_copy 32 7 31 7 p18.2).bind fun x59 => (Mo_refuse p44 x59).bind fun x61 => some ((x61.1, x61.2))) : Option (Int32 × q_H)) = some r → q_E d q_K233 159 [some (.inr (.inr (30, 7, 0))), some (.inl a1), some (.inl a2), some (.inl a3), some (.inl a4), some (.inl a5), some (.inl x3.1), some (.inl (x3.1 / (10 : Int32))), some (.inl p26), some (.inl p36), none] [.inl p44] p18.2 (some (.inl r.1), r.2) := by
              intro p44 HF
              refine q_br (P := p44 ≤ 0) (pcT := 184) (pcF := 166) (loc' := [some (.inr (.inr (30, 7, 0))), some (.inl a1), some (.inl a2), some (.inl a3), some (.inl a4), some (.inl a5), some (.inl x3.1), some (.inl (x3.1 / (10 : Int32))), some (.inl p26), some (.inl p36), some (.inl p44)]) (stk' := []) (h' := p18.2) 3 (fun _ _ => rfl) (fun c63 => ?_) (fun c63 => ?_)
              · rw [if_pos c63] at HF
                obtain ⟨x45, hx46, HF⟩ := q_bind HF
                refine q_cll (m' := 195) (av := [.inr (.inr (30, 7, 0)), .inl p26, .inl a2, .inl a3, .inl a4, .inl a5, .inl a1, .inl p36]) (st' := []) (pc' := 199) (loc' := [some (.inr (.inr (30, 7, 0))), some (.inl a1), some (.inl a2), some (.inl a3), some (.inl a4), some (.inl a5), some (.inl x3.1), some (.inl (x3.1 / (10 : Int32))), some (.inl p26), some (.inl p36), some (.inl p44)]) (h' := p18.2) 9 (fun _ _ => rfl) (eMo_fills (by omega) hx46) ?_
                obtain ⟨z47, HA48, HK49⟩ := q_bind HF
                have hP50 : ∀ p54 : q_H, ((Mo_endsAt x3.1 a1 (p26 / (10 : Int32)) (p26 - p26 / (10 : Int32) * (10 : Int32)) p54).bind fun x55 => if p36 = 0 then (some (((0 : Int32), x55))) else (some (((1 : Int32), x55))) : Option (Int32 × q_H)) = some r → q_E d q_K233 211 [some (.inr (.inr (30, 7, 0))), some (.inl a1), some (.inl a2), some (.inl a3), some (.inl a4), some (.inl a5), some (.inl x3.1), some (.inl (x3.1 / (10 : Int32))), some (.inl p26), some (.inl p36), some (.inl p44)] [] p54 (some (.inl r.1), r.2) := by
                  intro p54 HF
                  obtain ⟨x55, hx56, HF⟩ := q_bind HF
                  refine q_cll (m' := 227) (av := [.inr (.inr (30, 7, 0)), .inl x3.1, .inl a1, .inl (p26 / (10 : Int32)), .inl (p26 - p26 / (10 : Int32) * (10 : Int32))]) (st' := []) (pc' := 228) (loc' := [some (.inr (.inr (30, 7, 0))), some (.inl a1), some (.inl a2), some (.inl a3), some (.inl a4), some (.inl a5), some (.inl x3.1), some (.inl (x3.1 / (10 : Int32))), some (.inl p26), some (.inl p36), some (.inl p44)]) (h' := p54) 10 (fun _ _ => rfl) (eMo_endsAt (by omega) hx56) ?_
                  refine q_br (P := p36 = 0) (pcT := 237) (pcF := 233) (loc' := [some (.inr (.inr (30, 7, 0))), some (.inl a1), some (.inl a2), some (.inl a3), some (.inl a4), some (.inl a5), some (.inl x3.1), some (.inl (x3.1 / (10 : Int32))), some (.inl p26), some (.inl p36), some (.inl p44)]) (stk' := []) (h' := x55) 2 (fun _ _ => rfl) (fun c57 => ?_) (fun c57 => ?_)
                  · rw [if_pos c57] at HF
                    have hz := Option.some.inj HF
                    subst hz
                    exact q_rtn 2 (fun _ _ => rfl)
                  · rw [if_neg c57] at HF
                    have hz := Option.some.inj HF
                    subst hz
                    exact q_rtn 3 (fun _ _ => rfl)
                replace HF := HA48
                refine q_br (P := ¬ p36 = 0) (pcT := 211) (pcF := 204) (loc' := [some (.inr (.inr (30, 7, 0))), some (.inl a1), some (.inl a2), some (.inl a3), some (.inl a4), some (.inl a5), some (.inl x3.1), some (.inl (x3.1 / (10 : Int32))), some (.inl p26), some (.inl p36), some (.inl p44)]) (stk' := []) (h' := x45) 2 (fun _ _ => rfl) (fun c53 => ?_) (fun c53 => ?_)
                · rw [if_pos c53] at HF
                  have hz := Option.some.inj HF
                  subst hz
                  exact hP50 (x45) HK49
                · rw [if_neg c53] at HF
                  obtain ⟨x51, hx52, HF⟩ := q_bind HF
                  refine q_cll (m' := 218) (av := [.inr (.inr (30, 7, 0)), .inl a3, .inl p26]) (st' := []) (pc' := 211) (loc' := [some (.inr (.inr (30, 7, 0))), some (.inl a1), some (.inl a2), some (.inl a3), some (.inl a4), some (.inl a5), some (.inl x3.1), some (.inl (x3.1 / (10 : Int32))), some (.inl p26), some (.inl p36), some (.inl p44)]) (h' := x45) 4 (fun _ _ => rfl) (eMo_enters (by omega) hx52) ?_
                  have hz := Option.some.inj HF
                  subst hz
                  exact hP50 (x51) HK49
              · rw [if_neg c63] at HF
                obtain ⟨x59, hx60, HF⟩ := q_bind HF
                refine q_cll (m' := 186) (av := [.inr (.inr (32, 7, 0)), .inr (.inr (31, 7, 0))]) (st' := []) (pc' := 177) (loc' := [some (.inr (.inr (30, 7, 0))), some (.inl a1), some (.inl a2), some (.inl a3), some (.inl a4), some (.inl a5), some (.inl x3.1), some (.inl (x3.1 / (10 : Int32))), some (.inl p26), some (.inl p36), some (.inl p44)]) (h' := p18.2) 5 (fun _ _ => rfl) (eMo_copy (by omega) hx60) ?_
                obtain ⟨x61, hx62, HF⟩ := q_bind HF
                refine q_cll (m' := 182) (av := [.inr (.inr (30, 7, 0)), .inl p44]) (st' := []) (pc' := 183) (loc' := [some (.inr (.inr (30, 7, 0))), some (.inl a1), some (.inl a2), some (.inl a3), some (.inl a4), some (.inl a5), some (.inl x3.1), some (.inl (x3.1 / (10 : Int32))), some (.inl p26), some (.inl p36), some (.inl p44)]) (h' := x59) 3 (fun _ _ => rfl) (eMo_refuse (by omega) hx62) ?_
                have hz := Option.some.inj HF
                subst hz
                exact q_rtn 1 (fun _ _ => rfl)
            replace HF := HA38
            refine q_br (P := 0 ≤ p26) (pcT := 138) (pcF := 134) (loc' := [some (.inr (.inr (30, 7, 0))), some (.inl a1), some (.inl a2), some (.inl a3), some (.inl a4), some (.inl a5), some (.inl x3.1), some (.inl (x3.1 / (10 : Int32))), some (.inl p26), some (.inl p36), none]) (stk' := []) (h' := p18.2) 3 (fun _ _ => rfl) (fun c43 => ?_) (fun c43 => ?_)
            · rw [if_pos c43] at HF
              refine q_br (P := ¬ p36 = 0) (pcT := 158) (pcF := 143) (loc' := [some (.inr (.inr (30, 7, 0))), some (.inl a1), some (.inl a2), some (.inl a3), some (.inl a4), some (.inl a5), some (.inl x3.1), some (.inl (x3.1 / (10 : Int32))), some (.inl p26), some (.inl p36), none]) (stk' := []) (h' := p18.2) 2 (fun _ _ => rfl) (fun c42 => ?_) (fun c42 => ?_)
              · rw [if_pos c42] at HF
                refine q_blk (pc' := 159) (loc' := [some (.inr (.inr (30, 7, 0))), some (.inl a1), some (.inl a2), some (.inl a3), some (.inl a4), some (.inl a5), some (.inl x3.1), some (.inl (x3.1 / (10 : Int32))), some (.inl p26), some (.inl p36), none]) (stk' := [.inl (0 : Int32)]) (h' := p18.2) 1 (fun _ _ => rfl) ?_
                have hz := Option.some.inj HF
                subst hz
                exact hP40 (0 : Int32) HK39
              · rw [if_neg c42] at HF
                refine q_br (P := ¬ (p18.2.1 31 0 7 5) = (60 : Int32)) (pcT := 158) (pcF := 154) (loc' := [some (.inr (.inr (30, 7, 0))), some (.inl a1), some (.inl a2), some (.inl a3), some (.inl a4), some (.inl a5), some (.inl x3.1), some (.inl (x3.1 / (10 : Int32))), some (.inl p26), some (.inl p36), none]) (stk' := []) (h' := p18.2) 6 (fun _ _ => rfl) (fun c41 => ?_) (fun c41 => ?_)
                · rw [if_pos c41] at HF
                  refine q_blk (pc' := 159) (loc' := [some (.inr (.inr (30, 7, 0))), some (.inl a1), some (.inl a2), some (.inl a3), some (.inl a4), some (.inl a5), some (.inl x3.1), some (.inl (x3.1 / (10 : Int32))), some (.inl p26), some (.inl p36), none]) (stk' := [.inl (0 : Int32)]) (h' := p18.2) 1 (fun _ _ => rfl) ?_
                  have hz := Option.some.inj HF
                  subst hz
                  exact hP40 (0 : Int32) HK39
                · rw [if_neg c41] at HF
                  refine q_blk (pc' := 159) (loc' := [some (.inr (.inr (30, 7, 0))), some (.inl a1), some (.inl a2), some (.inl a3), some (.inl a4), some (.inl a5), some (.inl x3.1), some (.inl (x3.1 / (10 : Int32))), some (.inl p26), some (.inl p36), none]) (stk' := [.inl (3 : Int32)]) (h' := p18.2) 2 (fun _ _ => rfl) ?_
                  have hz := Option.some.inj HF
                  subst hz
                  exact hP40 (3 : Int32) HK39
            · rw [if_neg c43] at HF
              refine q_blk (pc' := 159) (loc' := [some (.inr (.inr (30, 7, 0))), some (.inl a1), some (.inl a2), some (.inl a3), some (.inl a4), some (.inl a5), some (.inl x3.1), some (.inl (x3.1 / (10 : Int32))), some (.inl p26), some (.inl p36), none]) (stk' := [.inl (5 : Int32)]) (h' := p18.2) 2 (fun _ _ => rfl) ?_
              have hz := Option.some.inj HF
              subst hz
              exact hP40 (5 : Int32) HK39
          replace HF := HA28
          refine q_br (P := p26 < 0) (pcT := 126) (pcF := 101) (loc' := [some (.inr (.inr (30, 7, 0))), some (.inl a1), some (.inl a2), some (.inl a3), some (.inl a4), some (.inl a5), some (.inl x3.1), some (.inl (x3.1 / (10 : Int32))), some (.inl p26), none, none]) (stk' := []) (h' := p18.2) 2 (fun _ _ => rfl) (fun c35 => ?_) (fun c35 => ?_)
          · rw [if_pos c35] at HF
            refine q_blk (pc' := 127) (loc' := [some (.inr (.inr (30, 7, 0))), some (.inl a1), some (.inl a2), some (.inl a3), some (.inl a4), some (.inl a5), some (.inl x3.1), some (.inl (x3.1 / (10 : Int32))), some (.inl p26), none, none]) (stk' := [.inl (0 : Int32)]) (h' := p18.2) 1 (fun _ _ => rfl) ?_
            have hz := Option.some.inj HF
            subst hz
            exact hP30 (0 : Int32) HK29
          · rw [if_neg c35] at HF
            refine q_br (P := ¬ (p26 / (10 : Int32)) = (x3.1 / (10 : Int32))) (pcT := 126) (pcF := 111) (loc' := [some (.inr (.inr (30, 7, 0))), some (.inl a1), some (.inl a2), some (.inl a3), some (.inl a4), some (.inl a5), some (.inl x3.1), some (.inl (x3.1 / (10 : Int32))), some (.inl p26), none, none]) (stk' := []) (h' := p18.2) 5 (fun _ _ => rfl) (fun c34 => ?_) (fun c34 => ?_)
            · rw [if_pos c34] at HF
              refine q_blk (pc' := 127) (loc' := [some (.inr (.inr (30, 7, 0))), some (.inl a1), some (.inl a2), some (.inl a3), some (.inl a4), some (.inl a5), some (.inl x3.1), some (.inl (x3.1 / (10 : Int32))), some (.inl p26), none, none]) (stk' := [.inl (0 : Int32)]) (h' := p18.2) 1 (fun _ _ => rfl) ?_
              have hz := Option.some.inj HF
              subst hz
              exact hP30 (0 : Int32) HK29
            · rw [if_neg c34] at HF
              obtain ⟨x31, hx32, HF⟩ := q_bind HF
              refine q_cll (m' := 187) (av := [.inr (.inr (30, 7, 0)), .inl x3.1, .inl (3 : Int32)]) (st' := []) (pc' := 118) (loc' := [some (.inr (.inr (30, 7, 0))), some (.inl a1), some (.inl a2), some (.inl a3), some (.inl a4), some (.inl a5), some (.inl x3.1), some (.inl (x3.1 / (10 : Int32))), some (.inl p26), none, none]) (h' := p18.2) 4 (fun _ _ => rfl) (eMo_of (by omega) hx32) ?_
              refine q_br (P := ¬ x31 = a3) (pcT := 126) (pcF := 122) (loc' := [some (.inr (.inr (30, 7, 0))), some (.inl a1), some (.inl a2), some (.inl a3), some (.inl a4), some (.inl a5), some (.inl x3.1), some (.inl (x3.1 / (10 : Int32))), some (.inl p26), none, none]) (stk' := []) (h' := p18.2) 2 (fun _ _ => rfl) (fun c33 => ?_) (fun c33 => ?_)
              · rw [if_pos c33] at HF
                refine q_blk (pc' := 127) (loc' := [some (.inr (.inr (30, 7, 0))), some (.inl a1), some (.inl a2), some (.inl a3), some (.inl a4), some (.inl a5), some (.inl x3.1), some (.inl (x3.1 / (10 : Int32))), some (.inl p26), none, none]) (stk' := [.inl (0 : Int32)]) (h' := p18.2) 1 (fun _ _ => rfl) ?_
                have hz := Option.some.inj HF
                subst hz
                exact hP30 (0 : Int32) HK29
              · rw [if_neg c33] at HF
                refine q_blk (pc' := 127) (loc' := [some (.inr (.inr (30, 7, 0))), some (.inl a1), some (.inl a2), some (.inl a3), some (.inl a4), some (.inl a5), some (.inl x3.1), some (.inl (x3.1 / (10 : Int32))), some (.inl p26), none, none]) (stk' := [.inl (1 : Int32)]) (h' := p18.2) 2 (fun _ _ => rfl) ?_
                have hz := Option.some.inj HF
                subst hz
                exact hP30 (1 : Int32) HK29
        replace HF := HA20
        refine q_br (P := 0 ≤ p18.1) (pcT := 96) (pcF := 88) (loc' := [some (.inr (.inr (30, 7, 0))), some (.inl a1), some (.inl a2), some (.inl a3), some (.inl a4), some (.inl a5), some (.inl x3.1), some (.inl (x3.1 / (10 : Int32))), some (.inl p18.1), none, none]) (stk' := []) (h' := p18.2) 2 (fun _ _ => rfl) (fun c25 => ?_) (fun c25 => ?_)
        · rw [if_pos c25] at HF
          have hz := Option.some.inj HF
          subst hz
          exact hP22 (p18.1) HK21
        · rw [if_neg c25] at HF
          obtain ⟨x23, hx24, HF⟩ := q_bind HF
          refine q_cll (m' := 194) (av := [.inr (.inr (30, 7, 0)), .inl a5]) (st' := []) (pc' := 94) (loc' := [some (.inr (.inr (30, 7, 0))), some (.inl a1), some (.inl a2), some (.inl a3), some (.inl a4), some (.inl a5), some (.inl x3.1), some (.inl (x3.1 / (10 : Int32))), some (.inl p18.1), none, none]) (h' := p18.2) 3 (fun _ _ => rfl) (eMo_firstPlace (by omega) hx24) ?_
          refine q_blk (pc' := 96) (loc' := [some (.inr (.inr (30, 7, 0))), some (.inl a1), some (.inl a2), some (.inl a3), some (.inl a4), some (.inl a5), some (.inl x3.1), some (.inl (x3.1 / (10 : Int32))), some (.inl x23), none, none]) (stk' := []) (h' := p18.2) 1 (fun _ _ => rfl) ?_
          have hz := Option.some.inj HF
          subst hz
          exact hP22 (x23) HK21
      replace HF := HA10
      refine q_br (P := 0 ≤ x7) (pcT := 83) (pcF := 66) (loc' := [some (.inr (.inr (30, 7, 0))), some (.inl a1), some (.inl a2), some (.inl a3), some (.inl a4), some (.inl a5), some (.inl x3.1), some (.inl (x3.1 / (10 : Int32))), some (.inl x7), none, none]) (stk' := []) (h' := x5) 3 (fun _ _ => rfl) (fun c17 => ?_) (fun c17 => ?_)
      · rw [if_pos c17] at HF
        have hz := Option.some.inj HF
        subst hz
        exact hP12 (x7, x5) HK11
      · rw [if_neg c17] at HF
        obtain ⟨x13, hx14, HF⟩ := q_bind HF
        refine q_cll (m' := 215) (av := [.inr (.inr (30, 7, 0)), .inl (x3.1 / (10 : Int32))]) (st' := []) (pc' := 72) (loc' := [some (.inr (.inr (30, 7, 0))), some (.inl a1), some (.inl a2), some (.inl a3), some (.inl a4), some (.inl a5), some (.inl x3.1), some (.inl (x3.1 / (10 : Int32))), some (.inl x7), none, none]) (h' := x5) 3 (fun _ _ => rfl) (eMo_prunes (by omega) hx14) ?_
        obtain ⟨x15, hx16, HF⟩ := q_bind HF
        refine q_cll (m' := 193) (av := [.inr (.inr (30, 7, 0)), .inl (x3.1 / (10 : Int32)), .inl a5]) (st' := []) (pc' := 81) (loc' := [some (.inr (.inr (30, 7, 0))), some (.inl a1), some (.inl a2), some (.inl a3), some (.inl a4), some (.inl a5), some (.inl x3.1), some (.inl (x3.1 / (10 : Int32))), some (.inl x7), none, none]) (h' := x13.2) 5 (fun _ _ => rfl) (eMo_placeIn (by omega) hx16) ?_
        refine q_blk (pc' := 83) (loc' := [some (.inr (.inr (30, 7, 0))), some (.inl a1), some (.inl a2), some (.inl a3), some (.inl a4), some (.inl a5), some (.inl x3.1), some (.inl (x3.1 / (10 : Int32))), some (.inl x15), none, none]) (stk' := []) (h' := x13.2) 1 (fun _ _ => rfl) ?_
        have hz := Option.some.inj HF
        subst hz
        exact hP12 (x15, x13.2) HK11
    · rw [if_neg c68] at HF
      have hz := Option.some.inj HF
      subst hz
      exact q_rtn 2 (fun _ _ => rfl)
  · rw [if_neg c71] at HF
    obtain ⟨x69, hx70, HF⟩ := q_bind HF
    refine q_cll (m' := 182) (av := [.inr (.inr (30, 7, 0)), .inl (1 : Int32)]) (st' := []) (pc' := 17) (loc' := [some (.inr (.inr (30, 7, 0))), some (.inl a1), some (.inl a2), some (.inl a3), some (.inl a4), some (.inl a5), none, none, none, none, none]) (h' := h) 3 (fun _ _ => rfl) (eMo_refuse (by omega) hx70) ?_
    have hz := Option.some.inj HF
    subst hz
    exact q_rtn 1 (fun _ _ => rfl)
def Mo_pruneNow (a1 : Int32) (h : q_H) : Option (Int32 × q_H) :=
  (Mo_isIn a1 (0 : Int32) (5 : Int32) h).bind fun x1 => if x1 = 0 then ((Mo_refuse (2 : Int32) h).bind fun x3 => some ((x3.1, x3.2))) else ((Mo_prunes a1 h).bind fun x5 => some ((x5.1, x5.2)))
set_option maxRecDepth 100000 in
set_option maxHeartbeats 4000000 in
theorem eMo_pruneNow {d : Nat} (hd : 7 ≤ d) {a1 : Int32} {h : q_H} {r : (Int32 × q_H)} (HF : Mo_pruneNow a1 h = some r) : q_T d 238 [.inr (.inr (30, 7, 0)), .inl a1] h (some (.inl r.1), r.2) := by
  obtain ⟨d, rfl⟩ : ∃ d', d = d' + 1 := ⟨d - 1, by omega⟩
  refine q_ent q_K238 rfl rfl rfl ?_
  unfold Mo_pruneNow at HF
  obtain ⟨x1, hx2, HF⟩ := q_bind HF
  refine q_cll (m' := 184) (av := [.inl a1, .inl (0 : Int32), .inl (5 : Int32)]) (st' := []) (pc' := 6) (loc' := [some (.inr (.inr (30, 7, 0))), some (.inl a1)]) (h' := h) 4 (fun _ _ => rfl) (eMo_isIn (by omega) hx2) ?_
  refine q_br (P := x1 = 0) (pcT := 17) (pcF := 9) (loc' := [some (.inr (.inr (30, 7, 0))), some (.inl a1)]) (stk' := []) (h' := h) 1 (fun _ _ => rfl) (fun c7 => ?_) (fun c7 => ?_)
  · rw [if_pos c7] at HF
    obtain ⟨x3, hx4, HF⟩ := q_bind HF
    refine q_cll (m' := 182) (av := [.inr (.inr (30, 7, 0)), .inl (2 : Int32)]) (st' := []) (pc' := 22) (loc' := [some (.inr (.inr (30, 7, 0))), some (.inl a1)]) (h' := h) 3 (fun _ _ => rfl) (eMo_refuse (by omega) hx4) ?_
    have hz := Option.some.inj HF
    subst hz
    exact q_rtn 1 (fun _ _ => rfl)
  · rw [if_neg c7] at HF
    obtain ⟨x5, hx6, HF⟩ := q_bind HF
    refine q_cll (m' := 215) (av := [.inr (.inr (30, 7, 0)), .inl a1]) (st' := []) (pc' := 14) (loc' := [some (.inr (.inr (30, 7, 0))), some (.inl a1)]) (h' := h) 3 (fun _ _ => rfl) (eMo_prunes (by omega) hx6) ?_
    have hz := Option.some.inj HF
    subst hz
    exact q_rtn 2 (fun _ _ => rfl)
def Mo_lookNow (a1 : Int32) (a2 : Int32) (h : q_H) : Option (Int32 × q_H) :=
  (Mo_isIn a2 (0 : Int32) (99 : Int32) h).bind fun x1 => if ¬ x1 = 0 then ((Mo_isTxn a1 h).bind fun x3 => if ¬ x3 = 0 then ((Mo_isOpen a1 h).bind fun x5 => if ¬ x5 = 0 then ((Mo_isWaiting a1 h).bind fun x7 => if x7 = 0 then ((Mo_looks a1 a2 h).bind fun x9 => some ((x9.1, x9.2))) else ((Mo_refuse (11 : Int32) h).bind fun x11 => some ((x11.1, x11.2)))) else ((Mo_refuse (4 : Int32) h).bind fun x14 => some ((x14.1, x14.2)))) else ((Mo_refuse (2 : Int32) h).bind fun x17 => some ((x17.1, x17.2)))) else ((Mo_refuse (1 : Int32) h).bind fun x20 => some ((x20.1, x20.2)))
set_option maxRecDepth 100000 in
set_option maxHeartbeats 4000000 in
theorem eMo_lookNow {d : Nat} (hd : 7 ≤ d) {a1 : Int32} {a2 : Int32} {h : q_H} {r : (Int32 × q_H)} (HF : Mo_lookNow a1 a2 h = some r) : q_T d 239 [.inr (.inr (30, 7, 0)), .inl a1, .inl a2] h (some (.inl r.1), r.2) := by
  obtain ⟨d, rfl⟩ : ∃ d', d = d' + 1 := ⟨d - 1, by omega⟩
  refine q_ent q_K239 rfl rfl rfl ?_
  unfold Mo_lookNow at HF
  obtain ⟨x1, hx2, HF⟩ := q_bind HF
  refine q_cll (m' := 184) (av := [.inl a2, .inl (0 : Int32), .inl (99 : Int32)]) (st' := []) (pc' := 7) (loc' := [some (.inr (.inr (30, 7, 0))), some (.inl a1), some (.inl a2)]) (h' := h) 4 (fun _ _ => rfl) (eMo_isIn (by omega) hx2) ?_
  refine q_br (P := ¬ x1 = 0) (pcT := 16) (pcF := 10) (loc' := [some (.inr (.inr (30, 7, 0))), some (.inl a1), some (.inl a2)]) (stk' := []) (h' := h) 1 (fun _ _ => rfl) (fun c22 => ?_) (fun c22 => ?_)
  · rw [if_pos c22] at HF
    obtain ⟨x3, hx4, HF⟩ := q_bind HF
    refine q_cll (m' := 198) (av := [.inr (.inr (30, 7, 0)), .inl a1]) (st' := []) (pc' := 21) (loc' := [some (.inr (.inr (30, 7, 0))), some (.inl a1), some (.inl a2)]) (h' := h) 3 (fun _ _ => rfl) (eMo_isTxn (by omega) hx4) ?_
    refine q_br (P := ¬ x3 = 0) (pcT := 30) (pcF := 24) (loc' := [some (.inr (.inr (30, 7, 0))), some (.inl a1), some (.inl a2)]) (stk' := []) (h' := h) 1 (fun _ _ => rfl) (fun c19 => ?_) (fun c19 => ?_)
    · rw [if_pos c19] at HF
      obtain ⟨x5, hx6, HF⟩ := q_bind HF
      refine q_cll (m' := 197) (av := [.inr (.inr (30, 7, 0)), .inl a1]) (st' := []) (pc' := 35) (loc' := [some (.inr (.inr (30, 7, 0))), some (.inl a1), some (.inl a2)]) (h' := h) 3 (fun _ _ => rfl) (eMo_isOpen (by omega) hx6) ?_
      refine q_br (P := ¬ x5 = 0) (pcT := 44) (pcF := 38) (loc' := [some (.inr (.inr (30, 7, 0))), some (.inl a1), some (.inl a2)]) (stk' := []) (h' := h) 1 (fun _ _ => rfl) (fun c16 => ?_) (fun c16 => ?_)
      · rw [if_pos c16] at HF
        obtain ⟨x7, hx8, HF⟩ := q_bind HF
        refine q_cll (m' := 201) (av := [.inr (.inr (30, 7, 0)), .inl a1]) (st' := []) (pc' := 49) (loc' := [some (.inr (.inr (30, 7, 0))), some (.inl a1), some (.inl a2)]) (h' := h) 3 (fun _ _ => rfl) (eMo_isWaiting (by omega) hx8) ?_
        refine q_br (P := x7 = 0) (pcT := 61) (pcF := 52) (loc' := [some (.inr (.inr (30, 7, 0))), some (.inl a1), some (.inl a2)]) (stk' := []) (h' := h) 1 (fun _ _ => rfl) (fun c13 => ?_) (fun c13 => ?_)
        · rw [if_pos c13] at HF
          obtain ⟨x9, hx10, HF⟩ := q_bind HF
          refine q_cll (m' := 240) (av := [.inr (.inr (30, 7, 0)), .inl a1, .inl a2]) (st' := []) (pc' := 67) (loc' := [some (.inr (.inr (30, 7, 0))), some (.inl a1), some (.inl a2)]) (h' := h) 4 (fun _ _ => rfl) (eMo_looks (by omega) hx10) ?_
          have hz := Option.some.inj HF
          subst hz
          exact q_rtn 1 (fun _ _ => rfl)
        · rw [if_neg c13] at HF
          obtain ⟨x11, hx12, HF⟩ := q_bind HF
          refine q_cll (m' := 182) (av := [.inr (.inr (30, 7, 0)), .inl (11 : Int32)]) (st' := []) (pc' := 58) (loc' := [some (.inr (.inr (30, 7, 0))), some (.inl a1), some (.inl a2)]) (h' := h) 3 (fun _ _ => rfl) (eMo_refuse (by omega) hx12) ?_
          have hz := Option.some.inj HF
          subst hz
          exact q_rtn 2 (fun _ _ => rfl)
      · rw [if_neg c16] at HF
        obtain ⟨x14, hx15, HF⟩ := q_bind HF
        refine q_cll (m' := 182) (av := [.inr (.inr (30, 7, 0)), .inl (4 : Int32)]) (st' := []) (pc' := 43) (loc' := [some (.inr (.inr (30, 7, 0))), some (.inl a1), some (.inl a2)]) (h' := h) 3 (fun _ _ => rfl) (eMo_refuse (by omega) hx15) ?_
        have hz := Option.some.inj HF
        subst hz
        exact q_rtn 1 (fun _ _ => rfl)
    · rw [if_neg c19] at HF
      obtain ⟨x17, hx18, HF⟩ := q_bind HF
      refine q_cll (m' := 182) (av := [.inr (.inr (30, 7, 0)), .inl (2 : Int32)]) (st' := []) (pc' := 29) (loc' := [some (.inr (.inr (30, 7, 0))), some (.inl a1), some (.inl a2)]) (h' := h) 3 (fun _ _ => rfl) (eMo_refuse (by omega) hx18) ?_
      have hz := Option.some.inj HF
      subst hz
      exact q_rtn 1 (fun _ _ => rfl)
  · rw [if_neg c22] at HF
    obtain ⟨x20, hx21, HF⟩ := q_bind HF
    refine q_cll (m' := 182) (av := [.inr (.inr (30, 7, 0)), .inl (1 : Int32)]) (st' := []) (pc' := 15) (loc' := [some (.inr (.inr (30, 7, 0))), some (.inl a1), some (.inl a2)]) (h' := h) 3 (fun _ _ => rfl) (eMo_refuse (by omega) hx21) ?_
    have hz := Option.some.inj HF
    subst hz
    exact q_rtn 1 (fun _ _ => rfl)
