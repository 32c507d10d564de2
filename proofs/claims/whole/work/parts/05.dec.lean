/-- what an instruction speaks of is linked, and its length is its own -/
def q_ob (own : Nat) (rt : Option FieldType) (i : Instr) (len x : Nat) : Bool :=
  match i with
  | .getfield idx => Nat.beq len 3 && q_fls.any (fun e => Nat.beq e.1 own && (Nat.beq e.2.1 idx && Nat.beq e.2.2.1 x))
  | .putfield idx => Nat.beq len 3 && q_fls.any (fun e => Nat.beq e.1 own && (Nat.beq e.2.1 idx && Nat.beq e.2.2.1 x))
  | .ldc idx => Nat.beq len 2 && (Nat.beq own 6 && (Nat.blt x 14 && Nat.beq (q_sds.getD x 0) idx))
  | .ldc2_w idx => Nat.beq len 3 && q_cls.any (fun e => Nat.beq e.1 own && (Nat.beq e.2.1 idx && Nat.beq e.2.2.1 x))
  | .invokevirtual idx => Nat.beq len 3 && (q_mls_.any (fun e => Nat.beq e.1 own && (Nat.beq e.2.1 idx && Nat.beq e.2.2.1 (x / 512))) && (Nat.beq (q_vi (x / 512)) 1 && (Nat.beq (q_na (x / 512)) (x % 8) && (Nat.beq (q_ci (x / 8 % 64)) (q_mc (x / 512)) && (Nat.blt (x / 512) 310 && Nat.blt 0 (x / 512))))))
  | .invokestatic idx => Nat.beq len 3 && (bif Nat.beq x 7 then Nat.beq own 8 && Nat.beq idx 410 || Nat.beq own 7 && Nat.beq idx 53 else
      (q_mls_.any (fun e => Nat.beq e.1 own && (Nat.beq e.2.1 idx && Nat.beq e.2.2.1 (x / 512))) || q_nes.any (fun e => Nat.beq e.1 own && (Nat.beq e.2.1 idx && Nat.beq e.2.2.1 (x / 512)))) && (Nat.beq (q_vi (x / 512)) 0 && (Nat.beq (q_na (x / 512)) (x % 8) && (Nat.blt (x / 512) 310 && Nat.blt 0 (x / 512)))))
  | .ireturn => Nat.beq len 1 && (bif Nat.beq x 0 then (match rt with | some .int => true | _ => false) else (match rt with | some .boolean => true | _ => false))
  | .areturn => Nat.beq len 1 && (match rt with | some (.object _) => true | _ => false)
  | .return_ => Nat.beq len 1 && (match rt with | none => true | _ => false)
  | .bipush _ => Nat.beq len 2
  | .iload _ => Nat.beq len 2
  | .aload _ => Nat.beq len 2
  | .istore _ => Nat.beq len 2
  | .astore _ => Nat.beq len 2
  | .sipush _ => Nat.beq len 3
  | .iinc _ _ => Nat.beq len 3
  | .goto _ => Nat.beq len 3
  | .ifCond _ _ => Nat.beq len 3
  | .if_icmp _ _ => Nat.beq len 3
  | .ifnonnull _ => Nat.beq len 3
  | .tableswitch _ _ _ _ => true
  | .lookupswitch _ _ => true
  | _ => Nat.beq len 1
def q_dk (b : ByteArray) (own : Nat) (rt : Option FieldType) (e : Nat × q_Op) : Bool := decide (decode b e.1 = .ok (e.2.1, e.2.2.1)) && q_ob own rt e.2.1 e.2.2.1 e.2.2.2
def q_dm (m : Nat) : Prop := (q_M m).flatten.all (q_dk (q_b m) (q_mc m) (q_rt m)) = true
set_option maxRecDepth 100000 in
theorem q_dm_4 : q_dm 4 := by
  show (q_K4).flatten.all (q_dk cJ13_bitCount_95d88 (q_mc 4) (q_rt 4)) = true
  decide +kernel
set_option maxRecDepth 100000 in
theorem q_dm_5 : q_dm 5 := by
  show (q_K5).flatten.all (q_dk cX8_status (q_mc 5) (q_rt 5)) = true
  decide +kernel
set_option maxRecDepth 100000 in
theorem q_dm_6 : q_dm 6 := by
  show (q_K6).flatten.all (q_dk cX8_feed (q_mc 6) (q_rt 6)) = true
  decide +kernel
set_option maxRecDepth 100000 in
theorem q_dm_7 : q_dm 7 := by
  show (q_K7).flatten.all (q_dk cX8_load (q_mc 7) (q_rt 7)) = true
  decide +kernel
set_option maxRecDepth 100000 in
theorem q_dm_8 : q_dm 8 := by
  show (q_K8).flatten.all (q_dk cX8_fault (q_mc 8) (q_rt 8)) = true
  decide +kernel
set_option maxRecDepth 100000 in
theorem q_dm_9 : q_dm 9 := by
  show (q_K9).flatten.all (q_dk cX8_many (q_mc 9) (q_rt 9)) = true
  decide +kernel
set_option maxRecDepth 100000 in
theorem q_dm_10 : q_dm 10 := by
  show (q_K10).flatten.all (q_dk cX8_counts (q_mc 10) (q_rt 10)) = true
  decide +kernel
set_option maxRecDepth 100000 in
theorem q_dm_11 : q_dm 11 := by
  show (q_K11).flatten.all (q_dk cX8_page (q_mc 11) (q_rt 11)) = true
  decide +kernel
set_option maxRecDepth 100000 in
theorem q_dm_12 : q_dm 12 := by
  show (q_K12).flatten.all (q_dk cX8_slot (q_mc 12) (q_rt 12)) = true
  decide +kernel
set_option maxRecDepth 100000 in
theorem q_dm_13 : q_dm 13 := by
  show (q_K13).flatten.all (q_dk cX8_version (q_mc 13) (q_rt 13)) = true
  decide +kernel
set_option maxRecDepth 100000 in
theorem q_dm_14 : q_dm 14 := by
  show (q_K14).flatten.all (q_dk cX8_entry (q_mc 14) (q_rt 14)) = true
  decide +kernel
set_option maxRecDepth 100000 in
theorem q_dm_15 : q_dm 15 := by
  show (q_K15).flatten.all (q_dk cX8_txn (q_mc 15) (q_rt 15)) = true
  decide +kernel
set_option maxRecDepth 100000 in
theorem q_dm_16 : q_dm 16 := by
  show (q_K16).flatten.all (q_dk cX8_knows (q_mc 16) (q_rt 16)) = true
  decide +kernel
set_option maxRecDepth 100000 in
theorem q_dm_17 : q_dm 17 := by
  show (q_K17).flatten.all (q_dk cX8_sees (q_mc 17) (q_rt 17)) = true
  decide +kernel
set_option maxRecDepth 100000 in
theorem q_dm_18 : q_dm 18 := by
  show (q_K18).flatten.all (q_dk cX8_versions (q_mc 18) (q_rt 18)) = true
  decide +kernel
set_option maxRecDepth 100000 in
theorem q_dm_19 : q_dm 19 := by
  show (q_K19).flatten.all (q_dk cX8_trail (q_mc 19) (q_rt 19)) = true
  decide +kernel
set_option maxRecDepth 100000 in
theorem q_dm_20 : q_dm 20 := by
  show (q_K20).flatten.all (q_dk cX8_event (q_mc 20) (q_rt 20)) = true
  decide +kernel
set_option maxRecDepth 100000 in
theorem q_dm_21 : q_dm 21 := by
  show (q_K21).flatten.all (q_dk cX8_begin (q_mc 21) (q_rt 21)) = true
  decide +kernel
set_option maxRecDepth 100000 in
theorem q_dm_22 : q_dm 22 := by
  show (q_K22).flatten.all (q_dk cX8_commit (q_mc 22) (q_rt 22)) = true
  decide +kernel
set_option maxRecDepth 100000 in
theorem q_dm_23 : q_dm 23 := by
  show (q_K23).flatten.all (q_dk cX8_abort (q_mc 23) (q_rt 23)) = true
  decide +kernel
set_option maxRecDepth 100000 in
theorem q_dm_24 : q_dm 24 := by
  show (q_K24).flatten.all (q_dk cX8_insert (q_mc 24) (q_rt 24)) = true
  decide +kernel
set_option maxRecDepth 100000 in
theorem q_dm_25 : q_dm 25 := by
  show (q_K25).flatten.all (q_dk cX8_update (q_mc 25) (q_rt 25)) = true
  decide +kernel
set_option maxRecDepth 100000 in
theorem q_dm_26 : q_dm 26 := by
  show (q_K26).flatten.all (q_dk cX8_delete (q_mc 26) (q_rt 26)) = true
  decide +kernel
set_option maxRecDepth 100000 in
theorem q_dm_27 : q_dm 27 := by
  show (q_K27).flatten.all (q_dk cX8_await (q_mc 27) (q_rt 27)) = true
  decide +kernel
set_option maxRecDepth 100000 in
theorem q_dm_28 : q_dm 28 := by
  show (q_K28).flatten.all (q_dk cX8_prune (q_mc 28) (q_rt 28)) = true
  decide +kernel
set_option maxRecDepth 100000 in
theorem q_dm_29 : q_dm 29 := by
  show (q_K29).flatten.all (q_dk cX8_vacuum (q_mc 29) (q_rt 29)) = true
  decide +kernel
set_option maxRecDepth 100000 in
theorem q_dm_30 : q_dm 30 := by
  show (q_K30).flatten.all (q_dk cX8_look (q_mc 30) (q_rt 30)) = true
  decide +kernel
set_option maxRecDepth 100000 in
theorem q_dm_31 : q_dm 31 := by
  show (q_K31).flatten.all (q_dk cX8_found (q_mc 31) (q_rt 31)) = true
  decide +kernel
set_option maxRecDepth 100000 in
theorem q_dm_32 : q_dm 32 := by
  show (q_K32).flatten.all (q_dk cX8_repack (q_mc 32) (q_rt 32)) = true
  decide +kernel
set_option maxRecDepth 100000 in
theorem q_dm_33 : q_dm 33 := by
  show (q_K33).flatten.all (q_dk cX8_set (q_mc 33) (q_rt 33)) = true
  decide +kernel
set_option maxRecDepth 100000 in
theorem q_dm_34 : q_dm 34 := by
  show (q_K34).flatten.all (q_dk cX8_mark (q_mc 34) (q_rt 34)) = true
  decide +kernel
set_option maxRecDepth 100000 in
theorem q_dm_35 : q_dm 35 := by
  show (q_K35).flatten.all (q_dk cX8_back (q_mc 35) (q_rt 35)) = true
  decide +kernel
set_option maxRecDepth 100000 in
theorem q_dm_36 : q_dm 36 := by
  show (q_K36).flatten.all (q_dk cX8_without (q_mc 36) (q_rt 36)) = true
  decide +kernel
set_option maxRecDepth 100000 in
theorem q_dm_37 : q_dm 37 := by
  show (q_K37).flatten.all (q_dk cX8_ring (q_mc 37) (q_rt 37)) = true
  decide +kernel
set_option maxRecDepth 100000 in
theorem q_dm_38 : q_dm 38 := by
  show (q_K38).flatten.all (q_dk cX8_blocks (q_mc 38) (q_rt 38)) = true
  decide +kernel
set_option maxRecDepth 100000 in
theorem q_dm_39 : q_dm 39 := by
  show (q_K39).flatten.all (q_dk cX8_holder (q_mc 39) (q_rt 39)) = true
  decide +kernel
set_option maxRecDepth 100000 in
theorem q_dm_40 : q_dm 40 := by
  show (q_K40).flatten.all (q_dk cX8_holds (q_mc 40) (q_rt 40)) = true
  decide +kernel
set_option maxRecDepth 100000 in
theorem q_dm_41 : q_dm 41 := by
  show (q_K41).flatten.all (q_dk cX8_gains (q_mc 41) (q_rt 41)) = true
  decide +kernel
set_option maxRecDepth 100000 in
theorem q_dm_42 : q_dm 42 := by
  show (q_K42).flatten.all (q_dk cX8_best (q_mc 42) (q_rt 42)) = true
  decide +kernel
set_option maxRecDepth 100000 in
theorem q_dm_43 : q_dm 43 := by
  show (q_K43).flatten.all (q_dk cX8_reads (q_mc 43) (q_rt 43)) = true
  decide +kernel
set_option maxRecDepth 100000 in
theorem q_dm_44 : q_dm 44 := by
  show (q_K44).flatten.all (q_dk cX8_most (q_mc 44) (q_rt 44)) = true
  decide +kernel
set_option maxRecDepth 100000 in
theorem q_dm_45 : q_dm 45 := by
  show (q_K45).flatten.all (q_dk cX8_answer (q_mc 45) (q_rt 45)) = true
  decide +kernel
set_option maxRecDepth 100000 in
theorem q_dm_46 : q_dm 46 := by
  show (q_K46).flatten.all (q_dk cX8_refuse (q_mc 46) (q_rt 46)) = true
  decide +kernel
set_option maxRecDepth 100000 in
theorem q_dm_47 : q_dm 47 := by
  show (q_K47).flatten.all (q_dk cX8_asOpen (q_mc 47) (q_rt 47)) = true
  decide +kernel
set_option maxRecDepth 100000 in
theorem q_dm_48 : q_dm 48 := by
  show (q_K48).flatten.all (q_dk cX8_asFree (q_mc 48) (q_rt 48)) = true
  decide +kernel
set_option maxRecDepth 100000 in
theorem q_dm_49 : q_dm 49 := by
  show (q_K49).flatten.all (q_dk cX8_asReader (q_mc 49) (q_rt 49)) = true
  decide +kernel
set_option maxRecDepth 100000 in
theorem q_dm_50 : q_dm 50 := by
  show (q_K50).flatten.all (q_dk cX8_asChanger (q_mc 50) (q_rt 50)) = true
  decide +kernel
set_option maxRecDepth 100000 in
theorem q_dm_51 : q_dm 51 := by
  show (q_K51).flatten.all (q_dk cX8_openEnder (q_mc 51) (q_rt 51)) = true
  decide +kernel
set_option maxRecDepth 100000 in
theorem q_dm_52 : q_dm 52 := by
  show (q_K52).flatten.all (q_dk cX8_countGained (q_mc 52) (q_rt 52)) = true
  decide +kernel
set_option maxRecDepth 100000 in
theorem q_dm_53 : q_dm 53 := by
  show (q_K53).flatten.all (q_dk cX8_perform (q_mc 53) (q_rt 53)) = true
  decide +kernel
set_option maxRecDepth 100000 in
theorem q_dm_54 : q_dm 54 := by
  show (q_K54).flatten.all (q_dk cX8_addFirstRow (q_mc 54) (q_rt 54)) = true
  decide +kernel
set_option maxRecDepth 100000 in
theorem q_dm_55 : q_dm 55 := by
  show (q_K55).flatten.all (q_dk cX8_isWithin (q_mc 55) (q_rt 55)) = true
  decide +kernel
set_option maxRecDepth 100000 in
theorem q_dm_56 : q_dm 56 := by
  show (q_K56).flatten.all (q_dk cX8_isPage (q_mc 56) (q_rt 56)) = true
  decide +kernel
set_option maxRecDepth 100000 in
theorem q_dm_57 : q_dm 57 := by
  show (q_K57).flatten.all (q_dk cX8_isVersion (q_mc 57) (q_rt 57)) = true
  decide +kernel
set_option maxRecDepth 100000 in
theorem q_dm_58 : q_dm 58 := by
  show (q_K58).flatten.all (q_dk cX8_pageOf (q_mc 58) (q_rt 58)) = true
  decide +kernel
set_option maxRecDepth 100000 in
theorem q_dm_59 : q_dm 59 := by
  show (q_K59).flatten.all (q_dk cX8_slotOf (q_mc 59) (q_rt 59)) = true
  decide +kernel
set_option maxRecDepth 100000 in
theorem q_dm_60 : q_dm 60 := by
  show (q_K60).flatten.all (q_dk cX8_pick (q_mc 60) (q_rt 60)) = true
  decide +kernel
set_option maxRecDepth 100000 in
theorem q_dm_61 : q_dm 61 := by
  show (q_K61).flatten.all (q_dk cX8_put (q_mc 61) (q_rt 61)) = true
  decide +kernel
set_option maxRecDepth 100000 in
theorem q_dm_62 : q_dm 62 := by
  show (q_K62).flatten.all (q_dk cX8_copy (q_mc 62) (q_rt 62)) = true
  decide +kernel
set_option maxRecDepth 100000 in
theorem q_dm_63 : q_dm 63 := by
  show (q_K63).flatten.all (q_dk cX4_empty (q_mc 63) (q_rt 63)) = true
  decide +kernel
set_option maxRecDepth 100000 in
theorem q_dm_64 : q_dm 64 := by
  show (q_K64).flatten.all (q_dk cX4_copyFrom (q_mc 64) (q_rt 64)) = true
  decide +kernel
set_option maxRecDepth 100000 in
theorem q_dm_65 : q_dm 65 := by
  show (q_K65).flatten.all (q_dk cX4_isOf (q_mc 65) (q_rt 65)) = true
  decide +kernel
set_option maxRecDepth 100000 in
theorem q_dm_66 : q_dm 66 := by
  show (q_K66).flatten.all (q_dk cX4_stamp (q_mc 66) (q_rt 66)) = true
  decide +kernel
set_option maxRecDepth 100000 in
theorem q_dm_67 : q_dm 67 := by
  show (q_K67).flatten.all (q_dk cX0_copyFrom (q_mc 67) (q_rt 67)) = true
  decide +kernel
set_option maxRecDepth 100000 in
theorem q_dm_68 : q_dm 68 := by
  show (q_K68).flatten.all (q_dk cX0_add (q_mc 68) (q_rt 68)) = true
  decide +kernel
set_option maxRecDepth 100000 in
theorem q_dm_69 : q_dm 69 := by
  show (q_K69).flatten.all (q_dk cX0_told (q_mc 69) (q_rt 69)) = true
  decide +kernel
set_option maxRecDepth 100000 in
theorem q_dm_70 : q_dm 70 := by
  show (q_K70).flatten.all (q_dk cX1_copyFrom (q_mc 70) (q_rt 70)) = true
  decide +kernel
set_option maxRecDepth 100000 in
theorem q_dm_71 : q_dm 71 := by
  show (q_K71).flatten.all (q_dk cX1_keyAt (q_mc 71) (q_rt 71)) = true
  decide +kernel
set_option maxRecDepth 100000 in
theorem q_dm_72 : q_dm 72 := by
  show (q_K72).flatten.all (q_dk cX1_placeAt (q_mc 72) (q_rt 72)) = true
  decide +kernel
set_option maxRecDepth 100000 in
theorem q_dm_73 : q_dm 73 := by
  show (q_K73).flatten.all (q_dk cX1_isKilled (q_mc 73) (q_rt 73)) = true
  decide +kernel
set_option maxRecDepth 100000 in
theorem q_dm_74 : q_dm 74 := by
  show (q_K74).flatten.all (q_dk cX1_kill (q_mc 74) (q_rt 74)) = true
  decide +kernel
set_option maxRecDepth 100000 in
theorem q_dm_75 : q_dm 75 := by
  show (q_K75).flatten.all (q_dk cX1_move (q_mc 75) (q_rt 75)) = true
  decide +kernel
set_option maxRecDepth 100000 in
theorem q_dm_76 : q_dm 76 := by
  show (q_K76).flatten.all (q_dk cX1_isBehind (q_mc 76) (q_rt 76)) = true
  decide +kernel
set_option maxRecDepth 100000 in
theorem q_dm_77 : q_dm 77 := by
  show (q_K77).flatten.all (q_dk cX1_add (q_mc 77) (q_rt 77)) = true
  decide +kernel
set_option maxRecDepth 100000 in
theorem q_dm_78 : q_dm 78 := by
  show (q_K78).flatten.all (q_dk cX1_dropAllTo (q_mc 78) (q_rt 78)) = true
  decide +kernel
set_option maxRecDepth 100000 in
theorem q_dm_79 : q_dm 79 := by
  show (q_K79).flatten.all (q_dk cX1_howManyLeadTo (q_mc 79) (q_rt 79)) = true
  decide +kernel
set_option maxRecDepth 100000 in
theorem q_dm_80 : q_dm 80 := by
  show (q_K80).flatten.all (q_dk cX2_copyFrom (q_mc 80) (q_rt 80)) = true
  decide +kernel
set_option maxRecDepth 100000 in
theorem q_dm_81 : q_dm 81 := by
  show (q_K81).flatten.all (q_dk cX2_makeAnew (q_mc 81) (q_rt 81)) = true
  decide +kernel
set_option maxRecDepth 100000 in
theorem q_dm_82 : q_dm 82 := by
  show (q_K82).flatten.all (q_dk cX2_tell (q_mc 82) (q_rt 82)) = true
  decide +kernel
set_option maxRecDepth 100000 in
theorem q_dm_83 : q_dm 83 := by
  show (q_K83).flatten.all (q_dk cX2_kindAt (q_mc 83) (q_rt 83)) = true
  decide +kernel
set_option maxRecDepth 100000 in
theorem q_dm_84 : q_dm 84 := by
  show (q_K84).flatten.all (q_dk cX2_numberAt (q_mc 84) (q_rt 84)) = true
  decide +kernel
set_option maxRecDepth 100000 in
theorem q_dm_85 : q_dm 85 := by
  show (q_K85).flatten.all (q_dk cX2_count (q_mc 85) (q_rt 85)) = true
  decide +kernel
set_option maxRecDepth 100000 in
theorem q_dm_86 : q_dm 86 := by
  show (q_K86).flatten.all (q_dk cX2_countOf (q_mc 86) (q_rt 86)) = true
  decide +kernel
set_option maxRecDepth 100000 in
theorem q_dm_87 : q_dm 87 := by
  show (q_K87).flatten.all (q_dk cX3_copyFrom (q_mc 87) (q_rt 87)) = true
  decide +kernel
set_option maxRecDepth 100000 in
theorem q_dm_88 : q_dm 88 := by
  show (q_K88).flatten.all (q_dk cX3_strip (q_mc 88) (q_rt 88)) = true
  decide +kernel
set_option maxRecDepth 100000 in
theorem q_dm_89 : q_dm 89 := by
  show (q_K89).flatten.all (q_dk cX3_at (q_mc 89) (q_rt 89)) = true
  decide +kernel
set_option maxRecDepth 100000 in
theorem q_dm_90 : q_dm 90 := by
  show (q_K90).flatten.all (q_dk cX3_lengthOf (q_mc 90) (q_rt 90)) = true
  decide +kernel
set_option maxRecDepth 100000 in
theorem q_dm_91 : q_dm 91 := by
  show (q_K91).flatten.all (q_dk cX3_hasSlot (q_mc 91) (q_rt 91)) = true
  decide +kernel
set_option maxRecDepth 100000 in
theorem q_dm_92 : q_dm 92 := by
  show (q_K92).flatten.all (q_dk cX3_isClear (q_mc 92) (q_rt 92)) = true
  decide +kernel
set_option maxRecDepth 100000 in
theorem q_dm_93 : q_dm 93 := by
  show (q_K93).flatten.all (q_dk cX3_setClear (q_mc 93) (q_rt 93)) = true
  decide +kernel
set_option maxRecDepth 100000 in
theorem q_dm_94 : q_dm 94 := by
  show (q_K94).flatten.all (q_dk cX3_freeOf (q_mc 94) (q_rt 94)) = true
  decide +kernel
set_option maxRecDepth 100000 in
theorem q_dm_95 : q_dm 95 := by
  show (q_K95).flatten.all (q_dk cX3_freeInAll (q_mc 95) (q_rt 95)) = true
  decide +kernel
set_option maxRecDepth 100000 in
theorem q_dm_96 : q_dm 96 := by
  show (q_K96).flatten.all (q_dk cX3_unusedOf (q_mc 96) (q_rt 96)) = true
  decide +kernel
set_option maxRecDepth 100000 in
theorem q_dm_97 : q_dm 97 := by
  show (q_K97).flatten.all (q_dk cX3_slotsThatAre (q_mc 97) (q_rt 97)) = true
  decide +kernel
set_option maxRecDepth 100000 in
theorem q_dm_98 : q_dm 98 := by
  show (q_K98).flatten.all (q_dk cX3_howManyHaveSlots (q_mc 98) (q_rt 98)) = true
  decide +kernel
set_option maxRecDepth 100000 in
theorem q_dm_99 : q_dm 99 := by
  show (q_K99).flatten.all (q_dk cX3_placeIn (q_mc 99) (q_rt 99)) = true
  decide +kernel
set_option maxRecDepth 100000 in
theorem q_dm_100 : q_dm 100 := by
  show (q_K100).flatten.all (q_dk cX3_firstPlace (q_mc 100) (q_rt 100)) = true
  decide +kernel
set_option maxRecDepth 100000 in
theorem q_dm_101 : q_dm 101 := by
  show (q_K101).flatten.all (q_dk cX3_take (q_mc 101) (q_rt 101)) = true
  decide +kernel
set_option maxRecDepth 100000 in
theorem q_dm_102 : q_dm 102 := by
  show (q_K102).flatten.all (q_dk cX3_dropUnusedBehind (q_mc 102) (q_rt 102)) = true
  decide +kernel
set_option maxRecDepth 100000 in
theorem q_dm_103 : q_dm 103 := by
  show (q_K103).flatten.all (q_dk cX7_makeAnew (q_mc 103) (q_rt 103)) = true
  decide +kernel
set_option maxRecDepth 100000 in
theorem q_dm_104 : q_dm 104 := by
  show (q_K104).flatten.all (q_dk cX7_copyFrom (q_mc 104) (q_rt 104)) = true
  decide +kernel
set_option maxRecDepth 100000 in
theorem q_dm_105 : q_dm 105 := by
  show (q_K105).flatten.all (q_dk cX7_has (q_mc 105) (q_rt 105)) = true
  decide +kernel
set_option maxRecDepth 100000 in
theorem q_dm_106 : q_dm 106 := by
  show (q_K106).flatten.all (q_dk cX7_stateOf (q_mc 106) (q_rt 106)) = true
  decide +kernel
set_option maxRecDepth 100000 in
theorem q_dm_107 : q_dm 107 := by
  show (q_K107).flatten.all (q_dk cX7_lowOf (q_mc 107) (q_rt 107)) = true
  decide +kernel
set_option maxRecDepth 100000 in
theorem q_dm_108 : q_dm 108 := by
  show (q_K108).flatten.all (q_dk cX7_waitsFor (q_mc 108) (q_rt 108)) = true
  decide +kernel
set_option maxRecDepth 100000 in
theorem q_dm_109 : q_dm 109 := by
  show (q_K109).flatten.all (q_dk cX7_howManyNoted (q_mc 109) (q_rt 109)) = true
  decide +kernel
set_option maxRecDepth 100000 in
theorem q_dm_110 : q_dm 110 := by
  show (q_K110).flatten.all (q_dk cX7_setNoted (q_mc 110) (q_rt 110)) = true
  decide +kernel
set_option maxRecDepth 100000 in
theorem q_dm_111 : q_dm 111 := by
  show (q_K111).flatten.all (q_dk cX7_isKnown (q_mc 111) (q_rt 111)) = true
  decide +kernel
set_option maxRecDepth 100000 in
theorem q_dm_112 : q_dm 112 := by
  show (q_K112).flatten.all (q_dk cX7_open (q_mc 112) (q_rt 112)) = true
  decide +kernel
set_option maxRecDepth 100000 in
theorem q_dm_113 : q_dm 113 := by
  show (q_K113).flatten.all (q_dk cX7_end (q_mc 113) (q_rt 113)) = true
  decide +kernel
set_option maxRecDepth 100000 in
theorem q_dm_114 : q_dm 114 := by
  show (q_K114).flatten.all (q_dk cX7_endAll (q_mc 114) (q_rt 114)) = true
  decide +kernel
set_option maxRecDepth 100000 in
theorem q_dm_115 : q_dm 115 := by
  show (q_K115).flatten.all (q_dk cX7_horizonBut (q_mc 115) (q_rt 115)) = true
  decide +kernel
set_option maxRecDepth 100000 in
theorem q_dm_116 : q_dm 116 := by
  show (q_K116).flatten.all (q_dk cX7_firstAtHorizon (q_mc 116) (q_rt 116)) = true
  decide +kernel
set_option maxRecDepth 100000 in
theorem q_dm_117 : q_dm 117 := by
  show (q_K117).flatten.all (q_dk cX7_howManyOpen (q_mc 117) (q_rt 117)) = true
  decide +kernel
set_option maxRecDepth 100000 in
theorem q_dm_118 : q_dm 118 := by
  show (q_K118).flatten.all (q_dk cX7_howManyWait (q_mc 118) (q_rt 118)) = true
  decide +kernel
set_option maxRecDepth 100000 in
theorem q_dm_119 : q_dm 119 := by
  show (q_K119).flatten.all (q_dk cX7_letWait (q_mc 119) (q_rt 119)) = true
  decide +kernel
set_option maxRecDepth 100000 in
theorem q_dm_120 : q_dm 120 := by
  show (q_K120).flatten.all (q_dk cX7_ringLength (q_mc 120) (q_rt 120)) = true
  decide +kernel
set_option maxRecDepth 100000 in
theorem q_dm_121 : q_dm 121 := by
  show (q_K121).flatten.all (q_dk cX7_howManyWaitFor (q_mc 121) (q_rt 121)) = true
  decide +kernel
set_option maxRecDepth 100000 in
theorem q_dm_122 : q_dm 122 := by
  show (q_K122).flatten.all (q_dk cX6_hasRoomFor (q_mc 122) (q_rt 122)) = true
  decide +kernel
set_option maxRecDepth 100000 in
theorem q_dm_123 : q_dm 123 := by
  show (q_K123).flatten.all (q_dk cX6_takeInt (q_mc 123) (q_rt 123)) = true
  decide +kernel
set_option maxRecDepth 100000 in
theorem q_dm_124 : q_dm 124 := by
  show (q_K124).flatten.all (q_dk cX6_open (q_mc 124) (q_rt 124)) = true
  decide +kernel
set_option maxRecDepth 100000 in
theorem q_dm_125 : q_dm 125 := by
  show (q_K125).flatten.all (q_dk cX6_blame (q_mc 125) (q_rt 125)) = true
  decide +kernel
set_option maxRecDepth 100000 in
theorem q_dm_126 : q_dm 126 := by
  show (q_K126).flatten.all (q_dk cX6_told (q_mc 126) (q_rt 126)) = true
  decide +kernel
set_option maxRecDepth 100000 in
theorem q_dm_127 : q_dm 127 := by
  show (q_K127).flatten.all (q_dk cX6_readLine (q_mc 127) (q_rt 127)) = true
  decide +kernel
set_option maxRecDepth 100000 in
theorem q_dm_128 : q_dm 128 := by
  show (q_K128).flatten.all (q_dk cX6_isTooLate (q_mc 128) (q_rt 128)) = true
  decide +kernel
set_option maxRecDepth 100000 in
theorem q_dm_129 : q_dm 129 := by
  show (q_K129).flatten.all (q_dk cX6_noteWord (q_mc 129) (q_rt 129)) = true
  decide +kernel
set_option maxRecDepth 100000 in
theorem q_dm_130 : q_dm 130 := by
  show (q_K130).flatten.all (q_dk cX6_readNumbers (q_mc 130) (q_rt 130)) = true
  decide +kernel
set_option maxRecDepth 100000 in
theorem q_dm_131 : q_dm 131 := by
  show (q_K131).flatten.all (q_dk cX6_canBe (q_mc 131) (q_rt 131)) = true
  decide +kernel
set_option maxRecDepth 100000 in
theorem q_dm_132 : q_dm 132 := by
  show (q_K132).flatten.all (q_dk cX6_readKind (q_mc 132) (q_rt 132)) = true
  decide +kernel
set_option maxRecDepth 100000 in
theorem q_dm_133 : q_dm 133 := by
  show (q_K133).flatten.all (q_dk cX6_isGood (q_mc 133) (q_rt 133)) = true
  decide +kernel
set_option maxRecDepth 100000 in
theorem q_dm_134 : q_dm 134 := by
  show (q_K134).flatten.all (q_dk cX6_byteAt (q_mc 134) (q_rt 134)) = true
  decide +kernel
set_option maxRecDepth 100000 in
theorem q_dm_135 : q_dm 135 := by
  show (q_K135).flatten.all (q_dk cX6_readToken (q_mc 135) (q_rt 135)) = true
  decide +kernel
set_option maxRecDepth 100000 in
theorem q_dm_136 : q_dm 136 := by
  show (q_K136).flatten.all (q_dk cX6_passAll (q_mc 136) (q_rt 136)) = true
  decide +kernel
set_option maxRecDepth 100000 in
theorem q_dm_137 : q_dm 137 := by
  show (q_K137).flatten.all (q_dk cX6_numberRead (q_mc 137) (q_rt 137)) = true
  decide +kernel
set_option maxRecDepth 100000 in
theorem q_dm_138 : q_dm 138 := by
  show (q_K138).flatten.all (q_dk cX6_wordRead (q_mc 138) (q_rt 138)) = true
  decide +kernel
set_option maxRecDepth 100000 in
theorem q_dm_139 : q_dm 139 := by
  show (q_K139).flatten.all (q_dk cX6_isSpelled (q_mc 139) (q_rt 139)) = true
  decide +kernel
set_option maxRecDepth 100000 in
theorem q_dm_140 : q_dm 140 := by
  show (q_K140).flatten.all (q_dk cX6_numbersOf (q_mc 140) (q_rt 140)) = true
  decide +kernel
set_option maxRecDepth 100000 in
theorem q_dm_141 : q_dm 141 := by
  show (q_K141).flatten.all (q_dk cX6_spelling (q_mc 141) (q_rt 141)) = true
  decide +kernel
set_option maxRecDepth 100000 in
theorem q_dm_142 : q_dm 142 := by
  show (q_K142).flatten.all (q_dk cX5_copyFrom (q_mc 142) (q_rt 142)) = true
  decide +kernel
set_option maxRecDepth 100000 in
theorem q_dm_143 : q_dm 143 := by
  show (q_K143).flatten.all (q_dk cX5_makeAnew (q_mc 143) (q_rt 143)) = true
  decide +kernel
set_option maxRecDepth 100000 in
theorem q_dm_144 : q_dm 144 := by
  show (q_K144).flatten.all (q_dk cX5_hasRow (q_mc 144) (q_rt 144)) = true
  decide +kernel
set_option maxRecDepth 100000 in
theorem q_dm_145 : q_dm 145 := by
  show (q_K145).flatten.all (q_dk cX5_isDead (q_mc 145) (q_rt 145)) = true
  decide +kernel
set_option maxRecDepth 100000 in
theorem q_dm_146 : q_dm 146 := by
  show (q_K146).flatten.all (q_dk cX5_isDying (q_mc 146) (q_rt 146)) = true
  decide +kernel
set_option maxRecDepth 100000 in
theorem q_dm_147 : q_dm 147 := by
  show (q_K147).flatten.all (q_dk cX5_isSuch (q_mc 147) (q_rt 147)) = true
  decide +kernel
set_option maxRecDepth 100000 in
theorem q_dm_148 : q_dm 148 := by
  show (q_K148).flatten.all (q_dk cX5_versionsThatAre (q_mc 148) (q_rt 148)) = true
  decide +kernel
set_option maxRecDepth 100000 in
theorem q_dm_149 : q_dm 149 := by
  show (q_K149).flatten.all (q_dk cX5_isCounted (q_mc 149) (q_rt 149)) = true
  decide +kernel
set_option maxRecDepth 100000 in
theorem q_dm_150 : q_dm 150 := by
  show (q_K150).flatten.all (q_dk cX5_versionsOf (q_mc 150) (q_rt 150)) = true
  decide +kernel
set_option maxRecDepth 100000 in
theorem q_dm_151 : q_dm 151 := by
  show (q_K151).flatten.all (q_dk cX5_placeMade (q_mc 151) (q_rt 151)) = true
  decide +kernel
set_option maxRecDepth 100000 in
theorem q_dm_152 : q_dm 152 := by
  show (q_K152).flatten.all (q_dk cX5_madeAhead (q_mc 152) (q_rt 152)) = true
  decide +kernel
set_option maxRecDepth 100000 in
theorem q_dm_153 : q_dm 153 := by
  show (q_K153).flatten.all (q_dk cX5_deadUnitsOf (q_mc 153) (q_rt 153)) = true
  decide +kernel
set_option maxRecDepth 100000 in
theorem q_dm_154 : q_dm 154 := by
  show (q_K154).flatten.all (q_dk cX5_deadUnits (q_mc 154) (q_rt 154)) = true
  decide +kernel
set_option maxRecDepth 100000 in
theorem q_dm_155 : q_dm 155 := by
  show (q_K155).flatten.all (q_dk cX5_isSeen (q_mc 155) (q_rt 155)) = true
  decide +kernel
set_option maxRecDepth 100000 in
theorem q_dm_156 : q_dm 156 := by
  show (q_K156).flatten.all (q_dk cX5_seenPlace (q_mc 156) (q_rt 156)) = true
  decide +kernel
set_option maxRecDepth 100000 in
theorem q_dm_157 : q_dm 157 := by
  show (q_K157).flatten.all (q_dk cX5_chainFirst (q_mc 157) (q_rt 157)) = true
  decide +kernel
set_option maxRecDepth 100000 in
theorem q_dm_158 : q_dm 158 := by
  show (q_K158).flatten.all (q_dk cX5_chainNext (q_mc 158) (q_rt 158)) = true
  decide +kernel
set_option maxRecDepth 100000 in
theorem q_dm_159 : q_dm 159 := by
  show (q_K159).flatten.all (q_dk cX5_chainLength (q_mc 159) (q_rt 159)) = true
  decide +kernel
set_option maxRecDepth 100000 in
theorem q_dm_160 : q_dm 160 := by
  show (q_K160).flatten.all (q_dk cX5_addRow (q_mc 160) (q_rt 160)) = true
  decide +kernel
set_option maxRecDepth 100000 in
theorem q_dm_161 : q_dm 161 := by
  show (q_K161).flatten.all (q_dk cX5_addVersion (q_mc 161) (q_rt 161)) = true
  decide +kernel
set_option maxRecDepth 100000 in
theorem q_dm_162 : q_dm 162 := by
  show (q_K162).flatten.all (q_dk cX5_endVersion (q_mc 162) (q_rt 162)) = true
  decide +kernel
set_option maxRecDepth 100000 in
theorem q_dm_163 : q_dm 163 := by
  show (q_K163).flatten.all (q_dk cX5_placeBehind (q_mc 163) (q_rt 163)) = true
  decide +kernel
set_option maxRecDepth 100000 in
theorem q_dm_164 : q_dm 164 := by
  show (q_K164).flatten.all (q_dk cX5_prunePage (q_mc 164) (q_rt 164)) = true
  decide +kernel
set_option maxRecDepth 100000 in
theorem q_dm_165 : q_dm 165 := by
  show (q_K165).flatten.all (q_dk cX5_pruneSlot (q_mc 165) (q_rt 165)) = true
  decide +kernel
set_option maxRecDepth 100000 in
theorem q_dm_166 : q_dm 166 := by
  show (q_K166).flatten.all (q_dk cX5_vacuumAll (q_mc 166) (q_rt 166)) = true
  decide +kernel
set_option maxRecDepth 100000 in
theorem q_dm_167 : q_dm 167 := by
  show (q_K167).flatten.all (q_dk cX5_clearStubs (q_mc 167) (q_rt 167)) = true
  decide +kernel
set_option maxRecDepth 100000 in
theorem q_dm_168 : q_dm 168 := by
  show (q_K168).flatten.all (q_dk cX5_tellPass (q_mc 168) (q_rt 168)) = true
  decide +kernel
set_option maxRecDepth 100000 in
theorem q_dm_169 : q_dm 169 := by
  show (q_K169).flatten.all (q_dk cX5_freezeOld (q_mc 169) (q_rt 169)) = true
  decide +kernel
set_option maxRecDepth 100000 in
theorem q_dm_170 : q_dm 170 := by
  show (q_K170).flatten.all (q_dk cX5_isClearNow (q_mc 170) (q_rt 170)) = true
  decide +kernel
set_option maxRecDepth 100000 in
theorem q_dm_171 : q_dm 171 := by
  show (q_K171).flatten.all (q_dk cX5_isForAll (q_mc 171) (q_rt 171)) = true
  decide +kernel
set_option maxRecDepth 100000 in
theorem q_dm_172 : q_dm 172 := by
  show (q_K172).flatten.all (q_dk cX5_isUnended (q_mc 172) (q_rt 172)) = true
  decide +kernel
set_option maxRecDepth 100000 in
theorem q_dm_173 : q_dm 173 := by
  show (q_K173).flatten.all (q_dk cX5_lookFor (q_mc 173) (q_rt 173)) = true
  decide +kernel
set_option maxRecDepth 100000 in
theorem q_dm_174 : q_dm 174 := by
  show (q_K174).flatten.all (q_dk cX5_goThrough (q_mc 174) (q_rt 174)) = true
  decide +kernel
set_option maxRecDepth 100000 in
theorem q_dm_175 : q_dm 175 := by
  show (q_K175).flatten.all (q_dk cX5_readsFor (q_mc 175) (q_rt 175)) = true
  decide +kernel
set_option maxRecDepth 100000 in
theorem q_dm_176 : q_dm 176 := by
  show (q_K176).flatten.all (q_dk cX5_layAnew (q_mc 176) (q_rt 176)) = true
  decide +kernel
set_option maxRecDepth 100000 in
theorem q_dm_177 : q_dm 177 := by
  show (q_K177).flatten.all (q_dk cX5_layDown (q_mc 177) (q_rt 177)) = true
  decide +kernel
set_option maxRecDepth 100000 in
theorem q_dm_178 : q_dm 178 := by
  show (q_K178).flatten.all (q_dk cX5_lastingBehind (q_mc 178) (q_rt 178)) = true
  decide +kernel
set_option maxRecDepth 100000 in
theorem q_dm_179 : q_dm 179 := by
  show (q_K179).flatten.all (q_dk cX5_isLasting (q_mc 179) (q_rt 179)) = true
  decide +kernel
set_option maxRecDepth 100000 in
theorem q_dm_180 : q_dm 180 := by
  show (q_K180).flatten.all (q_dk cX5_isAhead (q_mc 180) (q_rt 180)) = true
  decide +kernel
set_option maxRecDepth 100000 in
theorem q_dm_181 : q_dm 181 := by
  show (q_K181).flatten.all (q_dk cX9_status (q_mc 181) (q_rt 181)) = true
  decide +kernel
set_option maxRecDepth 100000 in
theorem q_dm_182 : q_dm 182 := by
  show (q_K182).flatten.all (q_dk cX9_refuse (q_mc 182) (q_rt 182)) = true
  decide +kernel
set_option maxRecDepth 100000 in
theorem q_dm_183 : q_dm 183 := by
  show (q_K183).flatten.all (q_dk cX9_is (q_mc 183) (q_rt 183)) = true
  decide +kernel
set_option maxRecDepth 100000 in
theorem q_dm_184 : q_dm 184 := by
  show (q_K184).flatten.all (q_dk cX9_isIn (q_mc 184) (q_rt 184)) = true
  decide +kernel
set_option maxRecDepth 100000 in
theorem q_dm_185 : q_dm 185 := by
  show (q_K185).flatten.all (q_dk cX9_clears (q_mc 185) (q_rt 185)) = true
  decide +kernel
set_option maxRecDepth 100000 in
theorem q_dm_186 : q_dm 186 := by
  show (q_K186).flatten.all (q_dk cX9_copy (q_mc 186) (q_rt 186)) = true
  decide +kernel
set_option maxRecDepth 100000 in
theorem q_dm_187 : q_dm 187 := by
  show (q_K187).flatten.all (q_dk cX9_of (q_mc 187) (q_rt 187)) = true
  decide +kernel
set_option maxRecDepth 100000 in
theorem q_dm_188 : q_dm 188 := by
  show (q_K188).flatten.all (q_dk cX9_sets (q_mc 188) (q_rt 188)) = true
  decide +kernel
set_option maxRecDepth 100000 in
theorem q_dm_189 : q_dm 189 := by
  show (q_K189).flatten.all (q_dk cX9_isFull (q_mc 189) (q_rt 189)) = true
  decide +kernel
set_option maxRecDepth 100000 in
theorem q_dm_190 : q_dm 190 := by
  show (q_K190).flatten.all (q_dk cX9_isSlot (q_mc 190) (q_rt 190)) = true
  decide +kernel
set_option maxRecDepth 100000 in
theorem q_dm_191 : q_dm 191 := by
  show (q_K191).flatten.all (q_dk cX9_isVersion (q_mc 191) (q_rt 191)) = true
  decide +kernel
set_option maxRecDepth 100000 in
theorem q_dm_192 : q_dm 192 := by
  show (q_K192).flatten.all (q_dk cX9_freeIn (q_mc 192) (q_rt 192)) = true
  decide +kernel
set_option maxRecDepth 100000 in
theorem q_dm_193 : q_dm 193 := by
  show (q_K193).flatten.all (q_dk cX9_placeIn (q_mc 193) (q_rt 193)) = true
  decide +kernel
set_option maxRecDepth 100000 in
theorem q_dm_194 : q_dm 194 := by
  show (q_K194).flatten.all (q_dk cX9_firstPlace (q_mc 194) (q_rt 194)) = true
  decide +kernel
set_option maxRecDepth 100000 in
theorem q_dm_195 : q_dm 195 := by
  show (q_K195).flatten.all (q_dk cX9_fills (q_mc 195) (q_rt 195)) = true
  decide +kernel
set_option maxRecDepth 100000 in
theorem q_dm_196 : q_dm 196 := by
  show (q_K196).flatten.all (q_dk cX9_stateOf (q_mc 196) (q_rt 196)) = true
  decide +kernel
set_option maxRecDepth 100000 in
theorem q_dm_197 : q_dm 197 := by
  show (q_K197).flatten.all (q_dk cX9_isOpen (q_mc 197) (q_rt 197)) = true
  decide +kernel
set_option maxRecDepth 100000 in
theorem q_dm_198 : q_dm 198 := by
  show (q_K198).flatten.all (q_dk cX9_isTxn (q_mc 198) (q_rt 198)) = true
  decide +kernel
set_option maxRecDepth 100000 in
theorem q_dm_199 : q_dm 199 := by
  show (q_K199).flatten.all (q_dk cX9_noted (q_mc 199) (q_rt 199)) = true
  decide +kernel
set_option maxRecDepth 100000 in
theorem q_dm_200 : q_dm 200 := by
  show (q_K200).flatten.all (q_dk cX9_isKnown (q_mc 200) (q_rt 200)) = true
  decide +kernel
set_option maxRecDepth 100000 in
theorem q_dm_201 : q_dm 201 := by
  show (q_K201).flatten.all (q_dk cX9_isWaiting (q_mc 201) (q_rt 201)) = true
  decide +kernel
set_option maxRecDepth 100000 in
theorem q_dm_202 : q_dm 202 := by
  show (q_K202).flatten.all (q_dk cX9_isSeen (q_mc 202) (q_rt 202)) = true
  decide +kernel
set_option maxRecDepth 100000 in
theorem q_dm_203 : q_dm 203 := by
  show (q_K203).flatten.all (q_dk cX9_lowOf (q_mc 203) (q_rt 203)) = true
  decide +kernel
set_option maxRecDepth 100000 in
theorem q_dm_204 : q_dm 204 := by
  show (q_K204).flatten.all (q_dk cX9_horizonBut (q_mc 204) (q_rt 204)) = true
  decide +kernel
set_option maxRecDepth 100000 in
theorem q_dm_205 : q_dm 205 := by
  show (q_K205).flatten.all (q_dk cX9_horizon (q_mc 205) (q_rt 205)) = true
  decide +kernel
set_option maxRecDepth 100000 in
theorem q_dm_206 : q_dm 206 := by
  show (q_K206).flatten.all (q_dk cX9_enderOf (q_mc 206) (q_rt 206)) = true
  decide +kernel
set_option maxRecDepth 100000 in
theorem q_dm_207 : q_dm 207 := by
  show (q_K207).flatten.all (q_dk cX9_isDead (q_mc 207) (q_rt 207)) = true
  decide +kernel
set_option maxRecDepth 100000 in
theorem q_dm_208 : q_dm 208 := by
  show (q_K208).flatten.all (q_dk cX9_isDying (q_mc 208) (q_rt 208)) = true
  decide +kernel
set_option maxRecDepth 100000 in
theorem q_dm_209 : q_dm 209 := by
  show (q_K209).flatten.all (q_dk cX9_chainOf (q_mc 209) (q_rt 209)) = true
  decide +kernel
set_option maxRecDepth 100000 in
theorem q_dm_210 : q_dm 210 := by
  show (q_K210).flatten.all (q_dk cX9_chainNext (q_mc 210) (q_rt 210)) = true
  decide +kernel
set_option maxRecDepth 100000 in
theorem q_dm_211 : q_dm 211 := by
  show (q_K211).flatten.all (q_dk cX9_chainMany (q_mc 211) (q_rt 211)) = true
  decide +kernel
set_option maxRecDepth 100000 in
theorem q_dm_212 : q_dm 212 := by
  show (q_K212).flatten.all (q_dk cX9_tellsOf (q_mc 212) (q_rt 212)) = true
  decide +kernel
set_option maxRecDepth 100000 in
theorem q_dm_213 : q_dm 213 := by
  show (q_K213).flatten.all (q_dk cX9_goes (q_mc 213) (q_rt 213)) = true
  decide +kernel
set_option maxRecDepth 100000 in
theorem q_dm_214 : q_dm 214 := by
  show (q_K214).flatten.all (q_dk cX9_cuts (q_mc 214) (q_rt 214)) = true
  decide +kernel
set_option maxRecDepth 100000 in
theorem q_dm_215 : q_dm 215 := by
  show (q_K215).flatten.all (q_dk cX9_prunes (q_mc 215) (q_rt 215)) = true
  decide +kernel
set_option maxRecDepth 100000 in
theorem q_dm_216 : q_dm 216 := by
  show (q_K216).flatten.all (q_dk cX9_entryOf (q_mc 216) (q_rt 216)) = true
  decide +kernel
set_option maxRecDepth 100000 in
theorem q_dm_217 : q_dm 217 := by
  show (q_K217).flatten.all (q_dk cX9_leadsTo (q_mc 217) (q_rt 217)) = true
  decide +kernel
set_option maxRecDepth 100000 in
theorem q_dm_218 : q_dm 218 := by
  show (q_K218).flatten.all (q_dk cX9_enters (q_mc 218) (q_rt 218)) = true
  decide +kernel
set_option maxRecDepth 100000 in
theorem q_dm_219 : q_dm 219 := by
  show (q_K219).flatten.all (q_dk cX9_entriesTo (q_mc 219) (q_rt 219)) = true
  decide +kernel
set_option maxRecDepth 100000 in
theorem q_dm_220 : q_dm 220 := by
  show (q_K220).flatten.all (q_dk cX9_takesOut (q_mc 220) (q_rt 220)) = true
  decide +kernel
set_option maxRecDepth 100000 in
theorem q_dm_221 : q_dm 221 := by
  show (q_K221).flatten.all (q_dk cX9_passes (q_mc 221) (q_rt 221)) = true
  decide +kernel
set_option maxRecDepth 100000 in
theorem q_dm_222 : q_dm 222 := by
  show (q_K222).flatten.all (q_dk cX9_freezes (q_mc 222) (q_rt 222)) = true
  decide +kernel
set_option maxRecDepth 100000 in
theorem q_dm_223 : q_dm 223 := by
  show (q_K223).flatten.all (q_dk cX9_isClear (q_mc 223) (q_rt 223)) = true
  decide +kernel
set_option maxRecDepth 100000 in
theorem q_dm_224 : q_dm 224 := by
  show (q_K224).flatten.all (q_dk cX9_vacuums (q_mc 224) (q_rt 224)) = true
  decide +kernel
set_option maxRecDepth 100000 in
theorem q_dm_225 : q_dm 225 := by
  show (q_K225).flatten.all (q_dk cX9_seenOf (q_mc 225) (q_rt 225)) = true
  decide +kernel
set_option maxRecDepth 100000 in
theorem q_dm_226 : q_dm 226 := by
  show (q_K226).flatten.all (q_dk cX9_inserts (q_mc 226) (q_rt 226)) = true
  decide +kernel
set_option maxRecDepth 100000 in
theorem q_dm_227 : q_dm 227 := by
  show (q_K227).flatten.all (q_dk cX9_endsAt (q_mc 227) (q_rt 227)) = true
  decide +kernel
set_option maxRecDepth 100000 in
theorem q_dm_228 : q_dm 228 := by
  show (q_K228).flatten.all (q_dk cX9_noTouch (q_mc 228) (q_rt 228)) = true
  decide +kernel
set_option maxRecDepth 100000 in
theorem q_dm_229 : q_dm 229 := by
  show (q_K229).flatten.all (q_dk cX9_isValue (q_mc 229) (q_rt 229)) = true
  decide +kernel
set_option maxRecDepth 100000 in
theorem q_dm_230 : q_dm 230 := by
  show (q_K230).flatten.all (q_dk cX9_insertNow (q_mc 230) (q_rt 230)) = true
  decide +kernel
set_option maxRecDepth 100000 in
theorem q_dm_231 : q_dm 231 := by
  show (q_K231).flatten.all (q_dk cX9_isRow (q_mc 231) (q_rt 231)) = true
  decide +kernel
set_option maxRecDepth 100000 in
theorem q_dm_232 : q_dm 232 := by
  show (q_K232).flatten.all (q_dk cX9_touched (q_mc 232) (q_rt 232)) = true
  decide +kernel
set_option maxRecDepth 100000 in
theorem q_dm_233 : q_dm 233 := by
  show (q_K233).flatten.all (q_dk cX9_updateNow (q_mc 233) (q_rt 233)) = true
  decide +kernel
set_option maxRecDepth 100000 in
theorem q_dm_234 : q_dm 234 := by
  show (q_K234).flatten.all (q_dk cX9_versionsOf (q_mc 234) (q_rt 234)) = true
  decide +kernel
set_option maxRecDepth 100000 in
theorem q_dm_235 : q_dm 235 := by
  show (q_K235).flatten.all (q_dk cX9_deleteNow (q_mc 235) (q_rt 235)) = true
  decide +kernel
set_option maxRecDepth 100000 in
theorem q_dm_236 : q_dm 236 := by
  show (q_K236).flatten.all (q_dk cX9_beginNow (q_mc 236) (q_rt 236)) = true
  decide +kernel
set_option maxRecDepth 100000 in
theorem q_dm_237 : q_dm 237 := by
  show (q_K237).flatten.all (q_dk cX9_closeNow (q_mc 237) (q_rt 237)) = true
  decide +kernel
set_option maxRecDepth 100000 in
theorem q_dm_238 : q_dm 238 := by
  show (q_K238).flatten.all (q_dk cX9_pruneNow (q_mc 238) (q_rt 238)) = true
  decide +kernel
set_option maxRecDepth 100000 in
theorem q_dm_239 : q_dm 239 := by
  show (q_K239).flatten.all (q_dk cX9_lookNow (q_mc 239) (q_rt 239)) = true
  decide +kernel
set_option maxRecDepth 100000 in
theorem q_dm_240 : q_dm 240 := by
  show (q_K240).flatten.all (q_dk cX9_looks (q_mc 240) (q_rt 240)) = true
  decide +kernel
set_option maxRecDepth 100000 in
theorem q_dm_241 : q_dm 241 := by
  show (q_K241).flatten.all (q_dk cX9_looksAt (q_mc 241) (q_rt 241)) = true
  decide +kernel
set_option maxRecDepth 100000 in
theorem q_dm_242 : q_dm 242 := by
  show (q_K242).flatten.all (q_dk cX9_finds (q_mc 242) (q_rt 242)) = true
  decide +kernel
set_option maxRecDepth 100000 in
theorem q_dm_243 : q_dm 243 := by
  show (q_K243).flatten.all (q_dk cX9_isAnyOpen (q_mc 243) (q_rt 243)) = true
  decide +kernel
set_option maxRecDepth 100000 in
theorem q_dm_244 : q_dm 244 := by
  show (q_K244).flatten.all (q_dk cX9_lives (q_mc 244) (q_rt 244)) = true
  decide +kernel
set_option maxRecDepth 100000 in
theorem q_dm_245 : q_dm 245 := by
  show (q_K245).flatten.all (q_dk cX9_oldOf (q_mc 245) (q_rt 245)) = true
  decide +kernel
set_option maxRecDepth 100000 in
theorem q_dm_246 : q_dm 246 := by
  show (q_K246).flatten.all (q_dk cX9_isAhead (q_mc 246) (q_rt 246)) = true
  decide +kernel
set_option maxRecDepth 100000 in
theorem q_dm_247 : q_dm 247 := by
  show (q_K247).flatten.all (q_dk cX9_staying (q_mc 247) (q_rt 247)) = true
  decide +kernel
set_option maxRecDepth 100000 in
theorem q_dm_248 : q_dm 248 := by
  show (q_K248).flatten.all (q_dk cX9_repackNow (q_mc 248) (q_rt 248)) = true
  decide +kernel
set_option maxRecDepth 100000 in
theorem q_dm_249 : q_dm 249 := by
  show (q_K249).flatten.all (q_dk cX9_lays (q_mc 249) (q_rt 249)) = true
  decide +kernel
set_option maxRecDepth 100000 in
theorem q_dm_250 : q_dm 250 := by
  show (q_K250).flatten.all (q_dk cX9_feed (q_mc 250) (q_rt 250)) = true
  decide +kernel
set_option maxRecDepth 100000 in
theorem q_dm_251 : q_dm 251 := by
  show (q_K251).flatten.all (q_dk cX9_isOf (q_mc 251) (q_rt 251)) = true
  decide +kernel
set_option maxRecDepth 100000 in
theorem q_dm_252 : q_dm 252 := by
  show (q_K252).flatten.all (q_dk cX9_reads (q_mc 252) (q_rt 252)) = true
  decide +kernel
set_option maxRecDepth 100000 in
theorem q_dm_253 : q_dm 253 := by
  show (q_K253).flatten.all (q_dk cX9_must (q_mc 253) (q_rt 253)) = true
  decide +kernel
set_option maxRecDepth 100000 in
theorem q_dm_254 : q_dm 254 := by
  show (q_K254).flatten.all (q_dk cX9_key (q_mc 254) (q_rt 254)) = true
  decide +kernel
set_option maxRecDepth 100000 in
theorem q_dm_255 : q_dm 255 := by
  show (q_K255).flatten.all (q_dk cX9_takesNumbers (q_mc 255) (q_rt 255)) = true
  decide +kernel
set_option maxRecDepth 100000 in
theorem q_dm_256 : q_dm 256 := by
  show (q_K256).flatten.all (q_dk cX9_doesAct (q_mc 256) (q_rt 256)) = true
  decide +kernel
set_option maxRecDepth 100000 in
theorem q_dm_257 : q_dm 257 := by
  show (q_K257).flatten.all (q_dk cX9_readsLine (q_mc 257) (q_rt 257)) = true
  decide +kernel
set_option maxRecDepth 100000 in
theorem q_dm_258 : q_dm 258 := by
  show (q_K258).flatten.all (q_dk cX9_load (q_mc 258) (q_rt 258)) = true
  decide +kernel
set_option maxRecDepth 100000 in
theorem q_dm_259 : q_dm 259 := by
  show (q_K259).flatten.all (q_dk cX9_fault (q_mc 259) (q_rt 259)) = true
  decide +kernel
set_option maxRecDepth 100000 in
theorem q_dm_260 : q_dm 260 := by
  show (q_K260).flatten.all (q_dk cX9_manyOf (q_mc 260) (q_rt 260)) = true
  decide +kernel
set_option maxRecDepth 100000 in
theorem q_dm_261 : q_dm 261 := by
  show (q_K261).flatten.all (q_dk cX9_waitMany (q_mc 261) (q_rt 261)) = true
  decide +kernel
set_option maxRecDepth 100000 in
theorem q_dm_262 : q_dm 262 := by
  show (q_K262).flatten.all (q_dk cX9_openMany (q_mc 262) (q_rt 262)) = true
  decide +kernel
set_option maxRecDepth 100000 in
theorem q_dm_263 : q_dm 263 := by
  show (q_K263).flatten.all (q_dk cX9_many (q_mc 263) (q_rt 263)) = true
  decide +kernel
set_option maxRecDepth 100000 in
theorem q_dm_264 : q_dm 264 := by
  show (q_K264).flatten.all (q_dk cX9_counts (q_mc 264) (q_rt 264)) = true
  decide +kernel
set_option maxRecDepth 100000 in
theorem q_dm_265 : q_dm 265 := by
  show (q_K265).flatten.all (q_dk cX9_isPage (q_mc 265) (q_rt 265)) = true
  decide +kernel
set_option maxRecDepth 100000 in
theorem q_dm_266 : q_dm 266 := by
  show (q_K266).flatten.all (q_dk cX9_deadUnits (q_mc 266) (q_rt 266)) = true
  decide +kernel
set_option maxRecDepth 100000 in
theorem q_dm_267 : q_dm 267 := by
  show (q_K267).flatten.all (q_dk cX9_unusedIn (q_mc 267) (q_rt 267)) = true
  decide +kernel
set_option maxRecDepth 100000 in
theorem q_dm_268 : q_dm 268 := by
  show (q_K268).flatten.all (q_dk cX9_page (q_mc 268) (q_rt 268)) = true
  decide +kernel
set_option maxRecDepth 100000 in
theorem q_dm_269 : q_dm 269 := by
  show (q_K269).flatten.all (q_dk cX9_asksSlot (q_mc 269) (q_rt 269)) = true
  decide +kernel
set_option maxRecDepth 100000 in
theorem q_dm_270 : q_dm 270 := by
  show (q_K270).flatten.all (q_dk cX9_slot (q_mc 270) (q_rt 270)) = true
  decide +kernel
set_option maxRecDepth 100000 in
theorem q_dm_271 : q_dm 271 := by
  show (q_K271).flatten.all (q_dk cX9_version (q_mc 271) (q_rt 271)) = true
  decide +kernel
set_option maxRecDepth 100000 in
theorem q_dm_272 : q_dm 272 := by
  show (q_K272).flatten.all (q_dk cX9_entry (q_mc 272) (q_rt 272)) = true
  decide +kernel
set_option maxRecDepth 100000 in
theorem q_dm_273 : q_dm 273 := by
  show (q_K273).flatten.all (q_dk cX9_notedMany (q_mc 273) (q_rt 273)) = true
  decide +kernel
set_option maxRecDepth 100000 in
theorem q_dm_274 : q_dm 274 := by
  show (q_K274).flatten.all (q_dk cX9_txn (q_mc 274) (q_rt 274)) = true
  decide +kernel
set_option maxRecDepth 100000 in
theorem q_dm_275 : q_dm 275 := by
  show (q_K275).flatten.all (q_dk cX9_knows (q_mc 275) (q_rt 275)) = true
  decide +kernel
set_option maxRecDepth 100000 in
theorem q_dm_276 : q_dm 276 := by
  show (q_K276).flatten.all (q_dk cX9_sees (q_mc 276) (q_rt 276)) = true
  decide +kernel
set_option maxRecDepth 100000 in
theorem q_dm_277 : q_dm 277 := by
  show (q_K277).flatten.all (q_dk cX9_versions (q_mc 277) (q_rt 277)) = true
  decide +kernel
set_option maxRecDepth 100000 in
theorem q_dm_278 : q_dm 278 := by
  show (q_K278).flatten.all (q_dk cX9_madeAs (q_mc 278) (q_rt 278)) = true
  decide +kernel
set_option maxRecDepth 100000 in
theorem q_dm_279 : q_dm 279 := by
  show (q_K279).flatten.all (q_dk cX9_trail (q_mc 279) (q_rt 279)) = true
  decide +kernel
set_option maxRecDepth 100000 in
theorem q_dm_280 : q_dm 280 := by
  show (q_K280).flatten.all (q_dk cX9_event (q_mc 280) (q_rt 280)) = true
  decide +kernel
set_option maxRecDepth 100000 in
theorem q_dm_281 : q_dm 281 := by
  show (q_K281).flatten.all (q_dk cX9_begin (q_mc 281) (q_rt 281)) = true
  decide +kernel
set_option maxRecDepth 100000 in
theorem q_dm_282 : q_dm 282 := by
  show (q_K282).flatten.all (q_dk cX9_commit (q_mc 282) (q_rt 282)) = true
  decide +kernel
set_option maxRecDepth 100000 in
theorem q_dm_283 : q_dm 283 := by
  show (q_K283).flatten.all (q_dk cX9_abort (q_mc 283) (q_rt 283)) = true
  decide +kernel
set_option maxRecDepth 100000 in
theorem q_dm_284 : q_dm 284 := by
  show (q_K284).flatten.all (q_dk cX9_insert (q_mc 284) (q_rt 284)) = true
  decide +kernel
set_option maxRecDepth 100000 in
theorem q_dm_285 : q_dm 285 := by
  show (q_K285).flatten.all (q_dk cX9_update (q_mc 285) (q_rt 285)) = true
  decide +kernel
set_option maxRecDepth 100000 in
theorem q_dm_286 : q_dm 286 := by
  show (q_K286).flatten.all (q_dk cX9_delete (q_mc 286) (q_rt 286)) = true
  decide +kernel
set_option maxRecDepth 100000 in
theorem q_dm_287 : q_dm 287 := by
  show (q_K287).flatten.all (q_dk cX9_prune (q_mc 287) (q_rt 287)) = true
  decide +kernel
set_option maxRecDepth 100000 in
theorem q_dm_288 : q_dm 288 := by
  show (q_K288).flatten.all (q_dk cX9_vacuum (q_mc 288) (q_rt 288)) = true
  decide +kernel
set_option maxRecDepth 100000 in
theorem q_dm_289 : q_dm 289 := by
  show (q_K289).flatten.all (q_dk cX9_look (q_mc 289) (q_rt 289)) = true
  decide +kernel
set_option maxRecDepth 100000 in
theorem q_dm_290 : q_dm 290 := by
  show (q_K290).flatten.all (q_dk cX9_found (q_mc 290) (q_rt 290)) = true
  decide +kernel
set_option maxRecDepth 100000 in
theorem q_dm_291 : q_dm 291 := by
  show (q_K291).flatten.all (q_dk cX9_repack (q_mc 291) (q_rt 291)) = true
  decide +kernel
set_option maxRecDepth 100000 in
theorem q_dm_292 : q_dm 292 := by
  show (q_K292).flatten.all (q_dk cX9_set (q_mc 292) (q_rt 292)) = true
  decide +kernel
set_option maxRecDepth 100000 in
theorem q_dm_293 : q_dm 293 := by
  show (q_K293).flatten.all (q_dk cX9_mark (q_mc 293) (q_rt 293)) = true
  decide +kernel
set_option maxRecDepth 100000 in
theorem q_dm_294 : q_dm 294 := by
  show (q_K294).flatten.all (q_dk cX9_back (q_mc 294) (q_rt 294)) = true
  decide +kernel
set_option maxRecDepth 100000 in
theorem q_dm_295 : q_dm 295 := by
  show (q_K295).flatten.all (q_dk cX9_asksOpen (q_mc 295) (q_rt 295)) = true
  decide +kernel
set_option maxRecDepth 100000 in
theorem q_dm_296 : q_dm 296 := by
  show (q_K296).flatten.all (q_dk cX9_without (q_mc 296) (q_rt 296)) = true
  decide +kernel
set_option maxRecDepth 100000 in
theorem q_dm_297 : q_dm 297 := by
  show (q_K297).flatten.all (q_dk cX9_enderFor (q_mc 297) (q_rt 297)) = true
  decide +kernel
set_option maxRecDepth 100000 in
theorem q_dm_298 : q_dm 298 := by
  show (q_K298).flatten.all (q_dk cX9_ringOf (q_mc 298) (q_rt 298)) = true
  decide +kernel
set_option maxRecDepth 100000 in
theorem q_dm_299 : q_dm 299 := by
  show (q_K299).flatten.all (q_dk cX9_await (q_mc 299) (q_rt 299)) = true
  decide +kernel
set_option maxRecDepth 100000 in
theorem q_dm_300 : q_dm 300 := by
  show (q_K300).flatten.all (q_dk cX9_ring (q_mc 300) (q_rt 300)) = true
  decide +kernel
set_option maxRecDepth 100000 in
theorem q_dm_301 : q_dm 301 := by
  show (q_K301).flatten.all (q_dk cX9_blocks (q_mc 301) (q_rt 301)) = true
  decide +kernel
set_option maxRecDepth 100000 in
theorem q_dm_302 : q_dm 302 := by
  show (q_K302).flatten.all (q_dk cX9_holder (q_mc 302) (q_rt 302)) = true
  decide +kernel
set_option maxRecDepth 100000 in
theorem q_dm_303 : q_dm 303 := by
  show (q_K303).flatten.all (q_dk cX9_allDead (q_mc 303) (q_rt 303)) = true
  decide +kernel
set_option maxRecDepth 100000 in
theorem q_dm_304 : q_dm 304 := by
  show (q_K304).flatten.all (q_dk cX9_holds (q_mc 304) (q_rt 304)) = true
  decide +kernel
set_option maxRecDepth 100000 in
theorem q_dm_305 : q_dm 305 := by
  show (q_K305).flatten.all (q_dk cX9_allFree (q_mc 305) (q_rt 305)) = true
  decide +kernel
set_option maxRecDepth 100000 in
theorem q_dm_306 : q_dm 306 := by
  show (q_K306).flatten.all (q_dk cX9_gains (q_mc 306) (q_rt 306)) = true
  decide +kernel
set_option maxRecDepth 100000 in
theorem q_dm_307 : q_dm 307 := by
  show (q_K307).flatten.all (q_dk cX9_best (q_mc 307) (q_rt 307)) = true
  decide +kernel
set_option maxRecDepth 100000 in
theorem q_dm_308 : q_dm 308 := by
  show (q_K308).flatten.all (q_dk cX9_reads_ (q_mc 308) (q_rt 308)) = true
  decide +kernel
set_option maxRecDepth 100000 in
theorem q_dm_309 : q_dm 309 := by
  show (q_K309).flatten.all (q_dk cX9_most (q_mc 309) (q_rt 309)) = true
  decide +kernel
theorem q_dm_all : ∀ m, 4 ≤ m → m < 310 → q_dm m := by
  intro m h1 h2
  rcases Nat.lt_or_ge m 36 with q | q
  · rcases Nat.eq_or_lt_of_le (show 4 ≤ m by omega) with e | e
    · exact e ▸ q_dm_4
    rcases Nat.eq_or_lt_of_le (show 5 ≤ m by omega) with e | e
    · exact e ▸ q_dm_5
    rcases Nat.eq_or_lt_of_le (show 6 ≤ m by omega) with e | e
    · exact e ▸ q_dm_6
    rcases Nat.eq_or_lt_of_le (show 7 ≤ m by omega) with e | e
    · exact e ▸ q_dm_7
    rcases Nat.eq_or_lt_of_le (show 8 ≤ m by omega) with e | e
    · exact e ▸ q_dm_8
    rcases Nat.eq_or_lt_of_le (show 9 ≤ m by omega) with e | e
    · exact e ▸ q_dm_9
    rcases Nat.eq_or_lt_of_le (show 10 ≤ m by omega) with e | e
    · exact e ▸ q_dm_10
    rcases Nat.eq_or_lt_of_le (show 11 ≤ m by omega) with e | e
    · exact e ▸ q_dm_11
    rcases Nat.eq_or_lt_of_le (show 12 ≤ m by omega) with e | e
    · exact e ▸ q_dm_12
    rcases Nat.eq_or_lt_of_le (show 13 ≤ m by omega) with e | e
    · exact e ▸ q_dm_13
    rcases Nat.eq_or_lt_of_le (show 14 ≤ m by omega) with e | e
    · exact e ▸ q_dm_14
    rcases Nat.eq_or_lt_of_le (show 15 ≤ m by omega) with e | e
    · exact e ▸ q_dm_15
    rcases Nat.eq_or_lt_of_le (show 16 ≤ m by omega) with e | e
    · exact e ▸ q_dm_16
    rcases Nat.eq_or_lt_of_le (show 17 ≤ m by omega) with e | e
    · exact e ▸ q_dm_17
    rcases Nat.eq_or_lt_of_le (show 18 ≤ m by omega) with e | e
    · exact e ▸ q_dm_18
    rcases Nat.eq_or_lt_of_le (show 19 ≤ m by omega) with e | e
    · exact e ▸ q_dm_19
    rcases Nat.eq_or_lt_of_le (show 20 ≤ m by omega) with e | e
    · exact e ▸ q_dm_20
    rcases Nat.eq_or_lt_of_le (show 21 ≤ m by omega) with e | e
    · exact e ▸ q_dm_21
    rcases Nat.eq_or_lt_of_le (show 22 ≤ m by omega) with e | e
    · exact e ▸ q_dm_22
    rcases Nat.eq_or_lt_of_le (show 23 ≤ m by omega) with e | e
    · exact e ▸ q_dm_23
    rcases Nat.eq_or_lt_of_le (show 24 ≤ m by omega) with e | e
    · exact e ▸ q_dm_24
    rcases Nat.eq_or_lt_of_le (show 25 ≤ m by omega) with e | e
    · exact e ▸ q_dm_25
    rcases Nat.eq_or_lt_of_le (show 26 ≤ m by omega) with e | e
    · exact e ▸ q_dm_26
    rcases Nat.eq_or_lt_of_le (show 27 ≤ m by omega) with e | e
    · exact e ▸ q_dm_27
    rcases Nat.eq_or_lt_of_le (show 28 ≤ m by omega) with e | e
    · exact e ▸ q_dm_28
    rcases Nat.eq_or_lt_of_le (show 29 ≤ m by omega) with e | e
    · exact e ▸ q_dm_29
    rcases Nat.eq_or_lt_of_le (show 30 ≤ m by omega) with e | e
    · exact e ▸ q_dm_30
    rcases Nat.eq_or_lt_of_le (show 31 ≤ m by omega) with e | e
    · exact e ▸ q_dm_31
    rcases Nat.eq_or_lt_of_le (show 32 ≤ m by omega) with e | e
    · exact e ▸ q_dm_32
    rcases Nat.eq_or_lt_of_le (show 33 ≤ m by omega) with e | e
    · exact e ▸ q_dm_33
    rcases Nat.eq_or_lt_of_le (show 34 ≤ m by omega) with e | e
    · exact e ▸ q_dm_34
    rcases Nat.eq_or_lt_of_le (show 35 ≤ m by omega) with e | e
    · exact e ▸ q_dm_35
    exact absurd q (by omega)
  rcases Nat.lt_or_ge m 68 with q | q
  · rcases Nat.eq_or_lt_of_le (show 36 ≤ m by omega) with e | e
    · exact e ▸ q_dm_36
    rcases Nat.eq_or_lt_of_le (show 37 ≤ m by omega) with e | e
    · exact e ▸ q_dm_37
    rcases Nat.eq_or_lt_of_le (show 38 ≤ m by omega) with e | e
    · exact e ▸ q_dm_38
    rcases Nat.eq_or_lt_of_le (show 39 ≤ m by omega) with e | e
    · exact e ▸ q_dm_39
    rcases Nat.eq_or_lt_of_le (show 40 ≤ m by omega) with e | e
    · exact e ▸ q_dm_40
    rcases Nat.eq_or_lt_of_le (show 41 ≤ m by omega) with e | e
    · exact e ▸ q_dm_41
    rcases Nat.eq_or_lt_of_le (show 42 ≤ m by omega) with e | e
    · exact e ▸ q_dm_42
    rcases Nat.eq_or_lt_of_le (show 43 ≤ m by omega) with e | e
    · exact e ▸ q_dm_43
    rcases Nat.eq_or_lt_of_le (show 44 ≤ m by omega) with e | e
    · exact e ▸ q_dm_44
    rcases Nat.eq_or_lt_of_le (show 45 ≤ m by omega) with e | e
    · exact e ▸ q_dm_45
    rcases Nat.eq_or_lt_of_le (show 46 ≤ m by omega) with e | e
    · exact e ▸ q_dm_46
    rcases Nat.eq_or_lt_of_le (show 47 ≤ m by omega) with e | e
    · exact e ▸ q_dm_47
    rcases Nat.eq_or_lt_of_le (show 48 ≤ m by omega) with e | e
    · exact e ▸ q_dm_48
    rcases Nat.eq_or_lt_of_le (show 49 ≤ m by omega) with e | e
    · exact e ▸ q_dm_49
    rcases Nat.eq_or_lt_of_le (show 50 ≤ m by omega) with e | e
    · exact e ▸ q_dm_50
    rcases Nat.eq_or_lt_of_le (show 51 ≤ m by omega) with e | e
    · exact e ▸ q_dm_51
    rcases Nat.eq_or_lt_of_le (show 52 ≤ m by omega) with e | e
    · exact e ▸ q_dm_52
    rcases Nat.eq_or_lt_of_le (show 53 ≤ m by omega) with e | e
    · exact e ▸ q_dm_53
    rcases Nat.eq_or_lt_of_le (show 54 ≤ m by omega) with e | e
    · exact e ▸ q_dm_54
    rcases Nat.eq_or_lt_of_le (show 55 ≤ m by omega) with e | e
    · exact e ▸ q_dm_55
    rcases Nat.eq_or_lt_of_le (show 56 ≤ m by omega) with e | e
    · exact e ▸ q_dm_56
    rcases Nat.eq_or_lt_of_le (show 57 ≤ m by omega) with e | e
    · exact e ▸ q_dm_57
    rcases Nat.eq_or_lt_of_le (show 58 ≤ m by omega) with e | e
    · exact e ▸ q_dm_58
    rcases Nat.eq_or_lt_of_le (show 59 ≤ m by omega) with e | e
    · exact e ▸ q_dm_59
    rcases Nat.eq_or_lt_of_le (show 60 ≤ m by omega) with e | e
    · exact e ▸ q_dm_60
    rcases Nat.eq_or_lt_of_le (show 61 ≤ m by omega) with e | e
    · exact e ▸ q_dm_61
    rcases Nat.eq_or_lt_of_le (show 62 ≤ m by omega) with e | e
    · exact e ▸ q_dm_62
    rcases Nat.eq_or_lt_of_le (show 63 ≤ m by omega) with e | e
    · exact e ▸ q_dm_63
    rcases Nat.eq_or_lt_of_le (show 64 ≤ m by omega) with e | e
    · exact e ▸ q_dm_64
    rcases Nat.eq_or_lt_of_le (show 65 ≤ m by omega) with e | e
    · exact e ▸ q_dm_65
    rcases Nat.eq_or_lt_of_le (show 66 ≤ m by omega) with e | e
    · exact e ▸ q_dm_66
    rcases Nat.eq_or_lt_of_le (show 67 ≤ m by omega) with e | e
    · exact e ▸ q_dm_67
    exact absurd q (by omega)
  rcases Nat.lt_or_ge m 100 with q | q
  · rcases Nat.eq_or_lt_of_le (show 68 ≤ m by omega) with e | e
    · exact e ▸ q_dm_68
    rcases Nat.eq_or_lt_of_le (show 69 ≤ m by omega) with e | e
    · exact e ▸ q_dm_69
    rcases Nat.eq_or_lt_of_le (show 70 ≤ m by omega) with e | e
    · exact e ▸ q_dm_70
    rcases Nat.eq_or_lt_of_le (show 71 ≤ m by omega) with e | e
    · exact e ▸ q_dm_71
    rcases Nat.eq_or_lt_of_le (show 72 ≤ m by omega) with e | e
    · exact e ▸ q_dm_72
    rcases Nat.eq_or_lt_of_le (show 73 ≤ m by omega) with e | e
    · exact e ▸ q_dm_73
    rcases Nat.eq_or_lt_of_le (show 74 ≤ m by omega) with e | e
    · exact e ▸ q_dm_74
    rcases Nat.eq_or_lt_of_le (show 75 ≤ m by omega) with e | e
    · exact e ▸ q_dm_75
    rcases Nat.eq_or_lt_of_le (show 76 ≤ m by omega) with e | e
    · exact e ▸ q_dm_76
    rcases Nat.eq_or_lt_of_le (show 77 ≤ m by omega) with e | e
    · exact e ▸ q_dm_77
    rcases Nat.eq_or_lt_of_le (show 78 ≤ m by omega) with e | e
    · exact e ▸ q_dm_78
    rcases Nat.eq_or_lt_of_le (show 79 ≤ m by omega) with e | e
    · exact e ▸ q_dm_79
    rcases Nat.eq_or_lt_of_le (show 80 ≤ m by omega) with e | e
    · exact e ▸ q_dm_80
    rcases Nat.eq_or_lt_of_le (show 81 ≤ m by omega) with e | e
    · exact e ▸ q_dm_81
    rcases Nat.eq_or_lt_of_le (show 82 ≤ m by omega) with e | e
    · exact e ▸ q_dm_82
    rcases Nat.eq_or_lt_of_le (show 83 ≤ m by omega) with e | e
    · exact e ▸ q_dm_83
    rcases Nat.eq_or_lt_of_le (show 84 ≤ m by omega) with e | e
    · exact e ▸ q_dm_84
    rcases Nat.eq_or_lt_of_le (show 85 ≤ m by omega) with e | e
    · exact e ▸ q_dm_85
    rcases Nat.eq_or_lt_of_le (show 86 ≤ m by omega) with e | e
    · exact e ▸ q_dm_86
    rcases Nat.eq_or_lt_of_le (show 87 ≤ m by omega) with e | e
    · exact e ▸ q_dm_87
    rcases Nat.eq_or_lt_of_le (show 88 ≤ m by omega) with e | e
    · exact e ▸ q_dm_88
    rcases Nat.eq_or_lt_of_le (show 89 ≤ m by omega) with e | e
    · exact e ▸ q_dm_89
    rcases Nat.eq_or_lt_of_le (show 90 ≤ m by omega) with e | e
    · exact e ▸ q_dm_90
    rcases Nat.eq_or_lt_of_le (show 91 ≤ m by omega) with e | e
    · exact e ▸ q_dm_91
    rcases Nat.eq_or_lt_of_le (show 92 ≤ m by omega) with e | e
    · exact e ▸ q_dm_92
    rcases Nat.eq_or_lt_of_le (show 93 ≤ m by omega) with e | e
    · exact e ▸ q_dm_93
    rcases Nat.eq_or_lt_of_le (show 94 ≤ m by omega) with e | e
    · exact e ▸ q_dm_94
    rcases Nat.eq_or_lt_of_le (show 95 ≤ m by omega) with e | e
    · exact e ▸ q_dm_95
    rcases Nat.eq_or_lt_of_le (show 96 ≤ m by omega) with e | e
    · exact e ▸ q_dm_96
    rcases Nat.eq_or_lt_of_le (show 97 ≤ m by omega) with e | e
    · exact e ▸ q_dm_97
    rcases Nat.eq_or_lt_of_le (show 98 ≤ m by omega) with e | e
    · exact e ▸ q_dm_98
    rcases Nat.eq_or_lt_of_le (show 99 ≤ m by omega) with e | e
    · exact e ▸ q_dm_99
    exact absurd q (by omega)
  rcases Nat.lt_or_ge m 132 with q | q
  · rcases Nat.eq_or_lt_of_le (show 100 ≤ m by omega) with e | e
    · exact e ▸ q_dm_100
    rcases Nat.eq_or_lt_of_le (show 101 ≤ m by omega) with e | e
    · exact e ▸ q_dm_101
    rcases Nat.eq_or_lt_of_le (show 102 ≤ m by omega) with e | e
    · exact e ▸ q_dm_102
    rcases Nat.eq_or_lt_of_le (show 103 ≤ m by omega) with e | e
    · exact e ▸ q_dm_103
    rcases Nat.eq_or_lt_of_le (show 104 ≤ m by omega) with e | e
    · exact e ▸ q_dm_104
    rcases Nat.eq_or_lt_of_le (show 105 ≤ m by omega) with e | e
    · exact e ▸ q_dm_105
    rcases Nat.eq_or_lt_of_le (show 106 ≤ m by omega) with e | e
    · exact e ▸ q_dm_106
    rcases Nat.eq_or_lt_of_le (show 107 ≤ m by omega) with e | e
    · exact e ▸ q_dm_107
    rcases Nat.eq_or_lt_of_le (show 108 ≤ m by omega) with e | e
    · exact e ▸ q_dm_108
    rcases Nat.eq_or_lt_of_le (show 109 ≤ m by omega) with e | e
    · exact e ▸ q_dm_109
    rcases Nat.eq_or_lt_of_le (show 110 ≤ m by omega) with e | e
    · exact e ▸ q_dm_110
    rcases Nat.eq_or_lt_of_le (show 111 ≤ m by omega) with e | e
    · exact e ▸ q_dm_111
    rcases Nat.eq_or_lt_of_le (show 112 ≤ m by omega) with e | e
    · exact e ▸ q_dm_112
    rcases Nat.eq_or_lt_of_le (show 113 ≤ m by omega) with e | e
    · exact e ▸ q_dm_113
    rcases Nat.eq_or_lt_of_le (show 114 ≤ m by omega) with e | e
    · exact e ▸ q_dm_114
    rcases Nat.eq_or_lt_of_le (show 115 ≤ m by omega) with e | e
    · exact e ▸ q_dm_115
    rcases Nat.eq_or_lt_of_le (show 116 ≤ m by omega) with e | e
    · exact e ▸ q_dm_116
    rcases Nat.eq_or_lt_of_le (show 117 ≤ m by omega) with e | e
    · exact e ▸ q_dm_117
    rcases Nat.eq_or_lt_of_le (show 118 ≤ m by omega) with e | e
    · exact e ▸ q_dm_118
    rcases Nat.eq_or_lt_of_le (show 119 ≤ m by omega) with e | e
    · exact e ▸ q_dm_119
    rcases Nat.eq_or_lt_of_le (show 120 ≤ m by omega) with e | e
    · exact e ▸ q_dm_120
    rcases Nat.eq_or_lt_of_le (show 121 ≤ m by omega) with e | e
    · exact e ▸ q_dm_121
    rcases Nat.eq_or_lt_of_le (show 122 ≤ m by omega) with e | e
    · exact e ▸ q_dm_122
    rcases Nat.eq_or_lt_of_le (show 123 ≤ m by omega) with e | e
    · exact e ▸ q_dm_123
    rcases Nat.eq_or_lt_of_le (show 124 ≤ m by omega) with e | e
    · exact e ▸ q_dm_124
    rcases Nat.eq_or_lt_of_le (show 125 ≤ m by omega) with e | e
    · exact e ▸ q_dm_125
    rcases Nat.eq_or_lt_of_le (show 126 ≤ m by omega) with e | e
    · exact e ▸ q_dm_126
    rcases Nat.eq_or_lt_of_le (show 127 ≤ m by omega) with e | e
    · exact e ▸ q_dm_127
    rcases Nat.eq_or_lt_of_le (show 128 ≤ m by omega) with e | e
    · exact e ▸ q_dm_128
    rcases Nat.eq_or_lt_of_le (show 129 ≤ m by omega) with e | e
    · exact e ▸ q_dm_129
    rcases Nat.eq_or_lt_of_le (show 130 ≤ m by omega) with e | e
    · exact e ▸ q_dm_130
    rcases Nat.eq_or_lt_of_le (show 131 ≤ m by omega) with e | e
    · exact e ▸ q_dm_131
    exact absurd q (by omega)
  rcases Nat.lt_or_ge m 164 with q | q
  · rcases Nat.eq_or_lt_of_le (show 132 ≤ m by omega) with e | e
    · exact e ▸ q_dm_132
    rcases Nat.eq_or_lt_of_le (show 133 ≤ m by omega) with e | e
    · exact e ▸ q_dm_133
    rcases Nat.eq_or_lt_of_le (show 134 ≤ m by omega) with e | e
    · exact e ▸ q_dm_134
    rcases Nat.eq_or_lt_of_le (show 135 ≤ m by omega) with e | e
    · exact e ▸ q_dm_135
    rcases Nat.eq_or_lt_of_le (show 136 ≤ m by omega) with e | e
    · exact e ▸ q_dm_136
    rcases Nat.eq_or_lt_of_le (show 137 ≤ m by omega) with e | e
    · exact e ▸ q_dm_137
    rcases Nat.eq_or_lt_of_le (show 138 ≤ m by omega) with e | e
    · exact e ▸ q_dm_138
    rcases Nat.eq_or_lt_of_le (show 139 ≤ m by omega) with e | e
    · exact e ▸ q_dm_139
    rcases Nat.eq_or_lt_of_le (show 140 ≤ m by omega) with e | e
    · exact e ▸ q_dm_140
    rcases Nat.eq_or_lt_of_le (show 141 ≤ m by omega) with e | e
    · exact e ▸ q_dm_141
    rcases Nat.eq_or_lt_of_le (show 142 ≤ m by omega) with e | e
    · exact e ▸ q_dm_142
    rcases Nat.eq_or_lt_of_le (show 143 ≤ m by omega) with e | e
    · exact e ▸ q_dm_143
    rcases Nat.eq_or_lt_of_le (show 144 ≤ m by omega) with e | e
    · exact e ▸ q_dm_144
    rcases Nat.eq_or_lt_of_le (show 145 ≤ m by omega) with e | e
    · exact e ▸ q_dm_145
    rcases Nat.eq_or_lt_of_le (show 146 ≤ m by omega) with e | e
    · exact e ▸ q_dm_146
    rcases Nat.eq_or_lt_of_le (show 147 ≤ m by omega) with e | e
    · exact e ▸ q_dm_147
    rcases Nat.eq_or_lt_of_le (show 148 ≤ m by omega) with e | e
    · exact e ▸ q_dm_148
    rcases Nat.eq_or_lt_of_le (show 149 ≤ m by omega) with e | e
    · exact e ▸ q_dm_149
    rcases Nat.eq_or_lt_of_le (show 150 ≤ m by omega) with e | e
    · exact e ▸ q_dm_150
    rcases Nat.eq_or_lt_of_le (show 151 ≤ m by omega) with e | e
    · exact e ▸ q_dm_151
    rcases Nat.eq_or_lt_of_le (show 152 ≤ m by omega) with e | e
    · exact e ▸ q_dm_152
    rcases Nat.eq_or_lt_of_le (show 153 ≤ m by omega) with e | e
    · exact e ▸ q_dm_153
    rcases Nat.eq_or_lt_of_le (show 154 ≤ m by omega) with e | e
    · exact e ▸ q_dm_154
    rcases Nat.eq_or_lt_of_le (show 155 ≤ m by omega) with e | e
    · exact e ▸ q_dm_155
    rcases Nat.eq_or_lt_of_le (show 156 ≤ m by omega) with e | e
    · exact e ▸ q_dm_156
    rcases Nat.eq_or_lt_of_le (show 157 ≤ m by omega) with e | e
    · exact e ▸ q_dm_157
    rcases Nat.eq_or_lt_of_le (show 158 ≤ m by omega) with e | e
    · exact e ▸ q_dm_158
    rcases Nat.eq_or_lt_of_le (show 159 ≤ m by omega) with e | e
    · exact e ▸ q_dm_159
    rcases Nat.eq_or_lt_of_le (show 160 ≤ m by omega) with e | e
    · exact e ▸ q_dm_160
    rcases Nat.eq_or_lt_of_le (show 161 ≤ m by omega) with e | e
    · exact e ▸ q_dm_161
    rcases Nat.eq_or_lt_of_le (show 162 ≤ m by omega) with e | e
    · exact e ▸ q_dm_162
    rcases Nat.eq_or_lt_of_le (show 163 ≤ m by omega) with e | e
    · exact e ▸ q_dm_163
    exact absurd q (by omega)
  rcases Nat.lt_or_ge m 196 with q | q
  · rcases Nat.eq_or_lt_of_le (show 164 ≤ m by omega) with e | e
    · exact e ▸ q_dm_164
    rcases Nat.eq_or_lt_of_le (show 165 ≤ m by omega) with e | e
    · exact e ▸ q_dm_165
    rcases Nat.eq_or_lt_of_le (show 166 ≤ m by omega) with e | e
    · exact e ▸ q_dm_166
    rcases Nat.eq_or_lt_of_le (show 167 ≤ m by omega) with e | e
    · exact e ▸ q_dm_167
    rcases Nat.eq_or_lt_of_le (show 168 ≤ m by omega) with e | e
    · exact e ▸ q_dm_168
    rcases Nat.eq_or_lt_of_le (show 169 ≤ m by omega) with e | e
    · exact e ▸ q_dm_169
    rcases Nat.eq_or_lt_of_le (show 170 ≤ m by omega) with e | e
    · exact e ▸ q_dm_170
    rcases Nat.eq_or_lt_of_le (show 171 ≤ m by omega) with e | e
    · exact e ▸ q_dm_171
    rcases Nat.eq_or_lt_of_le (show 172 ≤ m by omega) with e | e
    · exact e ▸ q_dm_172
    rcases Nat.eq_or_lt_of_le (show 173 ≤ m by omega) with e | e
    · exact e ▸ q_dm_173
    rcases Nat.eq_or_lt_of_le (show 174 ≤ m by omega) with e | e
    · exact e ▸ q_dm_174
    rcases Nat.eq_or_lt_of_le (show 175 ≤ m by omega) with e | e
    · exact e ▸ q_dm_175
    rcases Nat.eq_or_lt_of_le (show 176 ≤ m by omega) with e | e
    · exact e ▸ q_dm_176
    rcases Nat.eq_or_lt_of_le (show 177 ≤ m by omega) with e | e
    · exact e ▸ q_dm_177
    rcases Nat.eq_or_lt_of_le (show 178 ≤ m by omega) with e | e
    · exact e ▸ q_dm_178
    rcases Nat.eq_or_lt_of_le (show 179 ≤ m by omega) with e | e
    · exact e ▸ q_dm_179
    rcases Nat.eq_or_lt_of_le (show 180 ≤ m by omega) with e | e
    · exact e ▸ q_dm_180
    rcases Nat.eq_or_lt_of_le (show 181 ≤ m by omega) with e | e
    · exact e ▸ q_dm_181
    rcases Nat.eq_or_lt_of_le (show 182 ≤ m by omega) with e | e
    · exact e ▸ q_dm_182
    rcases Nat.eq_or_lt_of_le (show 183 ≤ m by omega) with e | e
    · exact e ▸ q_dm_183
    rcases Nat.eq_or_lt_of_le (show 184 ≤ m by omega) with e | e
    · exact e ▸ q_dm_184
    rcases Nat.eq_or_lt_of_le (show 185 ≤ m by omega) with e | e
    · exact e ▸ q_dm_185
    rcases Nat.eq_or_lt_of_le (show 186 ≤ m by omega) with e | e
    · exact e ▸ q_dm_186
    rcases Nat.eq_or_lt_of_le (show 187 ≤ m by omega) with e | e
    · exact e ▸ q_dm_187
    rcases Nat.eq_or_lt_of_le (show 188 ≤ m by omega) with e | e
    · exact e ▸ q_dm_188
    rcases Nat.eq_or_lt_of_le (show 189 ≤ m by omega) with e | e
    · exact e ▸ q_dm_189
    rcases Nat.eq_or_lt_of_le (show 190 ≤ m by omega) with e | e
    · exact e ▸ q_dm_190
    rcases Nat.eq_or_lt_of_le (show 191 ≤ m by omega) with e | e
    · exact e ▸ q_dm_191
    rcases Nat.eq_or_lt_of_le (show 192 ≤ m by omega) with e | e
    · exact e ▸ q_dm_192
    rcases Nat.eq_or_lt_of_le (show 193 ≤ m by omega) with e | e
    · exact e ▸ q_dm_193
    rcases Nat.eq_or_lt_of_le (show 194 ≤ m by omega) with e | e
    · exact e ▸ q_dm_194
    rcases Nat.eq_or_lt_of_le (show 195 ≤ m by omega) with e | e
    · exact e ▸ q_dm_195
    exact absurd q (by omega)
  rcases Nat.lt_or_ge m 228 with q | q
  · rcases Nat.eq_or_lt_of_le (show 196 ≤ m by omega) with e | e
    · exact e ▸ q_dm_196
    rcases Nat.eq_or_lt_of_le (show 197 ≤ m by omega) with e | e
    · exact e ▸ q_dm_197
    rcases Nat.eq_or_lt_of_le (show 198 ≤ m by omega) with e | e
    · exact e ▸ q_dm_198
    rcases Nat.eq_or_lt_of_le (show 199 ≤ m by omega) with e | e
    · exact e ▸ q_dm_199
    rcases Nat.eq_or_lt_of_le (show 200 ≤ m by omega) with e | e
    · exact e ▸ q_dm_200
    rcases Nat.eq_or_lt_of_le (show 201 ≤ m by omega) with e | e
    · exact e ▸ q_dm_201
    rcases Nat.eq_or_lt_of_le (show 202 ≤ m by omega) with e | e
    · exact e ▸ q_dm_202
    rcases Nat.eq_or_lt_of_le (show 203 ≤ m by omega) with e | e
    · exact e ▸ q_dm_203
    rcases Nat.eq_or_lt_of_le (show 204 ≤ m by omega) with e | e
    · exact e ▸ q_dm_204
    rcases Nat.eq_or_lt_of_le (show 205 ≤ m by omega) with e | e
    · exact e ▸ q_dm_205
    rcases Nat.eq_or_lt_of_le (show 206 ≤ m by omega) with e | e
    · exact e ▸ q_dm_206
    rcases Nat.eq_or_lt_of_le (show 207 ≤ m by omega) with e | e
    · exact e ▸ q_dm_207
    rcases Nat.eq_or_lt_of_le (show 208 ≤ m by omega) with e | e
    · exact e ▸ q_dm_208
    rcases Nat.eq_or_lt_of_le (show 209 ≤ m by omega) with e | e
    · exact e ▸ q_dm_209
    rcases Nat.eq_or_lt_of_le (show 210 ≤ m by omega) with e | e
    · exact e ▸ q_dm_210
    rcases Nat.eq_or_lt_of_le (show 211 ≤ m by omega) with e | e
    · exact e ▸ q_dm_211
    rcases Nat.eq_or_lt_of_le (show 212 ≤ m by omega) with e | e
    · exact e ▸ q_dm_212
    rcases Nat.eq_or_lt_of_le (show 213 ≤ m by omega) with e | e
    · exact e ▸ q_dm_213
    rcases Nat.eq_or_lt_of_le (show 214 ≤ m by omega) with e | e
    · exact e ▸ q_dm_214
    rcases Nat.eq_or_lt_of_le (show 215 ≤ m by omega) with e | e
    · exact e ▸ q_dm_215
    rcases Nat.eq_or_lt_of_le (show 216 ≤ m by omega) with e | e
    · exact e ▸ q_dm_216
    rcases Nat.eq_or_lt_of_le (show 217 ≤ m by omega) with e | e
    · exact e ▸ q_dm_217
    rcases Nat.eq_or_lt_of_le (show 218 ≤ m by omega) with e | e
    · exact e ▸ q_dm_218
    rcases Nat.eq_or_lt_of_le (show 219 ≤ m by omega) with e | e
    · exact e ▸ q_dm_219
    rcases Nat.eq_or_lt_of_le (show 220 ≤ m by omega) with e | e
    · exact e ▸ q_dm_220
    rcases Nat.eq_or_lt_of_le (show 221 ≤ m by omega) with e | e
    · exact e ▸ q_dm_221
    rcases Nat.eq_or_lt_of_le (show 222 ≤ m by omega) with e | e
    · exact e ▸ q_dm_222
    rcases Nat.eq_or_lt_of_le (show 223 ≤ m by omega) with e | e
    · exact e ▸ q_dm_223
    rcases Nat.eq_or_lt_of_le (show 224 ≤ m by omega) with e | e
    · exact e ▸ q_dm_224
    rcases Nat.eq_or_lt_of_le (show 225 ≤ m by omega) with e | e
    · exact e ▸ q_dm_225
    rcases Nat.eq_or_lt_of_le (show 226 ≤ m by omega) with e | e
    · exact e ▸ q_dm_226
    rcases Nat.eq_or_lt_of_le (show 227 ≤ m by omega) with e | e
    · exact e ▸ q_dm_227
    exact absurd q (by omega)
  rcases Nat.lt_or_ge m 260 with q | q
  · rcases Nat.eq_or_lt_of_le (show 228 ≤ m by omega) with e | e
    · exact e ▸ q_dm_228
    rcases Nat.eq_or_lt_of_le (show 229 ≤ m by omega) with e | e
    · exact e ▸ q_dm_229
    rcases Nat.eq_or_lt_of_le (show 230 ≤ m by omega) with e | e
    · exact e ▸ q_dm_230
    rcases Nat.eq_or_lt_of_le (show 231 ≤ m by omega) with e | e
    · exact e ▸ q_dm_231
    rcases Nat.eq_or_lt_of_le (show 232 ≤ m by omega) with e | e
    · exact e ▸ q_dm_232
    rcases Nat.eq_or_lt_of_le (show 233 ≤ m by omega) with e | e
    · exact e ▸ q_dm_233
    rcases Nat.eq_or_lt_of_le (show 234 ≤ m by omega) with e | e
    · exact e ▸ q_dm_234
    rcases Nat.eq_or_lt_of_le (show 235 ≤ m by omega) with e | e
    · exact e ▸ q_dm_235
    rcases Nat.eq_or_lt_of_le (show 236 ≤ m by omega) with e | e
    · exact e ▸ q_dm_236
    rcases Nat.eq_or_lt_of_le (show 237 ≤ m by omega) with e | e
    · exact e ▸ q_dm_237
    rcases Nat.eq_or_lt_of_le (show 238 ≤ m by omega) with e | e
    · exact e ▸ q_dm_238
    rcases Nat.eq_or_lt_of_le (show 239 ≤ m by omega) with e | e
    · exact e ▸ q_dm_239
    rcases Nat.eq_or_lt_of_le (show 240 ≤ m by omega) with e | e
    · exact e ▸ q_dm_240
    rcases Nat.eq_or_lt_of_le (show 241 ≤ m by omega) with e | e
    · exact e ▸ q_dm_241
    rcases Nat.eq_or_lt_of_le (show 242 ≤ m by omega) with e | e
    · exact e ▸ q_dm_242
    rcases Nat.eq_or_lt_of_le (show 243 ≤ m by omega) with e | e
    · exact e ▸ q_dm_243
    rcases Nat.eq_or_lt_of_le (show 244 ≤ m by omega) with e | e
    · exact e ▸ q_dm_244
    rcases Nat.eq_or_lt_of_le (show 245 ≤ m by omega) with e | e
    · exact e ▸ q_dm_245
    rcases Nat.eq_or_lt_of_le (show 246 ≤ m by omega) with e | e
    · exact e ▸ q_dm_246
    rcases Nat.eq_or_lt_of_le (show 247 ≤ m by omega) with e | e
    · exact e ▸ q_dm_247
    rcases Nat.eq_or_lt_of_le (show 248 ≤ m by omega) with e | e
    · exact e ▸ q_dm_248
    rcases Nat.eq_or_lt_of_le (show 249 ≤ m by omega) with e | e
    · exact e ▸ q_dm_249
    rcases Nat.eq_or_lt_of_le (show 250 ≤ m by omega) with e | e
    · exact e ▸ q_dm_250
    rcases Nat.eq_or_lt_of_le (show 251 ≤ m by omega) with e | e
    · exact e ▸ q_dm_251
    rcases Nat.eq_or_lt_of_le (show 252 ≤ m by omega) with e | e
    · exact e ▸ q_dm_252
    rcases Nat.eq_or_lt_of_le (show 253 ≤ m by omega) with e | e
    · exact e ▸ q_dm_253
    rcases Nat.eq_or_lt_of_le (show 254 ≤ m by omega) with e | e
    · exact e ▸ q_dm_254
    rcases Nat.eq_or_lt_of_le (show 255 ≤ m by omega) with e | e
    · exact e ▸ q_dm_255
    rcases Nat.eq_or_lt_of_le (show 256 ≤ m by omega) with e | e
    · exact e ▸ q_dm_256
    rcases Nat.eq_or_lt_of_le (show 257 ≤ m by omega) with e | e
    · exact e ▸ q_dm_257
    rcases Nat.eq_or_lt_of_le (show 258 ≤ m by omega) with e | e
    · exact e ▸ q_dm_258
    rcases Nat.eq_or_lt_of_le (show 259 ≤ m by omega) with e | e
    · exact e ▸ q_dm_259
    exact absurd q (by omega)
  rcases Nat.lt_or_ge m 292 with q | q
  · rcases Nat.eq_or_lt_of_le (show 260 ≤ m by omega) with e | e
    · exact e ▸ q_dm_260
    rcases Nat.eq_or_lt_of_le (show 261 ≤ m by omega) with e | e
    · exact e ▸ q_dm_261
    rcases Nat.eq_or_lt_of_le (show 262 ≤ m by omega) with e | e
    · exact e ▸ q_dm_262
    rcases Nat.eq_or_lt_of_le (show 263 ≤ m by omega) with e | e
    · exact e ▸ q_dm_263
    rcases Nat.eq_or_lt_of_le (show 264 ≤ m by omega) with e | e
    · exact e ▸ q_dm_264
    rcases Nat.eq_or_lt_of_le (show 265 ≤ m by omega) with e | e
    · exact e ▸ q_dm_265
    rcases Nat.eq_or_lt_of_le (show 266 ≤ m by omega) with e | e
    · exact e ▸ q_dm_266
    rcases Nat.eq_or_lt_of_le (show 267 ≤ m by omega) with e | e
    · exact e ▸ q_dm_267
    rcases Nat.eq_or_lt_of_le (show 268 ≤ m by omega) with e | e
    · exact e ▸ q_dm_268
    rcases Nat.eq_or_lt_of_le (show 269 ≤ m by omega) with e | e
    · exact e ▸ q_dm_269
    rcases Nat.eq_or_lt_of_le (show 270 ≤ m by omega) with e | e
    · exact e ▸ q_dm_270
    rcases Nat.eq_or_lt_of_le (show 271 ≤ m by omega) with e | e
    · exact e ▸ q_dm_271
    rcases Nat.eq_or_lt_of_le (show 272 ≤ m by omega) with e | e
    · exact e ▸ q_dm_272
    rcases Nat.eq_or_lt_of_le (show 273 ≤ m by omega) with e | e
    · exact e ▸ q_dm_273
    rcases Nat.eq_or_lt_of_le (show 274 ≤ m by omega) with e | e
    · exact e ▸ q_dm_274
    rcases Nat.eq_or_lt_of_le (show 275 ≤ m by omega) with e | e
    · exact e ▸ q_dm_275
    rcases Nat.eq_or_lt_of_le (show 276 ≤ m by omega) with e | e
    · exact e ▸ q_dm_276
    rcases Nat.eq_or_lt_of_le (show 277 ≤ m by omega) with e | e
    · exact e ▸ q_dm_277
    rcases Nat.eq_or_lt_of_le (show 278 ≤ m by omega) with e | e
    · exact e ▸ q_dm_278
    rcases Nat.eq_or_lt_of_le (show 279 ≤ m by omega) with e | e
    · exact e ▸ q_dm_279
    rcases Nat.eq_or_lt_of_le (show 280 ≤ m by omega) with e | e
    · exact e ▸ q_dm_280
    rcases Nat.eq_or_lt_of_le (show 281 ≤ m by omega) with e | e
    · exact e ▸ q_dm_281
    rcases Nat.eq_or_lt_of_le (show 282 ≤ m by omega) with e | e
    · exact e ▸ q_dm_282
    rcases Nat.eq_or_lt_of_le (show 283 ≤ m by omega) with e | e
    · exact e ▸ q_dm_283
    rcases Nat.eq_or_lt_of_le (show 284 ≤ m by omega) with e | e
    · exact e ▸ q_dm_284
    rcases Nat.eq_or_lt_of_le (show 285 ≤ m by omega) with e | e
    · exact e ▸ q_dm_285
    rcases Nat.eq_or_lt_of_le (show 286 ≤ m by omega) with e | e
    · exact e ▸ q_dm_286
    rcases Nat.eq_or_lt_of_le (show 287 ≤ m by omega) with e | e
    · exact e ▸ q_dm_287
    rcases Nat.eq_or_lt_of_le (show 288 ≤ m by omega) with e | e
    · exact e ▸ q_dm_288
    rcases Nat.eq_or_lt_of_le (show 289 ≤ m by omega) with e | e
    · exact e ▸ q_dm_289
    rcases Nat.eq_or_lt_of_le (show 290 ≤ m by omega) with e | e
    · exact e ▸ q_dm_290
    rcases Nat.eq_or_lt_of_le (show 291 ≤ m by omega) with e | e
    · exact e ▸ q_dm_291
    exact absurd q (by omega)
  rcases Nat.lt_or_ge m 310 with q | q
  · rcases Nat.eq_or_lt_of_le (show 292 ≤ m by omega) with e | e
    · exact e ▸ q_dm_292
    rcases Nat.eq_or_lt_of_le (show 293 ≤ m by omega) with e | e
    · exact e ▸ q_dm_293
    rcases Nat.eq_or_lt_of_le (show 294 ≤ m by omega) with e | e
    · exact e ▸ q_dm_294
    rcases Nat.eq_or_lt_of_le (show 295 ≤ m by omega) with e | e
    · exact e ▸ q_dm_295
    rcases Nat.eq_or_lt_of_le (show 296 ≤ m by omega) with e | e
    · exact e ▸ q_dm_296
    rcases Nat.eq_or_lt_of_le (show 297 ≤ m by omega) with e | e
    · exact e ▸ q_dm_297
    rcases Nat.eq_or_lt_of_le (show 298 ≤ m by omega) with e | e
    · exact e ▸ q_dm_298
    rcases Nat.eq_or_lt_of_le (show 299 ≤ m by omega) with e | e
    · exact e ▸ q_dm_299
    rcases Nat.eq_or_lt_of_le (show 300 ≤ m by omega) with e | e
    · exact e ▸ q_dm_300
    rcases Nat.eq_or_lt_of_le (show 301 ≤ m by omega) with e | e
    · exact e ▸ q_dm_301
    rcases Nat.eq_or_lt_of_le (show 302 ≤ m by omega) with e | e
    · exact e ▸ q_dm_302
    rcases Nat.eq_or_lt_of_le (show 303 ≤ m by omega) with e | e
    · exact e ▸ q_dm_303
    rcases Nat.eq_or_lt_of_le (show 304 ≤ m by omega) with e | e
    · exact e ▸ q_dm_304
    rcases Nat.eq_or_lt_of_le (show 305 ≤ m by omega) with e | e
    · exact e ▸ q_dm_305
    rcases Nat.eq_or_lt_of_le (show 306 ≤ m by omega) with e | e
    · exact e ▸ q_dm_306
    rcases Nat.eq_or_lt_of_le (show 307 ≤ m by omega) with e | e
    · exact e ▸ q_dm_307
    rcases Nat.eq_or_lt_of_le (show 308 ≤ m by omega) with e | e
    · exact e ▸ q_dm_308
    rcases Nat.eq_or_lt_of_le (show 309 ≤ m by omega) with e | e
    · exact e ▸ q_dm_309
    exact absurd q (by omega)
  exact absurd h2 (by omega)
