/-! Block equations of the methods 205 to 236 (printed by a program of ours out of their code). -/
-- LeavesObjectModel.moods(II)I
theorem c205_0 : cdx (mC m205) 0 = some (0, .aload_n 0, 1, 0, 0, 0, 0, []) := rfl
theorem c205_1 : cdx (mC m205) 1 = some (1, .iload_n 1, 1, 1, 0, 0, 0, []) := rfl
theorem c205_2 : cdx (mC m205) 2 = some (2, .invokevirtual 221, 3, 145, 1, 0, 5099, [(10, 0)]) := rfl
theorem c205_5 : cdx (mC m205) 5 = some (5, .ifCond .eq 13, 3, 18, 0, 0, 0, []) := rfl
theorem c205_8 : cdx (mC m205) 8 = some (8, .aload_n 0, 1, 0, 0, 0, 0, []) := rfl
theorem c205_9 : cdx (mC m205) 9 = some (9, .iload_n 2, 1, 2, 0, 0, 0, []) := rfl
theorem c205_10 : cdx (mC m205) 10 = some (10, .iconst 0, 1, 0, 0, 0, 0, []) := rfl
theorem c205_11 : cdx (mC m205) 11 = some (11, .iconst 1, 1, 0, 0, 0, 0, []) := rfl
theorem c205_12 : cdx (mC m205) 12 = some (12, .invokevirtual 213, 3, 142, 3, 0, 5087, [(10, 0)]) := rfl
theorem c205_15 : cdx (mC m205) 15 = some (15, .ifCond .ne 5, 3, 20, 0, 0, 0, []) := rfl
theorem c205_18 : cdx (mC m205) 18 = some (18, .iconst (-1), 1, 0, 0, 0, 0, []) := rfl
theorem c205_19 : cdx (mC m205) 19 = some (19, .ireturn, 1, 0, 0, 0, 0, []) := rfl
theorem c205_20 : cdx (mC m205) 20 = some (20, .aload_n 0, 1, 0, 0, 0, 0, []) := rfl
theorem c205_21 : cdx (mC m205) 21 = some (21, .getfield 26, 3, 10, 5, 0, 4131, []) := rfl
theorem c205_24 : cdx (mC m205) 24 = some (24, .iload_n 1, 1, 1, 0, 0, 0, []) := rfl
theorem c205_25 : cdx (mC m205) 25 = some (25, .iaload, 1, 0, 0, 0, 0, []) := rfl
theorem c205_26 : cdx (mC m205) 26 = some (26, .istore_n 3, 1, 3, 0, 0, 0, []) := rfl
theorem c205_27 : cdx (mC m205) 27 = some (27, .iconst 0, 1, 0, 0, 0, 0, []) := rfl
theorem c205_28 : cdx (mC m205) 28 = some (28, .istore 4, 2, 4, 0, 0, 0, []) := rfl
theorem c205_30 : cdx (mC m205) 30 = some (30, .bipush (-5), 2, 0, 0, 0, 0, []) := rfl
theorem c205_32 : cdx (mC m205) 32 = some (32, .istore 5, 2, 5, 0, 0, 0, []) := rfl
theorem c205_34 : cdx (mC m205) 34 = some (34, .bipush 9, 2, 0, 0, 0, 0, []) := rfl
theorem c205_36 : cdx (mC m205) 36 = some (36, .istore 6, 2, 6, 0, 0, 0, []) := rfl
theorem c205_38 : cdx (mC m205) 38 = some (38, .iload 6, 2, 6, 0, 0, 0, []) := rfl
theorem c205_40 : cdx (mC m205) 40 = some (40, .ifCond .lt 35, 3, 75, 0, 0, 0, []) := rfl
theorem c205_43 : cdx (mC m205) 43 = some (43, .aload_n 0, 1, 0, 0, 0, 0, []) := rfl
theorem c205_44 : cdx (mC m205) 44 = some (44, .getfield 26, 3, 10, 5, 0, 4131, []) := rfl
theorem c205_47 : cdx (mC m205) 47 = some (47, .iload_n 1, 1, 1, 0, 0, 0, []) := rfl
theorem c205_48 : cdx (mC m205) 48 = some (48, .iload 6, 2, 6, 0, 0, 0, []) := rfl
theorem c205_50 : cdx (mC m205) 50 = some (50, .iastore, 1, 0, 0, 0, 0, []) := rfl
theorem c205_51 : cdx (mC m205) 51 = some (51, .aload_n 0, 1, 0, 0, 0, 0, []) := rfl
theorem c205_52 : cdx (mC m205) 52 = some (52, .iload_n 1, 1, 1, 0, 0, 0, []) := rfl
theorem c205_53 : cdx (mC m205) 53 = some (53, .invokevirtual 363, 3, 206, 1, 0, 6104, [(10, 0)]) := rfl
theorem c205_56 : cdx (mC m205) 56 = some (56, .ifCond .ne 6, 3, 62, 0, 0, 0, []) := rfl
theorem c205_59 : cdx (mC m205) 59 = some (59, .goto 10, 3, 69, 0, 0, 0, []) := rfl
theorem c205_62 : cdx (mC m205) 62 = some (62, .iinc 4 1, 3, 4, 0, 0, 0, []) := rfl
theorem c205_65 : cdx (mC m205) 65 = some (65, .iload 6, 2, 6, 0, 0, 0, []) := rfl
theorem c205_67 : cdx (mC m205) 67 = some (67, .istore 5, 2, 5, 0, 0, 0, []) := rfl
theorem c205_69 : cdx (mC m205) 69 = some (69, .iinc 6 (-1), 3, 6, 0, 0, 0, []) := rfl
theorem c205_72 : cdx (mC m205) 72 = some (72, .goto (-34), 3, 38, 0, 0, 0, []) := rfl
theorem c205_75 : cdx (mC m205) 75 = some (75, .aload_n 0, 1, 0, 0, 0, 0, []) := rfl
theorem c205_76 : cdx (mC m205) 76 = some (76, .getfield 26, 3, 10, 5, 0, 4131, []) := rfl
theorem c205_79 : cdx (mC m205) 79 = some (79, .iload_n 1, 1, 1, 0, 0, 0, []) := rfl
theorem c205_80 : cdx (mC m205) 80 = some (80, .iload_n 3, 1, 3, 0, 0, 0, []) := rfl
theorem c205_81 : cdx (mC m205) 81 = some (81, .iastore, 1, 0, 0, 0, 0, []) := rfl
theorem c205_82 : cdx (mC m205) 82 = some (82, .iload_n 2, 1, 2, 0, 0, 0, []) := rfl
theorem c205_83 : cdx (mC m205) 83 = some (83, .ifCond .ne 8, 3, 91, 0, 0, 0, []) := rfl
theorem c205_86 : cdx (mC m205) 86 = some (86, .iload 4, 2, 4, 0, 0, 0, []) := rfl
theorem c205_88 : cdx (mC m205) 88 = some (88, .goto 5, 3, 93, 0, 0, 0, []) := rfl
theorem c205_91 : cdx (mC m205) 91 = some (91, .iload 5, 2, 5, 0, 0, 0, []) := rfl
theorem c205_93 : cdx (mC m205) 93 = some (93, .ireturn, 1, 0, 0, 0, 0, []) := rfl
theorem b205_0 {X : Nat × (Nat → Int32)} {d : Nat} {I : Nat → Nat → Int32} {L : Nat → Nat → Int64} {Q : Option Value → XW → Prop} {x1 : Int32} {x2 : Int32}  : wp X (d + 1) m205 0 [some (.ref 124), some (.int x1), some (.int x2), none, none, none, none] [] (K0, R0, I, L) Q ↔ wp X d m145 0 [some (.ref 124), some (.int x1)] [] (K0, R0, I, L) (fun r w1 => wp X (d + 1) m205 5 [some (.ref 124), some (.int x1), some (.int x2), none, none, none, none] (r.toList ++ []) w1 Q) := (w_aload_n (pc' := 1) c205_0 rfl rfl).trans ((w_iload_n (pc' := 2) c205_1 rfl rfl).trans ((w_callv (pc' := 5) c205_2 mt145 rfl (Nat.le_of_ble_eq_true rfl) rfl kd_124 rfl rfl (Nat.le_of_ble_eq_true rfl) rfl rfl)))
theorem b205_5 {X : Nat × (Nat → Int32)} {d : Nat} {I : Nat → Nat → Int32} {L : Nat → Nat → Int64} {Q : Option Value → XW → Prop} {x1 : Int32} {x2 : Int32} {s0 : Int32}  : wp X (d + 1) m205 5 [some (.ref 124), some (.int x1), some (.int x2), none, none, none, none] [(.int s0)] (K0, R0, I, L) Q ↔ (if s0 = 0 then Q (some (.int (-1))) (K0, R0, I, L) else wp X d m142 0 [some (.ref 124), some (.int x2), some (.int 0), some (.int 1)] [] (K0, R0, I, L) (fun r w1 => wp X (d + 1) m205 15 [some (.ref 124), some (.int x1), some (.int x2), none, none, none, none] (r.toList ++ []) w1 Q)) := (w_if_eq (pc' := 8) c205_5 rfl).trans (ite_iff ((w_iconst (pc' := 19) (v := (-1)) c205_18 rfl rfl).trans (w_iret c205_19 rfl)) ((w_aload_n (pc' := 9) c205_8 rfl rfl).trans ((w_iload_n (pc' := 10) c205_9 rfl rfl).trans ((w_iconst (pc' := 11) (v := 0) c205_10 rfl rfl).trans ((w_iconst (pc' := 12) (v := 1) c205_11 rfl rfl).trans ((w_callv (pc' := 15) c205_12 mt142 rfl (Nat.le_of_ble_eq_true rfl) rfl kd_124 rfl rfl (Nat.le_of_ble_eq_true rfl) rfl rfl)))))))
theorem b205_15 {X : Nat × (Nat → Int32)} {d : Nat} {I : Nat → Nat → Int32} {L : Nat → Nat → Int64} {Q : Option Value → XW → Prop} {x1 : Int32} {x2 : Int32} {s0 : Int32}  : wp X d m205 15 [some (.ref 124), some (.int x1), some (.int x2), none, none, none, none] [(.int s0)] (K0, R0, I, L) Q ↔ (if s0 = 0 then Q (some (.int (-1))) (K0, R0, I, L) else (inA x1 5 = true ∧ wp X d m205 38 [some (.ref 124), some (.int x1), some (.int x2), some (.int (I 128 (Int32.toNatClampNeg x1))), some (.int 0), some (.int (-5)), some (.int 9)] [] (K0, R0, I, L) Q)) := (w_if_ne (pc' := 18) c205_15 rfl).trans (ite_iff ((w_iconst (pc' := 19) (v := (-1)) c205_18 rfl rfl).trans (w_iret c205_19 rfl)) ((w_aload_n (pc' := 21) c205_20 rfl rfl).trans ((w_getR (pc' := 24) (q := 128) c205_21 kd_124 (by decide) rfl rd_124_5 rfl).trans ((w_iload_n (pc' := 25) c205_24 rfl rfl).trans ((w_ialdv (pc' := 26) (v := (I 128 (Int32.toNatClampNeg x1))) c205_25 kd_128 (rfl) rfl).trans (and_congr_right (fun _ => (w_istore_n (pc' := 27) (ls' := [some (.ref 124), some (.int x1), some (.int x2), some (.int (I 128 (Int32.toNatClampNeg x1))), none, none, none]) c205_26 (Nat.le_of_ble_eq_true rfl) rfl rfl).trans ((w_iconst (pc' := 28) (v := 0) c205_27 rfl rfl).trans ((w_istore (pc' := 30) (ls' := [some (.ref 124), some (.int x1), some (.int x2), some (.int (I 128 (Int32.toNatClampNeg x1))), some (.int 0), none, none]) c205_28 (Nat.le_of_ble_eq_true rfl) rfl rfl).trans ((w_bipush (pc' := 32) (v := (-5)) c205_30 rfl rfl).trans ((w_istore (pc' := 34) (ls' := [some (.ref 124), some (.int x1), some (.int x2), some (.int (I 128 (Int32.toNatClampNeg x1))), some (.int 0), some (.int (-5)), none]) c205_32 (Nat.le_of_ble_eq_true rfl) rfl rfl).trans ((w_bipush (pc' := 36) (v := 9) c205_34 rfl rfl).trans ((w_istore (pc' := 38) (ls' := [some (.ref 124), some (.int x1), some (.int x2), some (.int (I 128 (Int32.toNatClampNeg x1))), some (.int 0), some (.int (-5)), some (.int 9)]) c205_36 (Nat.le_of_ble_eq_true rfl) rfl rfl))))))))))))))
theorem b205_38 {X : Nat × (Nat → Int32)} {d : Nat} {I : Nat → Nat → Int32} {L : Nat → Nat → Int64} {Q : Option Value → XW → Prop} {x1 : Int32} {x2 : Int32} {x3 : Int32} {x4 : Int32} {x5 : Int32} {x6 : Int32}  : wp X (d + 1) m205 38 [some (.ref 124), some (.int x1), some (.int x2), some (.int x3), some (.int x4), some (.int x5), some (.int x6)] [] (K0, R0, I, L) Q ↔ (if x6 < 0 then (inA x1 5 = true ∧ Q (some (.int (if x2 = 0 then x4 else x5))) (K0, R0, (updR I 128 (Int32.toNatClampNeg x1) x3), L)) else (inA x1 5 = true ∧ wp X d m206 0 [some (.ref 124), some (.int x1), none] [] (K0, R0, (updR I 128 (Int32.toNatClampNeg x1) x6), L) (fun r w1 => wp X (d + 1) m205 56 [some (.ref 124), some (.int x1), some (.int x2), some (.int x3), some (.int x4), some (.int x5), some (.int x6)] (r.toList ++ []) w1 Q))) := (w_iload (pc' := 40) c205_38 rfl rfl).trans ((w_if_lt (pc' := 43) c205_40 rfl).trans (ite_iff ((w_aload_n (pc' := 76) c205_75 rfl rfl).trans ((w_getR (pc' := 79) (q := 128) c205_76 kd_124 (by decide) rfl rd_124_5 rfl).trans ((w_iload_n (pc' := 80) c205_79 rfl rfl).trans ((w_iload_n (pc' := 81) c205_80 rfl rfl).trans ((w_iast (pc' := 82) c205_81 kd_128 rfl).trans (and_congr_right (fun _ => (w_iload_n (pc' := 83) c205_82 rfl rfl).trans ((w_if_ne (pc' := 86) c205_83 rfl).trans ((ite_iff ((w_iload (pc' := 88) c205_86 rfl rfl).trans ((w_goto c205_88).trans (w_iret c205_93 rfl))) ((w_iload (pc' := 93) c205_91 rfl rfl).trans (w_iret c205_93 rfl))).trans (ite_val (fun z => Q (some (.int z)) (K0, R0, (updR I 128 (Int32.toNatClampNeg x1) x3), L)))))))))))) ((w_aload_n (pc' := 44) c205_43 rfl rfl).trans ((w_getR (pc' := 47) (q := 128) c205_44 kd_124 (by decide) rfl rd_124_5 rfl).trans ((w_iload_n (pc' := 48) c205_47 rfl rfl).trans ((w_iload (pc' := 50) c205_48 rfl rfl).trans ((w_iast (pc' := 51) c205_50 kd_128 rfl).trans (and_congr_right (fun _ => (w_aload_n (pc' := 52) c205_51 rfl rfl).trans ((w_iload_n (pc' := 53) c205_52 rfl rfl).trans ((w_callv (pc' := 56) c205_53 mt206 rfl (Nat.le_of_ble_eq_true rfl) rfl kd_124 rfl rfl (Nat.le_of_ble_eq_true rfl) rfl rfl))))))))))))
theorem b205_56 {X : Nat × (Nat → Int32)} {d : Nat} {I : Nat → Nat → Int32} {L : Nat → Nat → Int64} {Q : Option Value → XW → Prop} {x1 : Int32} {x2 : Int32} {x3 : Int32} {x4 : Int32} {x5 : Int32} {x6 : Int32} {s0 : Int32}  : wp X d m205 56 [some (.ref 124), some (.int x1), some (.int x2), some (.int x3), some (.int x4), some (.int x5), some (.int x6)] [(.int s0)] (K0, R0, I, L) Q ↔ (if s0 = 0 then wp X d m205 38 [some (.ref 124), some (.int x1), some (.int x2), some (.int x3), some (.int x4), some (.int x5), some (.int (x6 + (-1)))] [] (K0, R0, I, L) Q else wp X d m205 38 [some (.ref 124), some (.int x1), some (.int x2), some (.int x3), some (.int (x4 + 1)), some (.int x6), some (.int (x6 + (-1)))] [] (K0, R0, I, L) Q) := (w_if_ne (pc' := 59) c205_56 rfl).trans (ite_iff ((w_goto c205_59).trans ((w_iinc (pc' := 72) (v := (x6 + (-1))) (ls' := [some (.ref 124), some (.int x1), some (.int x2), some (.int x3), some (.int x4), some (.int x5), some (.int (x6 + (-1)))]) c205_69 (Nat.le_of_ble_eq_true rfl) rfl rfl rfl rfl).trans ((w_goto c205_72)))) ((w_iinc (pc' := 65) (v := (x4 + 1)) (ls' := [some (.ref 124), some (.int x1), some (.int x2), some (.int x3), some (.int (x4 + 1)), some (.int x5), some (.int x6)]) c205_62 (Nat.le_of_ble_eq_true rfl) rfl rfl rfl rfl).trans ((w_iload (pc' := 67) c205_65 rfl rfl).trans ((w_istore (pc' := 69) (ls' := [some (.ref 124), some (.int x1), some (.int x2), some (.int x3), some (.int (x4 + 1)), some (.int x6), some (.int x6)]) c205_67 (Nat.le_of_ble_eq_true rfl) rfl rfl).trans ((w_iinc (pc' := 72) (v := (x6 + (-1))) (ls' := [some (.ref 124), some (.int x1), some (.int x2), some (.int x3), some (.int (x4 + 1)), some (.int x6), some (.int (x6 + (-1)))]) c205_69 (Nat.le_of_ble_eq_true rfl) rfl rfl rfl rfl).trans ((w_goto c205_72)))))))
-- LeavesObjectModel.isSeen(I)Z
theorem c206_0 : cdx (mC m206) 0 = some (0, .iconst 0, 1, 0, 0, 0, 0, []) := rfl
theorem c206_1 : cdx (mC m206) 1 = some (1, .istore_n 2, 1, 2, 0, 0, 0, []) := rfl
theorem c206_2 : cdx (mC m206) 2 = some (2, .iload_n 2, 1, 2, 0, 0, 0, []) := rfl
theorem c206_3 : cdx (mC m206) 3 = some (3, .aload_n 0, 1, 0, 0, 0, 0, []) := rfl
theorem c206_4 : cdx (mC m206) 4 = some (4, .getfield 105, 3, 10, 31, 0, 4157, []) := rfl
theorem c206_7 : cdx (mC m206) 7 = some (7, .if_icmp .ge 31, 3, 38, 0, 0, 0, []) := rfl
theorem c206_10 : cdx (mC m206) 10 = some (10, .aload_n 0, 1, 0, 0, 0, 0, []) := rfl
theorem c206_11 : cdx (mC m206) 11 = some (11, .iload_n 1, 1, 1, 0, 0, 0, []) := rfl
theorem c206_12 : cdx (mC m206) 12 = some (12, .aload_n 0, 1, 0, 0, 0, 0, []) := rfl
theorem c206_13 : cdx (mC m206) 13 = some (13, .getfield 108, 3, 10, 32, 0, 4158, []) := rfl
theorem c206_16 : cdx (mC m206) 16 = some (16, .iload_n 2, 1, 2, 0, 0, 0, []) := rfl
theorem c206_17 : cdx (mC m206) 17 = some (17, .iaload, 1, 0, 0, 0, 0, []) := rfl
theorem c206_18 : cdx (mC m206) 18 = some (18, .invokevirtual 339, 3, 187, 2, 0, 6027, [(10, 0)]) := rfl
theorem c206_21 : cdx (mC m206) 21 = some (21, .aload_n 0, 1, 0, 0, 0, 0, []) := rfl
theorem c206_22 : cdx (mC m206) 22 = some (22, .getfield 111, 3, 10, 33, 0, 4159, []) := rfl
theorem c206_25 : cdx (mC m206) 25 = some (25, .iload_n 2, 1, 2, 0, 0, 0, []) := rfl
theorem c206_26 : cdx (mC m206) 26 = some (26, .iaload, 1, 0, 0, 0, 0, []) := rfl
theorem c206_27 : cdx (mC m206) 27 = some (27, .if_icmp .eq 5, 3, 32, 0, 0, 0, []) := rfl
theorem c206_30 : cdx (mC m206) 30 = some (30, .iconst 0, 1, 0, 0, 0, 0, []) := rfl
theorem c206_31 : cdx (mC m206) 31 = some (31, .ireturn, 1, 0, 0, 0, 0, []) := rfl
theorem c206_32 : cdx (mC m206) 32 = some (32, .iinc 2 1, 3, 2, 0, 0, 0, []) := rfl
theorem c206_35 : cdx (mC m206) 35 = some (35, .goto (-33), 3, 2, 0, 0, 0, []) := rfl
theorem c206_38 : cdx (mC m206) 38 = some (38, .iconst 1, 1, 0, 0, 0, 0, []) := rfl
theorem c206_39 : cdx (mC m206) 39 = some (39, .ireturn, 1, 0, 0, 0, 0, []) := rfl
theorem b206_0 {X : Nat × (Nat → Int32)} {d : Nat} {I : Nat → Nat → Int32} {L : Nat → Nat → Int64} {Q : Option Value → XW → Prop} {x1 : Int32}  : wp X d m206 0 [some (.ref 124), some (.int x1), none] [] (K0, R0, I, L) Q ↔ wp X d m206 2 [some (.ref 124), some (.int x1), some (.int 0)] [] (K0, R0, I, L) Q := (w_iconst (pc' := 1) (v := 0) c206_0 rfl rfl).trans ((w_istore_n (pc' := 2) (ls' := [some (.ref 124), some (.int x1), some (.int 0)]) c206_1 (Nat.le_of_ble_eq_true rfl) rfl rfl))
theorem b206_2 {X : Nat × (Nat → Int32)} {d : Nat} {I : Nat → Nat → Int32} {L : Nat → Nat → Int64} {Q : Option Value → XW → Prop} {x1 : Int32} {x2 : Int32}  : wp X (d + 1) m206 2 [some (.ref 124), some (.int x1), some (.int x2)] [] (K0, R0, I, L) Q ↔ (if x2 < (I 124 31) then (inA x2 5 = true ∧ wp X d m187 0 [some (.ref 124), some (.int x1), some (.int (I 144 (Int32.toNatClampNeg x2))), none] [] (K0, R0, I, L) (fun r w1 => wp X (d + 1) m206 21 [some (.ref 124), some (.int x1), some (.int x2)] (r.toList ++ []) w1 Q)) else Q (some (.int 1)) (K0, R0, I, L)) := (w_iload_n (pc' := 3) c206_2 rfl rfl).trans ((w_aload_n (pc' := 4) c206_3 rfl rfl).trans ((w_getIv (pc' := 7) (v := (I 124 31)) c206_4 kd_124 (by decide) rfl (rfl) rfl).trans ((w_icmp_ge (pc' := 10) c206_7 rfl).trans (ite_iff ((w_aload_n (pc' := 11) c206_10 rfl rfl).trans ((w_iload_n (pc' := 12) c206_11 rfl rfl).trans ((w_aload_n (pc' := 13) c206_12 rfl rfl).trans ((w_getR (pc' := 16) (q := 144) c206_13 kd_124 (by decide) rfl rd_124_32 rfl).trans ((w_iload_n (pc' := 17) c206_16 rfl rfl).trans ((w_ialdv (pc' := 18) (v := (I 144 (Int32.toNatClampNeg x2))) c206_17 kd_144 (rfl) rfl).trans (and_congr_right (fun _ => (w_callv (pc' := 21) c206_18 mt187 rfl (Nat.le_of_ble_eq_true rfl) rfl kd_124 rfl rfl (Nat.le_of_ble_eq_true rfl) rfl rfl))))))))) ((w_iconst (pc' := 39) (v := 1) c206_38 rfl rfl).trans ((w_zret (ty := .boolean) c206_39 rfl (by decide)).trans (and_iff_right (by decide))))))))
theorem b206_21 {X : Nat × (Nat → Int32)} {d : Nat} {I : Nat → Nat → Int32} {L : Nat → Nat → Int64} {Q : Option Value → XW → Prop} {x1 : Int32} {x2 : Int32} {s0 : Int32}  : wp X d m206 21 [some (.ref 124), some (.int x1), some (.int x2)] [(.int s0)] (K0, R0, I, L) Q ↔ (inA x2 5 = true ∧ (if s0 = (I 145 (Int32.toNatClampNeg x2)) then wp X d m206 2 [some (.ref 124), some (.int x1), some (.int (x2 + 1))] [] (K0, R0, I, L) Q else Q (some (.int 0)) (K0, R0, I, L))) := (w_aload_n (pc' := 22) c206_21 rfl rfl).trans ((w_getR (pc' := 25) (q := 145) c206_22 kd_124 (by decide) rfl rd_124_33 rfl).trans ((w_iload_n (pc' := 26) c206_25 rfl rfl).trans ((w_ialdv (pc' := 27) (v := (I 145 (Int32.toNatClampNeg x2))) c206_26 kd_145 (rfl) rfl).trans (and_congr_right (fun _ => (w_icmp_eq (pc' := 30) c206_27 rfl).trans (ite_iff ((w_iinc (pc' := 35) (v := (x2 + 1)) (ls' := [some (.ref 124), some (.int x1), some (.int (x2 + 1))]) c206_32 (Nat.le_of_ble_eq_true rfl) rfl rfl rfl rfl).trans ((w_goto c206_35))) ((w_iconst (pc' := 31) (v := 0) c206_30 rfl rfl).trans ((w_zret (ty := .boolean) c206_31 rfl (by decide)).trans (and_iff_right (by decide))))))))))
-- LeavesObjectModel.can(II)I
theorem c207_0 : cdx (mC m207) 0 = some (0, .aload_n 0, 1, 0, 0, 0, 0, []) := rfl
theorem c207_1 : cdx (mC m207) 1 = some (1, .iload_n 1, 1, 1, 0, 0, 0, []) := rfl
theorem c207_2 : cdx (mC m207) 2 = some (2, .invokevirtual 221, 3, 145, 1, 0, 5099, [(10, 0)]) := rfl
theorem c207_5 : cdx (mC m207) 5 = some (5, .ifCond .eq 13, 3, 18, 0, 0, 0, []) := rfl
theorem c207_8 : cdx (mC m207) 8 = some (8, .aload_n 0, 1, 0, 0, 0, 0, []) := rfl
theorem c207_9 : cdx (mC m207) 9 = some (9, .iload_n 2, 1, 2, 0, 0, 0, []) := rfl
theorem c207_10 : cdx (mC m207) 10 = some (10, .iconst 0, 1, 0, 0, 0, 0, []) := rfl
theorem c207_11 : cdx (mC m207) 11 = some (11, .iconst 1, 1, 0, 0, 0, 0, []) := rfl
theorem c207_12 : cdx (mC m207) 12 = some (12, .invokevirtual 213, 3, 142, 3, 0, 5087, [(10, 0)]) := rfl
theorem c207_15 : cdx (mC m207) 15 = some (15, .ifCond .ne 5, 3, 20, 0, 0, 0, []) := rfl
theorem c207_18 : cdx (mC m207) 18 = some (18, .iconst (-1), 1, 0, 0, 0, 0, []) := rfl
theorem c207_19 : cdx (mC m207) 19 = some (19, .ireturn, 1, 0, 0, 0, 0, []) := rfl
theorem c207_20 : cdx (mC m207) 20 = some (20, .aload_n 0, 1, 0, 0, 0, 0, []) := rfl
theorem c207_21 : cdx (mC m207) 21 = some (21, .getfield 20, 3, 10, 3, 0, 4129, []) := rfl
theorem c207_24 : cdx (mC m207) 24 = some (24, .iload_n 1, 1, 1, 0, 0, 0, []) := rfl
theorem c207_25 : cdx (mC m207) 25 = some (25, .iaload, 1, 0, 0, 0, 0, []) := rfl
theorem c207_26 : cdx (mC m207) 26 = some (26, .istore_n 3, 1, 3, 0, 0, 0, []) := rfl
theorem c207_27 : cdx (mC m207) 27 = some (27, .iconst 0, 1, 0, 0, 0, 0, []) := rfl
theorem c207_28 : cdx (mC m207) 28 = some (28, .istore 4, 2, 4, 0, 0, 0, []) := rfl
theorem c207_30 : cdx (mC m207) 30 = some (30, .bipush (-5), 2, 0, 0, 0, 0, []) := rfl
theorem c207_32 : cdx (mC m207) 32 = some (32, .istore 5, 2, 5, 0, 0, 0, []) := rfl
theorem c207_34 : cdx (mC m207) 34 = some (34, .bipush 9, 2, 0, 0, 0, 0, []) := rfl
theorem c207_36 : cdx (mC m207) 36 = some (36, .istore 6, 2, 6, 0, 0, 0, []) := rfl
theorem c207_38 : cdx (mC m207) 38 = some (38, .iload 6, 2, 6, 0, 0, 0, []) := rfl
theorem c207_40 : cdx (mC m207) 40 = some (40, .ifCond .lt 35, 3, 75, 0, 0, 0, []) := rfl
theorem c207_43 : cdx (mC m207) 43 = some (43, .aload_n 0, 1, 0, 0, 0, 0, []) := rfl
theorem c207_44 : cdx (mC m207) 44 = some (44, .getfield 20, 3, 10, 3, 0, 4129, []) := rfl
theorem c207_47 : cdx (mC m207) 47 = some (47, .iload_n 1, 1, 1, 0, 0, 0, []) := rfl
theorem c207_48 : cdx (mC m207) 48 = some (48, .iload 6, 2, 6, 0, 0, 0, []) := rfl
theorem c207_50 : cdx (mC m207) 50 = some (50, .iastore, 1, 0, 0, 0, 0, []) := rfl
theorem c207_51 : cdx (mC m207) 51 = some (51, .aload_n 0, 1, 0, 0, 0, 0, []) := rfl
theorem c207_52 : cdx (mC m207) 52 = some (52, .iload_n 1, 1, 1, 0, 0, 0, []) := rfl
theorem c207_53 : cdx (mC m207) 53 = some (53, .invokevirtual 363, 3, 206, 1, 0, 6104, [(10, 0)]) := rfl
theorem c207_56 : cdx (mC m207) 56 = some (56, .ifCond .ne 6, 3, 62, 0, 0, 0, []) := rfl
theorem c207_59 : cdx (mC m207) 59 = some (59, .goto 10, 3, 69, 0, 0, 0, []) := rfl
theorem c207_62 : cdx (mC m207) 62 = some (62, .iinc 4 1, 3, 4, 0, 0, 0, []) := rfl
theorem c207_65 : cdx (mC m207) 65 = some (65, .iload 6, 2, 6, 0, 0, 0, []) := rfl
theorem c207_67 : cdx (mC m207) 67 = some (67, .istore 5, 2, 5, 0, 0, 0, []) := rfl
theorem c207_69 : cdx (mC m207) 69 = some (69, .iinc 6 (-1), 3, 6, 0, 0, 0, []) := rfl
theorem c207_72 : cdx (mC m207) 72 = some (72, .goto (-34), 3, 38, 0, 0, 0, []) := rfl
theorem c207_75 : cdx (mC m207) 75 = some (75, .aload_n 0, 1, 0, 0, 0, 0, []) := rfl
theorem c207_76 : cdx (mC m207) 76 = some (76, .getfield 20, 3, 10, 3, 0, 4129, []) := rfl
theorem c207_79 : cdx (mC m207) 79 = some (79, .iload_n 1, 1, 1, 0, 0, 0, []) := rfl
theorem c207_80 : cdx (mC m207) 80 = some (80, .iload_n 3, 1, 3, 0, 0, 0, []) := rfl
theorem c207_81 : cdx (mC m207) 81 = some (81, .iastore, 1, 0, 0, 0, 0, []) := rfl
theorem c207_82 : cdx (mC m207) 82 = some (82, .iload_n 2, 1, 2, 0, 0, 0, []) := rfl
theorem c207_83 : cdx (mC m207) 83 = some (83, .ifCond .ne 8, 3, 91, 0, 0, 0, []) := rfl
theorem c207_86 : cdx (mC m207) 86 = some (86, .iload 4, 2, 4, 0, 0, 0, []) := rfl
theorem c207_88 : cdx (mC m207) 88 = some (88, .goto 5, 3, 93, 0, 0, 0, []) := rfl
theorem c207_91 : cdx (mC m207) 91 = some (91, .iload 5, 2, 5, 0, 0, 0, []) := rfl
theorem c207_93 : cdx (mC m207) 93 = some (93, .ireturn, 1, 0, 0, 0, 0, []) := rfl
theorem b207_0 {X : Nat × (Nat → Int32)} {d : Nat} {I : Nat → Nat → Int32} {L : Nat → Nat → Int64} {Q : Option Value → XW → Prop} {x1 : Int32} {x2 : Int32}  : wp X (d + 1) m207 0 [some (.ref 124), some (.int x1), some (.int x2), none, none, none, none] [] (K0, R0, I, L) Q ↔ wp X d m145 0 [some (.ref 124), some (.int x1)] [] (K0, R0, I, L) (fun r w1 => wp X (d + 1) m207 5 [some (.ref 124), some (.int x1), some (.int x2), none, none, none, none] (r.toList ++ []) w1 Q) := (w_aload_n (pc' := 1) c207_0 rfl rfl).trans ((w_iload_n (pc' := 2) c207_1 rfl rfl).trans ((w_callv (pc' := 5) c207_2 mt145 rfl (Nat.le_of_ble_eq_true rfl) rfl kd_124 rfl rfl (Nat.le_of_ble_eq_true rfl) rfl rfl)))
theorem b207_5 {X : Nat × (Nat → Int32)} {d : Nat} {I : Nat → Nat → Int32} {L : Nat → Nat → Int64} {Q : Option Value → XW → Prop} {x1 : Int32} {x2 : Int32} {s0 : Int32}  : wp X (d + 1) m207 5 [some (.ref 124), some (.int x1), some (.int x2), none, none, none, none] [(.int s0)] (K0, R0, I, L) Q ↔ (if s0 = 0 then Q (some (.int (-1))) (K0, R0, I, L) else wp X d m142 0 [some (.ref 124), some (.int x2), some (.int 0), some (.int 1)] [] (K0, R0, I, L) (fun r w1 => wp X (d + 1) m207 15 [some (.ref 124), some (.int x1), some (.int x2), none, none, none, none] (r.toList ++ []) w1 Q)) := (w_if_eq (pc' := 8) c207_5 rfl).trans (ite_iff ((w_iconst (pc' := 19) (v := (-1)) c207_18 rfl rfl).trans (w_iret c207_19 rfl)) ((w_aload_n (pc' := 9) c207_8 rfl rfl).trans ((w_iload_n (pc' := 10) c207_9 rfl rfl).trans ((w_iconst (pc' := 11) (v := 0) c207_10 rfl rfl).trans ((w_iconst (pc' := 12) (v := 1) c207_11 rfl rfl).trans ((w_callv (pc' := 15) c207_12 mt142 rfl (Nat.le_of_ble_eq_true rfl) rfl kd_124 rfl rfl (Nat.le_of_ble_eq_true rfl) rfl rfl)))))))
theorem b207_15 {X : Nat × (Nat → Int32)} {d : Nat} {I : Nat → Nat → Int32} {L : Nat → Nat → Int64} {Q : Option Value → XW → Prop} {x1 : Int32} {x2 : Int32} {s0 : Int32}  : wp X d m207 15 [some (.ref 124), some (.int x1), some (.int x2), none, none, none, none] [(.int s0)] (K0, R0, I, L) Q ↔ (if s0 = 0 then Q (some (.int (-1))) (K0, R0, I, L) else (inA x1 5 = true ∧ wp X d m207 38 [some (.ref 124), some (.int x1), some (.int x2), some (.int (I 126 (Int32.toNatClampNeg x1))), some (.int 0), some (.int (-5)), some (.int 9)] [] (K0, R0, I, L) Q)) := (w_if_ne (pc' := 18) c207_15 rfl).trans (ite_iff ((w_iconst (pc' := 19) (v := (-1)) c207_18 rfl rfl).trans (w_iret c207_19 rfl)) ((w_aload_n (pc' := 21) c207_20 rfl rfl).trans ((w_getR (pc' := 24) (q := 126) c207_21 kd_124 (by decide) rfl rd_124_3 rfl).trans ((w_iload_n (pc' := 25) c207_24 rfl rfl).trans ((w_ialdv (pc' := 26) (v := (I 126 (Int32.toNatClampNeg x1))) c207_25 kd_126 (rfl) rfl).trans (and_congr_right (fun _ => (w_istore_n (pc' := 27) (ls' := [some (.ref 124), some (.int x1), some (.int x2), some (.int (I 126 (Int32.toNatClampNeg x1))), none, none, none]) c207_26 (Nat.le_of_ble_eq_true rfl) rfl rfl).trans ((w_iconst (pc' := 28) (v := 0) c207_27 rfl rfl).trans ((w_istore (pc' := 30) (ls' := [some (.ref 124), some (.int x1), some (.int x2), some (.int (I 126 (Int32.toNatClampNeg x1))), some (.int 0), none, none]) c207_28 (Nat.le_of_ble_eq_true rfl) rfl rfl).trans ((w_bipush (pc' := 32) (v := (-5)) c207_30 rfl rfl).trans ((w_istore (pc' := 34) (ls' := [some (.ref 124), some (.int x1), some (.int x2), some (.int (I 126 (Int32.toNatClampNeg x1))), some (.int 0), some (.int (-5)), none]) c207_32 (Nat.le_of_ble_eq_true rfl) rfl rfl).trans ((w_bipush (pc' := 36) (v := 9) c207_34 rfl rfl).trans ((w_istore (pc' := 38) (ls' := [some (.ref 124), some (.int x1), some (.int x2), some (.int (I 126 (Int32.toNatClampNeg x1))), some (.int 0), some (.int (-5)), some (.int 9)]) c207_36 (Nat.le_of_ble_eq_true rfl) rfl rfl))))))))))))))
theorem b207_38 {X : Nat × (Nat → Int32)} {d : Nat} {I : Nat → Nat → Int32} {L : Nat → Nat → Int64} {Q : Option Value → XW → Prop} {x1 : Int32} {x2 : Int32} {x3 : Int32} {x4 : Int32} {x5 : Int32} {x6 : Int32}  : wp X (d + 1) m207 38 [some (.ref 124), some (.int x1), some (.int x2), some (.int x3), some (.int x4), some (.int x5), some (.int x6)] [] (K0, R0, I, L) Q ↔ (if x6 < 0 then (inA x1 5 = true ∧ Q (some (.int (if x2 = 0 then x4 else x5))) (K0, R0, (updR I 126 (Int32.toNatClampNeg x1) x3), L)) else (inA x1 5 = true ∧ wp X d m206 0 [some (.ref 124), some (.int x1), none] [] (K0, R0, (updR I 126 (Int32.toNatClampNeg x1) x6), L) (fun r w1 => wp X (d + 1) m207 56 [some (.ref 124), some (.int x1), some (.int x2), some (.int x3), some (.int x4), some (.int x5), some (.int x6)] (r.toList ++ []) w1 Q))) := (w_iload (pc' := 40) c207_38 rfl rfl).trans ((w_if_lt (pc' := 43) c207_40 rfl).trans (ite_iff ((w_aload_n (pc' := 76) c207_75 rfl rfl).trans ((w_getR (pc' := 79) (q := 126) c207_76 kd_124 (by decide) rfl rd_124_3 rfl).trans ((w_iload_n (pc' := 80) c207_79 rfl rfl).trans ((w_iload_n (pc' := 81) c207_80 rfl rfl).trans ((w_iast (pc' := 82) c207_81 kd_126 rfl).trans (and_congr_right (fun _ => (w_iload_n (pc' := 83) c207_82 rfl rfl).trans ((w_if_ne (pc' := 86) c207_83 rfl).trans ((ite_iff ((w_iload (pc' := 88) c207_86 rfl rfl).trans ((w_goto c207_88).trans (w_iret c207_93 rfl))) ((w_iload (pc' := 93) c207_91 rfl rfl).trans (w_iret c207_93 rfl))).trans (ite_val (fun z => Q (some (.int z)) (K0, R0, (updR I 126 (Int32.toNatClampNeg x1) x3), L)))))))))))) ((w_aload_n (pc' := 44) c207_43 rfl rfl).trans ((w_getR (pc' := 47) (q := 126) c207_44 kd_124 (by decide) rfl rd_124_3 rfl).trans ((w_iload_n (pc' := 48) c207_47 rfl rfl).trans ((w_iload (pc' := 50) c207_48 rfl rfl).trans ((w_iast (pc' := 51) c207_50 kd_126 rfl).trans (and_congr_right (fun _ => (w_aload_n (pc' := 52) c207_51 rfl rfl).trans ((w_iload_n (pc' := 53) c207_52 rfl rfl).trans ((w_callv (pc' := 56) c207_53 mt206 rfl (Nat.le_of_ble_eq_true rfl) rfl kd_124 rfl rfl (Nat.le_of_ble_eq_true rfl) rfl rfl))))))))))))
theorem b207_56 {X : Nat × (Nat → Int32)} {d : Nat} {I : Nat → Nat → Int32} {L : Nat → Nat → Int64} {Q : Option Value → XW → Prop} {x1 : Int32} {x2 : Int32} {x3 : Int32} {x4 : Int32} {x5 : Int32} {x6 : Int32} {s0 : Int32}  : wp X d m207 56 [some (.ref 124), some (.int x1), some (.int x2), some (.int x3), some (.int x4), some (.int x5), some (.int x6)] [(.int s0)] (K0, R0, I, L) Q ↔ (if s0 = 0 then wp X d m207 38 [some (.ref 124), some (.int x1), some (.int x2), some (.int x3), some (.int x4), some (.int x5), some (.int (x6 + (-1)))] [] (K0, R0, I, L) Q else wp X d m207 38 [some (.ref 124), some (.int x1), some (.int x2), some (.int x3), some (.int (x4 + 1)), some (.int x6), some (.int (x6 + (-1)))] [] (K0, R0, I, L) Q) := (w_if_ne (pc' := 59) c207_56 rfl).trans (ite_iff ((w_goto c207_59).trans ((w_iinc (pc' := 72) (v := (x6 + (-1))) (ls' := [some (.ref 124), some (.int x1), some (.int x2), some (.int x3), some (.int x4), some (.int x5), some (.int (x6 + (-1)))]) c207_69 (Nat.le_of_ble_eq_true rfl) rfl rfl rfl rfl).trans ((w_goto c207_72)))) ((w_iinc (pc' := 65) (v := (x4 + 1)) (ls' := [some (.ref 124), some (.int x1), some (.int x2), some (.int x3), some (.int (x4 + 1)), some (.int x5), some (.int x6)]) c207_62 (Nat.le_of_ble_eq_true rfl) rfl rfl rfl rfl).trans ((w_iload (pc' := 67) c207_65 rfl rfl).trans ((w_istore (pc' := 69) (ls' := [some (.ref 124), some (.int x1), some (.int x2), some (.int x3), some (.int (x4 + 1)), some (.int x6), some (.int x6)]) c207_67 (Nat.le_of_ble_eq_true rfl) rfl rfl).trans ((w_iinc (pc' := 72) (v := (x6 + (-1))) (ls' := [some (.ref 124), some (.int x1), some (.int x2), some (.int x3), some (.int (x4 + 1)), some (.int x6), some (.int (x6 + (-1)))]) c207_69 (Nat.le_of_ble_eq_true rfl) rfl rfl rfl rfl).trans ((w_goto c207_72)))))))
-- LeavesObjectModel.odds(III)J
theorem c208_0 : cdx (mC m208) 0 = some (0, .aload_n 0, 1, 0, 0, 0, 0, []) := rfl
theorem c208_1 : cdx (mC m208) 1 = some (1, .iload_n 1, 1, 1, 0, 0, 0, []) := rfl
theorem c208_2 : cdx (mC m208) 2 = some (2, .invokevirtual 221, 3, 145, 1, 0, 5099, [(10, 0)]) := rfl
theorem c208_5 : cdx (mC m208) 5 = some (5, .ifCond .eq 24, 3, 29, 0, 0, 0, []) := rfl
theorem c208_8 : cdx (mC m208) 8 = some (8, .aload_n 0, 1, 0, 0, 0, 0, []) := rfl
theorem c208_9 : cdx (mC m208) 9 = some (9, .iload_n 2, 1, 2, 0, 0, 0, []) := rfl
theorem c208_10 : cdx (mC m208) 10 = some (10, .iconst 0, 1, 0, 0, 0, 0, []) := rfl
theorem c208_11 : cdx (mC m208) 11 = some (11, .bipush 12, 2, 0, 0, 0, 0, []) := rfl
theorem c208_13 : cdx (mC m208) 13 = some (13, .invokevirtual 213, 3, 142, 3, 0, 5087, [(10, 0)]) := rfl
theorem c208_16 : cdx (mC m208) 16 = some (16, .ifCond .eq 13, 3, 29, 0, 0, 0, []) := rfl
theorem c208_19 : cdx (mC m208) 19 = some (19, .aload_n 0, 1, 0, 0, 0, 0, []) := rfl
theorem c208_20 : cdx (mC m208) 20 = some (20, .iload_n 3, 1, 3, 0, 0, 0, []) := rfl
theorem c208_21 : cdx (mC m208) 21 = some (21, .iconst 0, 1, 0, 0, 0, 0, []) := rfl
theorem c208_22 : cdx (mC m208) 22 = some (22, .iconst 1, 1, 0, 0, 0, 0, []) := rfl
theorem c208_23 : cdx (mC m208) 23 = some (23, .invokevirtual 213, 3, 142, 3, 0, 5087, [(10, 0)]) := rfl
theorem c208_26 : cdx (mC m208) 26 = some (26, .ifCond .ne 7, 3, 33, 0, 0, 0, []) := rfl
theorem c208_29 : cdx (mC m208) 29 = some (29, .ldc2_w 369, 3, 0, 0, 0, 6116, [((-9223372036854775808), 0)]) := rfl
theorem c208_32 : cdx (mC m208) 32 = some (32, .lreturn, 1, 0, 0, 0, 0, []) := rfl
theorem c208_33 : cdx (mC m208) 33 = some (33, .iconst 0, 1, 0, 0, 0, 0, []) := rfl
theorem c208_34 : cdx (mC m208) 34 = some (34, .istore 4, 2, 4, 0, 0, 0, []) := rfl
theorem c208_36 : cdx (mC m208) 36 = some (36, .iconst 0, 1, 0, 0, 0, 0, []) := rfl
theorem c208_37 : cdx (mC m208) 37 = some (37, .istore 5, 2, 5, 0, 0, 0, []) := rfl
theorem c208_39 : cdx (mC m208) 39 = some (39, .iload 5, 2, 5, 0, 0, 0, []) := rfl
theorem c208_41 : cdx (mC m208) 41 = some (41, .iconst 4, 1, 0, 0, 0, 0, []) := rfl
theorem c208_42 : cdx (mC m208) 42 = some (42, .if_icmp .ge 34, 3, 76, 0, 0, 0, []) := rfl
theorem c208_45 : cdx (mC m208) 45 = some (45, .iload 4, 2, 4, 0, 0, 0, []) := rfl
theorem c208_47 : cdx (mC m208) 47 = some (47, .aload_n 0, 1, 0, 0, 0, 0, []) := rfl
theorem c208_48 : cdx (mC m208) 48 = some (48, .aload_n 0, 1, 0, 0, 0, 0, []) := rfl
theorem c208_49 : cdx (mC m208) 49 = some (49, .iload_n 1, 1, 1, 0, 0, 0, []) := rfl
theorem c208_50 : cdx (mC m208) 50 = some (50, .iload 5, 2, 5, 0, 0, 0, []) := rfl
theorem c208_52 : cdx (mC m208) 52 = some (52, .invokevirtual 339, 3, 187, 2, 0, 6027, [(10, 0)]) := rfl
theorem c208_55 : cdx (mC m208) 55 = some (55, .invokevirtual 276, 3, 169, 1, 0, 5195, [(10, 0)]) := rfl
theorem c208_58 : cdx (mC m208) 58 = some (58, .iload_n 2, 1, 2, 0, 0, 0, []) := rfl
theorem c208_59 : cdx (mC m208) 59 = some (59, .if_icmp .lt 7, 3, 66, 0, 0, 0, []) := rfl
theorem c208_62 : cdx (mC m208) 62 = some (62, .iconst 1, 1, 0, 0, 0, 0, []) := rfl
theorem c208_63 : cdx (mC m208) 63 = some (63, .goto 4, 3, 67, 0, 0, 0, []) := rfl
theorem c208_66 : cdx (mC m208) 66 = some (66, .iconst 0, 1, 0, 0, 0, 0, []) := rfl
theorem c208_67 : cdx (mC m208) 67 = some (67, .iadd, 1, 0, 0, 0, 0, []) := rfl
theorem c208_68 : cdx (mC m208) 68 = some (68, .istore 4, 2, 4, 0, 0, 0, []) := rfl
theorem c208_70 : cdx (mC m208) 70 = some (70, .iinc 5 1, 3, 5, 0, 0, 0, []) := rfl
theorem c208_73 : cdx (mC m208) 73 = some (73, .goto (-34), 3, 39, 0, 0, 0, []) := rfl
theorem c208_76 : cdx (mC m208) 76 = some (76, .aload_n 0, 1, 0, 0, 0, 0, []) := rfl
theorem c208_77 : cdx (mC m208) 77 = some (77, .iload 4, 2, 4, 0, 0, 0, []) := rfl
theorem c208_79 : cdx (mC m208) 79 = some (79, .iconst 4, 1, 0, 0, 0, 0, []) := rfl
theorem c208_80 : cdx (mC m208) 80 = some (80, .iload_n 3, 1, 3, 0, 0, 0, []) := rfl
theorem c208_81 : cdx (mC m208) 81 = some (81, .invokevirtual 371, 3, 209, 3, 0, 6117, [(10, 0)]) := rfl
theorem c208_84 : cdx (mC m208) 84 = some (84, .lreturn, 1, 0, 0, 0, 0, []) := rfl
def lv208 : List (Nat × List Nat) := [(0, [0, 1, 2, 3]), (1, [0, 1, 2, 3]), (2, [0, 1, 2, 3]), (5, [0, 1, 2, 3]), (8, [0, 1, 2, 3]), (9, [0, 1, 2, 3]), (10, [0, 1, 2, 3]), (11, [0, 1, 2, 3]), (13, [0, 1, 2, 3]), (16, [0, 1, 2, 3]), (19, [0, 1, 2, 3]), (20, [0, 1, 2, 3]), (21, [0, 1, 2, 3]), (22, [0, 1, 2, 3]), (23, [0, 1, 2, 3]), (26, [0, 1, 2, 3]), (33, [0, 1, 2, 3]), (34, [0, 1, 2, 3]), (36, [0, 1, 2, 3, 4]), (37, [0, 1, 2, 3, 4]), (39, [0, 1, 2, 3, 4, 5]), (41, [0, 1, 2, 3, 4, 5]), (42, [0, 1, 2, 3, 4, 5]), (45, [0, 1, 2, 3, 4, 5]), (47, [0, 1, 2, 3, 5]), (48, [0, 1, 2, 3, 5]), (49, [0, 1, 2, 3, 5]), (50, [0, 1, 2, 3, 5]), (52, [0, 1, 2, 3, 5]), (55, [0, 1, 2, 3, 5]), (58, [0, 1, 2, 3, 5]), (59, [0, 1, 2, 3, 5]), (62, [0, 1, 2, 3, 5]), (63, [0, 1, 2, 3, 5]), (66, [0, 1, 2, 3, 5]), (67, [0, 1, 2, 3, 5]), (68, [0, 1, 2, 3, 5]), (70, [0, 1, 2, 3, 4, 5]), (73, [0, 1, 2, 3, 4, 5]), (76, [0, 3, 4]), (77, [3, 4]), (79, [3]), (80, [3])]
theorem lvok208 : lvOk (mC m208) lv208 = true := by decide +kernel
theorem b208_0 {X : Nat × (Nat → Int32)} {d : Nat} {I : Nat → Nat → Int32} {L : Nat → Nat → Int64} {Q : Option Value → XW → Prop} {x1 : Int32} {x2 : Int32} {x3 : Int32}  : wp X (d + 1) m208 0 [some (.ref 124), some (.int x1), some (.int x2), some (.int x3), none, none] [] (K0, R0, I, L) Q ↔ wp X d m145 0 [some (.ref 124), some (.int x1)] [] (K0, R0, I, L) (fun r w1 => wp X (d + 1) m208 5 [some (.ref 124), some (.int x1), some (.int x2), some (.int x3), none, none] (r.toList ++ []) w1 Q) := (w_aload_n (pc' := 1) c208_0 rfl rfl).trans ((w_iload_n (pc' := 2) c208_1 rfl rfl).trans ((w_callv (pc' := 5) c208_2 mt145 rfl (Nat.le_of_ble_eq_true rfl) rfl kd_124 rfl rfl (Nat.le_of_ble_eq_true rfl) rfl rfl)))
theorem b208_5 {X : Nat × (Nat → Int32)} {d : Nat} {I : Nat → Nat → Int32} {L : Nat → Nat → Int64} {Q : Option Value → XW → Prop} {x1 : Int32} {x2 : Int32} {x3 : Int32} {s0 : Int32}  : wp X (d + 1) m208 5 [some (.ref 124), some (.int x1), some (.int x2), some (.int x3), none, none] [(.int s0)] (K0, R0, I, L) Q ↔ (if s0 = 0 then Q (some (.long ((-9223372036854775808)))) (K0, R0, I, L) else wp X d m142 0 [some (.ref 124), some (.int x2), some (.int 0), some (.int 12)] [] (K0, R0, I, L) (fun r w1 => wp X (d + 1) m208 16 [some (.ref 124), some (.int x1), some (.int x2), some (.int x3), none, none] (r.toList ++ []) w1 Q)) := (w_if_eq (pc' := 8) c208_5 rfl).trans (ite_iff ((w_ldc2_w (pc' := 32) (v := (-9223372036854775808)) c208_29 rfl rfl).trans (w_lret c208_32 rfl)) ((w_aload_n (pc' := 9) c208_8 rfl rfl).trans ((w_iload_n (pc' := 10) c208_9 rfl rfl).trans ((w_iconst (pc' := 11) (v := 0) c208_10 rfl rfl).trans ((w_bipush (pc' := 13) (v := 12) c208_11 rfl rfl).trans ((w_callv (pc' := 16) c208_13 mt142 rfl (Nat.le_of_ble_eq_true rfl) rfl kd_124 rfl rfl (Nat.le_of_ble_eq_true rfl) rfl rfl)))))))
theorem b208_16 {X : Nat × (Nat → Int32)} {d : Nat} {I : Nat → Nat → Int32} {L : Nat → Nat → Int64} {Q : Option Value → XW → Prop} {x1 : Int32} {x2 : Int32} {x3 : Int32} {s0 : Int32}  : wp X (d + 1) m208 16 [some (.ref 124), some (.int x1), some (.int x2), some (.int x3), none, none] [(.int s0)] (K0, R0, I, L) Q ↔ (if s0 = 0 then Q (some (.long ((-9223372036854775808)))) (K0, R0, I, L) else wp X d m142 0 [some (.ref 124), some (.int x3), some (.int 0), some (.int 1)] [] (K0, R0, I, L) (fun r w1 => wp X (d + 1) m208 26 [some (.ref 124), some (.int x1), some (.int x2), some (.int x3), none, none] (r.toList ++ []) w1 Q)) := (w_if_eq (pc' := 19) c208_16 rfl).trans (ite_iff ((w_ldc2_w (pc' := 32) (v := (-9223372036854775808)) c208_29 rfl rfl).trans (w_lret c208_32 rfl)) ((w_aload_n (pc' := 20) c208_19 rfl rfl).trans ((w_iload_n (pc' := 21) c208_20 rfl rfl).trans ((w_iconst (pc' := 22) (v := 0) c208_21 rfl rfl).trans ((w_iconst (pc' := 23) (v := 1) c208_22 rfl rfl).trans ((w_callv (pc' := 26) c208_23 mt142 rfl (Nat.le_of_ble_eq_true rfl) rfl kd_124 rfl rfl (Nat.le_of_ble_eq_true rfl) rfl rfl)))))))
theorem b208_26 {X : Nat × (Nat → Int32)} {d : Nat} {I : Nat → Nat → Int32} {L : Nat → Nat → Int64} {Q : Option Value → XW → Prop} {x1 : Int32} {x2 : Int32} {x3 : Int32} {s0 : Int32}  : wp X d m208 26 [some (.ref 124), some (.int x1), some (.int x2), some (.int x3), none, none] [(.int s0)] (K0, R0, I, L) Q ↔ (if s0 = 0 then Q (some (.long ((-9223372036854775808)))) (K0, R0, I, L) else wp X d m208 39 [some (.ref 124), some (.int x1), some (.int x2), some (.int x3), some (.int 0), some (.int 0)] [] (K0, R0, I, L) Q) := (w_if_ne (pc' := 29) c208_26 rfl).trans (ite_iff ((w_ldc2_w (pc' := 32) (v := (-9223372036854775808)) c208_29 rfl rfl).trans (w_lret c208_32 rfl)) ((w_iconst (pc' := 34) (v := 0) c208_33 rfl rfl).trans ((w_istore (pc' := 36) (ls' := [some (.ref 124), some (.int x1), some (.int x2), some (.int x3), some (.int 0), none]) c208_34 (Nat.le_of_ble_eq_true rfl) rfl rfl).trans ((w_iconst (pc' := 37) (v := 0) c208_36 rfl rfl).trans ((w_istore (pc' := 39) (ls' := [some (.ref 124), some (.int x1), some (.int x2), some (.int x3), some (.int 0), some (.int 0)]) c208_37 (Nat.le_of_ble_eq_true rfl) rfl rfl))))))
theorem b208_39 {X : Nat × (Nat → Int32)} {d : Nat} {I : Nat → Nat → Int32} {L : Nat → Nat → Int64} {Q : Option Value → XW → Prop} {x1 : Int32} {x2 : Int32} {x3 : Int32} {x4 : Int32} {x5 : Int32}  : wp X (d + 1) m208 39 [some (.ref 124), some (.int x1), some (.int x2), some (.int x3), some (.int x4), some (.int x5)] [] (K0, R0, I, L) Q ↔ (if x5 < 4 then wp X d m187 0 [some (.ref 124), some (.int x1), some (.int x5), none] [] (K0, R0, I, L) (fun r w1 => wp X (d + 1) m208 55 [some (.ref 124), some (.int x1), some (.int x2), some (.int x3), none, some (.int x5)] (r.toList ++ [(.ref 124), (.int x4)]) w1 Q) else wp X d m209 0 [some (.ref 124), some (.int x4), some (.int 4), some (.int x3), none] [] (K0, R0, I, L) (fun r w1 => wp X (d + 1) m208 84 [none, none, none, none, none, none] (r.toList ++ []) w1 Q)) := (w_iload (pc' := 41) c208_39 rfl rfl).trans ((w_iconst (pc' := 42) (v := 4) c208_41 rfl rfl).trans ((w_icmp_ge (pc' := 45) c208_42 rfl).trans (ite_iff ((w_iload (pc' := 47) c208_45 rfl rfl).trans ((w_aload_n (pc' := 48) c208_47 rfl rfl).trans ((w_aload_n (pc' := 49) c208_48 rfl rfl).trans ((w_iload_n (pc' := 50) c208_49 rfl rfl).trans ((w_iload (pc' := 52) c208_50 rfl rfl).trans ((w_callv (pc' := 55) c208_52 mt187 rfl (Nat.le_of_ble_eq_true rfl) rfl kd_124 rfl rfl (Nat.le_of_ble_eq_true rfl) rfl rfl).trans (wp_congr (fun r w1 => wp_msk lvok208 rfl)))))))) ((w_aload_n (pc' := 77) c208_76 rfl rfl).trans ((w_iload (pc' := 79) c208_77 rfl rfl).trans ((w_iconst (pc' := 80) (v := 4) c208_79 rfl rfl).trans ((w_iload_n (pc' := 81) c208_80 rfl rfl).trans ((w_callv (pc' := 84) c208_81 mt209 rfl (Nat.le_of_ble_eq_true rfl) rfl kd_124 rfl rfl (Nat.le_of_ble_eq_true rfl) rfl rfl).trans (wp_congr (fun r w1 => wp_msk lvok208 rfl))))))))))
theorem b208_55 {X : Nat × (Nat → Int32)} {d : Nat} {I : Nat → Nat → Int32} {L : Nat → Nat → Int64} {Q : Option Value → XW → Prop} {x1 : Int32} {x2 : Int32} {x3 : Int32} {x5 : Int32} {s0 : Int32} {s2 : Int32}  : wp X (d + 1) m208 55 [some (.ref 124), some (.int x1), some (.int x2), some (.int x3), none, some (.int x5)] [(.int s2), (.ref 124), (.int s0)] (K0, R0, I, L) Q ↔ wp X d m169 0 [some (.ref 124), some (.int s2), none, none] [] (K0, R0, I, L) (fun r w1 => wp X (d + 1) m208 58 [some (.ref 124), some (.int x1), some (.int x2), some (.int x3), none, some (.int x5)] (r.toList ++ [(.int s0)]) w1 Q) := (w_callv (pc' := 58) c208_55 mt169 rfl (Nat.le_of_ble_eq_true rfl) rfl kd_124 rfl rfl (Nat.le_of_ble_eq_true rfl) rfl rfl)
theorem b208_84 {X : Nat × (Nat → Int32)} {d : Nat} {I : Nat → Nat → Int32} {L : Nat → Nat → Int64} {Q : Option Value → XW → Prop} {s0 : Int64}  : wp X d m208 84 [none, none, none, none, none, none] [(.long (s0))] (K0, R0, I, L) Q ↔ Q (some (.long (s0))) (K0, R0, I, L) := w_lret c208_84 rfl
theorem b208_58 {X : Nat × (Nat → Int32)} {d : Nat} {I : Nat → Nat → Int32} {L : Nat → Nat → Int64} {Q : Option Value → XW → Prop} {x1 : Int32} {x2 : Int32} {x3 : Int32} {x5 : Int32} {s0 : Int32} {s1 : Int32}  : wp X d m208 58 [some (.ref 124), some (.int x1), some (.int x2), some (.int x3), none, some (.int x5)] [(.int s1), (.int s0)] (K0, R0, I, L) Q ↔ wp X d m208 39 [some (.ref 124), some (.int x1), some (.int x2), some (.int x3), some (.int (if s1 < x2 then (s0 + 0) else (s0 + 1))), some (.int (x5 + 1))] [] (K0, R0, I, L) Q := (w_iload_n (pc' := 59) c208_58 rfl rfl).trans ((w_icmp_lt (pc' := 62) c208_59 rfl).trans ((ite_iff ((w_iconst (pc' := 67) (v := 0) c208_66 rfl rfl).trans ((w_iadd (pc' := 68) c208_67 rfl).trans ((w_istore (pc' := 70) (ls' := [some (.ref 124), some (.int x1), some (.int x2), some (.int x3), some (.int (s0 + 0)), some (.int x5)]) c208_68 (Nat.le_of_ble_eq_true rfl) rfl rfl).trans ((w_iinc (pc' := 73) (v := (x5 + 1)) (ls' := [some (.ref 124), some (.int x1), some (.int x2), some (.int x3), some (.int (s0 + 0)), some (.int (x5 + 1))]) c208_70 (Nat.le_of_ble_eq_true rfl) rfl rfl rfl rfl).trans ((w_goto c208_73)))))) ((w_iconst (pc' := 63) (v := 1) c208_62 rfl rfl).trans ((w_goto c208_63).trans ((w_iadd (pc' := 68) c208_67 rfl).trans ((w_istore (pc' := 70) (ls' := [some (.ref 124), some (.int x1), some (.int x2), some (.int x3), some (.int (s0 + 1)), some (.int x5)]) c208_68 (Nat.le_of_ble_eq_true rfl) rfl rfl).trans ((w_iinc (pc' := 73) (v := (x5 + 1)) (ls' := [some (.ref 124), some (.int x1), some (.int x2), some (.int x3), some (.int (s0 + 1)), some (.int (x5 + 1))]) c208_70 (Nat.le_of_ble_eq_true rfl) rfl rfl rfl rfl).trans ((w_goto c208_73)))))))).trans (ite_val (fun z => wp X d m208 39 [some (.ref 124), some (.int x1), some (.int x2), some (.int x3), some (.int z), some (.int (x5 + 1))] [] (K0, R0, I, L) Q))))
-- LeavesObjectModel.lowest(III)J
theorem c209_0 : cdx (mC m209) 0 = some (0, .aload_n 0, 1, 0, 0, 0, 0, []) := rfl
theorem c209_1 : cdx (mC m209) 1 = some (1, .iload_n 1, 1, 1, 0, 0, 0, []) := rfl
theorem c209_2 : cdx (mC m209) 2 = some (2, .iload_n 2, 1, 2, 0, 0, 0, []) := rfl
theorem c209_3 : cdx (mC m209) 3 = some (3, .invokevirtual 366, 3, 210, 2, 0, 6121, [(10, 0)]) := rfl
theorem c209_6 : cdx (mC m209) 6 = some (6, .istore 4, 2, 4, 0, 0, 0, []) := rfl
theorem c209_8 : cdx (mC m209) 8 = some (8, .iload_n 3, 1, 3, 0, 0, 0, []) := rfl
theorem c209_9 : cdx (mC m209) 9 = some (9, .ifCond .ne 11, 3, 20, 0, 0, 0, []) := rfl
theorem c209_12 : cdx (mC m209) 12 = some (12, .iload_n 1, 1, 1, 0, 0, 0, []) := rfl
theorem c209_13 : cdx (mC m209) 13 = some (13, .iload 4, 2, 4, 0, 0, 0, []) := rfl
theorem c209_15 : cdx (mC m209) 15 = some (15, .idiv, 1, 0, 0, 0, 0, []) := rfl
theorem c209_16 : cdx (mC m209) 16 = some (16, .i2l, 1, 0, 0, 0, 0, []) := rfl
theorem c209_17 : cdx (mC m209) 17 = some (17, .goto 8, 3, 25, 0, 0, 0, []) := rfl
theorem c209_20 : cdx (mC m209) 20 = some (20, .iload_n 2, 1, 2, 0, 0, 0, []) := rfl
theorem c209_21 : cdx (mC m209) 21 = some (21, .iload 4, 2, 4, 0, 0, 0, []) := rfl
theorem c209_23 : cdx (mC m209) 23 = some (23, .idiv, 1, 0, 0, 0, 0, []) := rfl
theorem c209_24 : cdx (mC m209) 24 = some (24, .i2l, 1, 0, 0, 0, 0, []) := rfl
theorem c209_25 : cdx (mC m209) 25 = some (25, .lreturn, 1, 0, 0, 0, 0, []) := rfl
def lv209 : List (Nat × List Nat) := [(0, [0, 1, 2, 3]), (1, [1, 2, 3]), (2, [1, 2, 3]), (3, [1, 2, 3]), (6, [1, 2, 3]), (8, [1, 2, 3, 4]), (9, [1, 2, 4]), (12, [1, 4]), (13, [4]), (20, [2, 4]), (21, [4])]
theorem lvok209 : lvOk (mC m209) lv209 = true := by decide +kernel
theorem b209_0 {X : Nat × (Nat → Int32)} {d : Nat} {I : Nat → Nat → Int32} {L : Nat → Nat → Int64} {Q : Option Value → XW → Prop} {x1 : Int32} {x2 : Int32} {x3 : Int32}  : wp X (d + 1) m209 0 [some (.ref 124), some (.int x1), some (.int x2), some (.int x3), none] [] (K0, R0, I, L) Q ↔ wp X d m210 0 [some (.ref 124), some (.int x1), some (.int x2), none, none, none] [] (K0, R0, I, L) (fun r w1 => wp X (d + 1) m209 6 [none, some (.int x1), some (.int x2), some (.int x3), none] (r.toList ++ []) w1 Q) := (w_aload_n (pc' := 1) c209_0 rfl rfl).trans ((w_iload_n (pc' := 2) c209_1 rfl rfl).trans ((w_iload_n (pc' := 3) c209_2 rfl rfl).trans ((w_callv (pc' := 6) c209_3 mt210 rfl (Nat.le_of_ble_eq_true rfl) rfl kd_124 rfl rfl (Nat.le_of_ble_eq_true rfl) rfl rfl).trans (wp_congr (fun r w1 => wp_msk lvok209 rfl)))))
theorem b209_6 {X : Nat × (Nat → Int32)} {d : Nat} {I : Nat → Nat → Int32} {L : Nat → Nat → Int64} {Q : Option Value → XW → Prop} {x1 : Int32} {x2 : Int32} {x3 : Int32} {s0 : Int32}  : wp X d m209 6 [none, some (.int x1), some (.int x2), some (.int x3), none] [(.int s0)] (K0, R0, I, L) Q ↔ (if x3 = 0 then (¬ s0 = 0 ∧ Q (some (.long ((Int32.toInt64 (x1 / s0))))) (K0, R0, I, L)) else (¬ s0 = 0 ∧ Q (some (.long ((Int32.toInt64 (x2 / s0))))) (K0, R0, I, L))) := (w_istore (pc' := 8) (ls' := [none, some (.int x1), some (.int x2), some (.int x3), some (.int s0)]) c209_6 (Nat.le_of_ble_eq_true rfl) rfl rfl).trans ((w_iload_n (pc' := 9) c209_8 rfl rfl).trans ((w_if_ne (pc' := 12) c209_9 rfl).trans (ite_iff ((w_iload_n (pc' := 13) c209_12 rfl rfl).trans ((w_iload (pc' := 15) c209_13 rfl rfl).trans ((w_idiv (pc' := 16) c209_15 rfl).trans (and_congr_right (fun _ => (w_i2l (pc' := 17) c209_16 rfl).trans ((w_goto c209_17).trans (w_lret c209_25 rfl))))))) ((w_iload_n (pc' := 21) c209_20 rfl rfl).trans ((w_iload (pc' := 23) c209_21 rfl rfl).trans ((w_idiv (pc' := 24) c209_23 rfl).trans (and_congr_right (fun _ => (w_i2l (pc' := 25) c209_24 rfl).trans (w_lret c209_25 rfl)))))))))
-- LeavesObjectModel.divisor(II)I
theorem c210_0 : cdx (mC m210) 0 = some (0, .iload_n 1, 1, 1, 0, 0, 0, []) := rfl
theorem c210_1 : cdx (mC m210) 1 = some (1, .istore_n 3, 1, 3, 0, 0, 0, []) := rfl
theorem c210_2 : cdx (mC m210) 2 = some (2, .iload_n 2, 1, 2, 0, 0, 0, []) := rfl
theorem c210_3 : cdx (mC m210) 3 = some (3, .istore 4, 2, 4, 0, 0, 0, []) := rfl
theorem c210_5 : cdx (mC m210) 5 = some (5, .iload 4, 2, 4, 0, 0, 0, []) := rfl
theorem c210_7 : cdx (mC m210) 7 = some (7, .ifCond .eq 19, 3, 26, 0, 0, 0, []) := rfl
theorem c210_10 : cdx (mC m210) 10 = some (10, .iload_n 3, 1, 3, 0, 0, 0, []) := rfl
theorem c210_11 : cdx (mC m210) 11 = some (11, .iload 4, 2, 4, 0, 0, 0, []) := rfl
theorem c210_13 : cdx (mC m210) 13 = some (13, .irem, 1, 0, 0, 0, 0, []) := rfl
theorem c210_14 : cdx (mC m210) 14 = some (14, .istore 5, 2, 5, 0, 0, 0, []) := rfl
theorem c210_16 : cdx (mC m210) 16 = some (16, .iload 4, 2, 4, 0, 0, 0, []) := rfl
theorem c210_18 : cdx (mC m210) 18 = some (18, .istore_n 3, 1, 3, 0, 0, 0, []) := rfl
theorem c210_19 : cdx (mC m210) 19 = some (19, .iload 5, 2, 5, 0, 0, 0, []) := rfl
theorem c210_21 : cdx (mC m210) 21 = some (21, .istore 4, 2, 4, 0, 0, 0, []) := rfl
theorem c210_23 : cdx (mC m210) 23 = some (23, .goto (-18), 3, 5, 0, 0, 0, []) := rfl
theorem c210_26 : cdx (mC m210) 26 = some (26, .iload_n 3, 1, 3, 0, 0, 0, []) := rfl
theorem c210_27 : cdx (mC m210) 27 = some (27, .ireturn, 1, 0, 0, 0, 0, []) := rfl
def lv210 : List (Nat × List Nat) := [(0, [1, 2]), (1, [2]), (2, [2, 3]), (3, [3]), (5, [3, 4]), (7, [3, 4]), (10, [3, 4]), (11, [4]), (13, [4]), (14, [4]), (16, [4, 5]), (18, [5]), (19, [3, 5]), (21, [3]), (23, [3, 4]), (26, [3])]
theorem lvok210 : lvOk (mC m210) lv210 = true := by decide +kernel
theorem b210_0 {X : Nat × (Nat → Int32)} {d : Nat} {I : Nat → Nat → Int32} {L : Nat → Nat → Int64} {Q : Option Value → XW → Prop} {x1 : Int32} {x2 : Int32}  : wp X d m210 0 [some (.ref 124), some (.int x1), some (.int x2), none, none, none] [] (K0, R0, I, L) Q ↔ wp X d m210 5 [none, none, none, some (.int x1), some (.int x2), none] [] (K0, R0, I, L) Q := (w_iload_n (pc' := 1) c210_0 rfl rfl).trans ((w_istore_n (pc' := 2) (ls' := [some (.ref 124), some (.int x1), some (.int x2), some (.int x1), none, none]) c210_1 (Nat.le_of_ble_eq_true rfl) rfl rfl).trans ((w_iload_n (pc' := 3) c210_2 rfl rfl).trans ((w_istore (pc' := 5) (ls' := [some (.ref 124), some (.int x1), some (.int x2), some (.int x1), some (.int x2), none]) c210_3 (Nat.le_of_ble_eq_true rfl) rfl rfl).trans ((wp_msk lvok210 rfl)))))
theorem b210_5 {X : Nat × (Nat → Int32)} {d : Nat} {I : Nat → Nat → Int32} {L : Nat → Nat → Int64} {Q : Option Value → XW → Prop} {x3 : Int32} {x4 : Int32}  : wp X d m210 5 [none, none, none, some (.int x3), some (.int x4), none] [] (K0, R0, I, L) Q ↔ (if x4 = 0 then Q (some (.int x3)) (K0, R0, I, L) else (¬ x4 = 0 ∧ wp X d m210 5 [none, none, none, some (.int x4), some (.int (x3 - x3 / x4 * x4)), none] [] (K0, R0, I, L) Q)) := (w_iload (pc' := 7) c210_5 rfl rfl).trans ((w_if_eq (pc' := 10) c210_7 rfl).trans (ite_iff ((w_iload_n (pc' := 27) c210_26 rfl rfl).trans (w_iret c210_27 rfl)) ((w_iload_n (pc' := 11) c210_10 rfl rfl).trans ((w_iload (pc' := 13) c210_11 rfl rfl).trans ((w_irem (pc' := 14) c210_13 rfl).trans (and_congr_right (fun _ => (w_istore (pc' := 16) (ls' := [none, none, none, some (.int x3), some (.int x4), some (.int (x3 - x3 / x4 * x4))]) c210_14 (Nat.le_of_ble_eq_true rfl) rfl rfl).trans ((w_iload (pc' := 18) c210_16 rfl rfl).trans ((w_istore_n (pc' := 19) (ls' := [none, none, none, some (.int x4), some (.int x4), some (.int (x3 - x3 / x4 * x4))]) c210_18 (Nat.le_of_ble_eq_true rfl) rfl rfl).trans ((w_iload (pc' := 21) c210_19 rfl rfl).trans ((w_istore (pc' := 23) (ls' := [none, none, none, some (.int x4), some (.int (x3 - x3 / x4 * x4)), some (.int (x3 - x3 / x4 * x4))]) c210_21 (Nat.le_of_ble_eq_true rfl) rfl rfl).trans ((w_goto c210_23).trans ((wp_msk lvok210 rfl))))))))))))))
-- LeavesObjectModel.mean(I)J
theorem c211_0 : cdx (mC m211) 0 = some (0, .aload_n 0, 1, 0, 0, 0, 0, []) := rfl
theorem c211_1 : cdx (mC m211) 1 = some (1, .iload_n 1, 1, 1, 0, 0, 0, []) := rfl
theorem c211_2 : cdx (mC m211) 2 = some (2, .iconst 0, 1, 0, 0, 0, 0, []) := rfl
theorem c211_3 : cdx (mC m211) 3 = some (3, .iconst 1, 1, 0, 0, 0, 0, []) := rfl
theorem c211_4 : cdx (mC m211) 4 = some (4, .invokevirtual 213, 3, 142, 3, 0, 5087, [(10, 0)]) := rfl
theorem c211_7 : cdx (mC m211) 7 = some (7, .ifCond .eq 10, 3, 17, 0, 0, 0, []) := rfl
theorem c211_10 : cdx (mC m211) 10 = some (10, .aload_n 0, 1, 0, 0, 0, 0, []) := rfl
theorem c211_11 : cdx (mC m211) 11 = some (11, .getfield 7, 3, 10, 0, 0, 4126, []) := rfl
theorem c211_14 : cdx (mC m211) 14 = some (14, .ifCond .ne 7, 3, 21, 0, 0, 0, []) := rfl
theorem c211_17 : cdx (mC m211) 17 = some (17, .ldc2_w 369, 3, 0, 0, 0, 6116, [((-9223372036854775808), 0)]) := rfl
theorem c211_20 : cdx (mC m211) 20 = some (20, .lreturn, 1, 0, 0, 0, 0, []) := rfl
theorem c211_21 : cdx (mC m211) 21 = some (21, .iconst 0, 1, 0, 0, 0, 0, []) := rfl
theorem c211_22 : cdx (mC m211) 22 = some (22, .istore_n 2, 1, 2, 0, 0, 0, []) := rfl
theorem c211_23 : cdx (mC m211) 23 = some (23, .iconst 0, 1, 0, 0, 0, 0, []) := rfl
theorem c211_24 : cdx (mC m211) 24 = some (24, .istore_n 3, 1, 3, 0, 0, 0, []) := rfl
theorem c211_25 : cdx (mC m211) 25 = some (25, .iload_n 3, 1, 3, 0, 0, 0, []) := rfl
theorem c211_26 : cdx (mC m211) 26 = some (26, .aload_n 0, 1, 0, 0, 0, 0, []) := rfl
theorem c211_27 : cdx (mC m211) 27 = some (27, .getfield 7, 3, 10, 0, 0, 4126, []) := rfl
theorem c211_30 : cdx (mC m211) 30 = some (30, .if_icmp .ge 22, 3, 52, 0, 0, 0, []) := rfl
theorem c211_33 : cdx (mC m211) 33 = some (33, .iload_n 2, 1, 2, 0, 0, 0, []) := rfl
theorem c211_34 : cdx (mC m211) 34 = some (34, .aload_n 0, 1, 0, 0, 0, 0, []) := rfl
theorem c211_35 : cdx (mC m211) 35 = some (35, .aload_n 0, 1, 0, 0, 0, 0, []) := rfl
theorem c211_36 : cdx (mC m211) 36 = some (36, .getfield 23, 3, 10, 4, 0, 4130, []) := rfl
theorem c211_39 : cdx (mC m211) 39 = some (39, .iload_n 3, 1, 3, 0, 0, 0, []) := rfl
theorem c211_40 : cdx (mC m211) 40 = some (40, .iaload, 1, 0, 0, 0, 0, []) := rfl
theorem c211_41 : cdx (mC m211) 41 = some (41, .invokevirtual 276, 3, 169, 1, 0, 5195, [(10, 0)]) := rfl
theorem c211_44 : cdx (mC m211) 44 = some (44, .iadd, 1, 0, 0, 0, 0, []) := rfl
theorem c211_45 : cdx (mC m211) 45 = some (45, .istore_n 2, 1, 2, 0, 0, 0, []) := rfl
theorem c211_46 : cdx (mC m211) 46 = some (46, .iinc 3 1, 3, 3, 0, 0, 0, []) := rfl
theorem c211_49 : cdx (mC m211) 49 = some (49, .goto (-24), 3, 25, 0, 0, 0, []) := rfl
theorem c211_52 : cdx (mC m211) 52 = some (52, .aload_n 0, 1, 0, 0, 0, 0, []) := rfl
theorem c211_53 : cdx (mC m211) 53 = some (53, .iload_n 2, 1, 2, 0, 0, 0, []) := rfl
theorem c211_54 : cdx (mC m211) 54 = some (54, .aload_n 0, 1, 0, 0, 0, 0, []) := rfl
theorem c211_55 : cdx (mC m211) 55 = some (55, .getfield 7, 3, 10, 0, 0, 4126, []) := rfl
theorem c211_58 : cdx (mC m211) 58 = some (58, .iload_n 1, 1, 1, 0, 0, 0, []) := rfl
theorem c211_59 : cdx (mC m211) 59 = some (59, .invokevirtual 371, 3, 209, 3, 0, 6117, [(10, 0)]) := rfl
theorem c211_62 : cdx (mC m211) 62 = some (62, .lreturn, 1, 0, 0, 0, 0, []) := rfl
def lv211 : List (Nat × List Nat) := [(0, [0, 1]), (1, [0, 1]), (2, [0, 1]), (3, [0, 1]), (4, [0, 1]), (7, [0, 1]), (10, [0, 1]), (11, [0, 1]), (14, [0, 1]), (21, [0, 1]), (22, [0, 1]), (23, [0, 1, 2]), (24, [0, 1, 2]), (25, [0, 1, 2, 3]), (26, [0, 1, 2, 3]), (27, [0, 1, 2, 3]), (30, [0, 1, 2, 3]), (33, [0, 1, 2, 3]), (34, [0, 1, 3]), (35, [0, 1, 3]), (36, [0, 1, 3]), (39, [0, 1, 3]), (40, [0, 1, 3]), (41, [0, 1, 3]), (44, [0, 1, 3]), (45, [0, 1, 3]), (46, [0, 1, 2, 3]), (49, [0, 1, 2, 3]), (52, [0, 1, 2]), (53, [0, 1, 2]), (54, [0, 1]), (55, [1]), (58, [1])]
theorem lvok211 : lvOk (mC m211) lv211 = true := by decide +kernel
theorem b211_0 {X : Nat × (Nat → Int32)} {d : Nat} {I : Nat → Nat → Int32} {L : Nat → Nat → Int64} {Q : Option Value → XW → Prop} {x1 : Int32}  : wp X (d + 1) m211 0 [some (.ref 124), some (.int x1), none, none] [] (K0, R0, I, L) Q ↔ wp X d m142 0 [some (.ref 124), some (.int x1), some (.int 0), some (.int 1)] [] (K0, R0, I, L) (fun r w1 => wp X (d + 1) m211 7 [some (.ref 124), some (.int x1), none, none] (r.toList ++ []) w1 Q) := (w_aload_n (pc' := 1) c211_0 rfl rfl).trans ((w_iload_n (pc' := 2) c211_1 rfl rfl).trans ((w_iconst (pc' := 3) (v := 0) c211_2 rfl rfl).trans ((w_iconst (pc' := 4) (v := 1) c211_3 rfl rfl).trans ((w_callv (pc' := 7) c211_4 mt142 rfl (Nat.le_of_ble_eq_true rfl) rfl kd_124 rfl rfl (Nat.le_of_ble_eq_true rfl) rfl rfl)))))
theorem b211_7 {X : Nat × (Nat → Int32)} {d : Nat} {I : Nat → Nat → Int32} {L : Nat → Nat → Int64} {Q : Option Value → XW → Prop} {x1 : Int32} {s0 : Int32}  : wp X d m211 7 [some (.ref 124), some (.int x1), none, none] [(.int s0)] (K0, R0, I, L) Q ↔ (if s0 = 0 then Q (some (.long ((-9223372036854775808)))) (K0, R0, I, L) else (if (I 124 0) = 0 then Q (some (.long ((-9223372036854775808)))) (K0, R0, I, L) else wp X d m211 25 [some (.ref 124), some (.int x1), some (.int 0), some (.int 0)] [] (K0, R0, I, L) Q)) := (w_if_eq (pc' := 10) c211_7 rfl).trans (ite_iff ((w_ldc2_w (pc' := 20) (v := (-9223372036854775808)) c211_17 rfl rfl).trans (w_lret c211_20 rfl)) ((w_aload_n (pc' := 11) c211_10 rfl rfl).trans ((w_getIv (pc' := 14) (v := (I 124 0)) c211_11 kd_124 (by decide) rfl (rfl) rfl).trans ((w_if_ne (pc' := 17) c211_14 rfl).trans (ite_iff ((w_ldc2_w (pc' := 20) (v := (-9223372036854775808)) c211_17 rfl rfl).trans (w_lret c211_20 rfl)) ((w_iconst (pc' := 22) (v := 0) c211_21 rfl rfl).trans ((w_istore_n (pc' := 23) (ls' := [some (.ref 124), some (.int x1), some (.int 0), none]) c211_22 (Nat.le_of_ble_eq_true rfl) rfl rfl).trans ((w_iconst (pc' := 24) (v := 0) c211_23 rfl rfl).trans ((w_istore_n (pc' := 25) (ls' := [some (.ref 124), some (.int x1), some (.int 0), some (.int 0)]) c211_24 (Nat.le_of_ble_eq_true rfl) rfl rfl))))))))))
theorem b211_25 {X : Nat × (Nat → Int32)} {d : Nat} {I : Nat → Nat → Int32} {L : Nat → Nat → Int64} {Q : Option Value → XW → Prop} {x1 : Int32} {x2 : Int32} {x3 : Int32}  : wp X (d + 1) m211 25 [some (.ref 124), some (.int x1), some (.int x2), some (.int x3)] [] (K0, R0, I, L) Q ↔ (if x3 < (I 124 0) then (inA x3 5 = true ∧ wp X d m169 0 [some (.ref 124), some (.int (I 127 (Int32.toNatClampNeg x3))), none, none] [] (K0, R0, I, L) (fun r w1 => wp X (d + 1) m211 44 [some (.ref 124), some (.int x1), none, some (.int x3)] (r.toList ++ [(.int x2)]) w1 Q)) else wp X d m209 0 [some (.ref 124), some (.int x2), some (.int (I 124 0)), some (.int x1), none] [] (K0, R0, I, L) (fun r w1 => wp X (d + 1) m211 62 [none, none, none, none] (r.toList ++ []) w1 Q)) := (w_iload_n (pc' := 26) c211_25 rfl rfl).trans ((w_aload_n (pc' := 27) c211_26 rfl rfl).trans ((w_getIv (pc' := 30) (v := (I 124 0)) c211_27 kd_124 (by decide) rfl (rfl) rfl).trans ((w_icmp_ge (pc' := 33) c211_30 rfl).trans (ite_iff ((w_iload_n (pc' := 34) c211_33 rfl rfl).trans ((w_aload_n (pc' := 35) c211_34 rfl rfl).trans ((w_aload_n (pc' := 36) c211_35 rfl rfl).trans ((w_getR (pc' := 39) (q := 127) c211_36 kd_124 (by decide) rfl rd_124_4 rfl).trans ((w_iload_n (pc' := 40) c211_39 rfl rfl).trans ((w_ialdv (pc' := 41) (v := (I 127 (Int32.toNatClampNeg x3))) c211_40 kd_127 (rfl) rfl).trans (and_congr_right (fun _ => (w_callv (pc' := 44) c211_41 mt169 rfl (Nat.le_of_ble_eq_true rfl) rfl kd_124 rfl rfl (Nat.le_of_ble_eq_true rfl) rfl rfl).trans (wp_congr (fun r w1 => wp_msk lvok211 rfl)))))))))) ((w_aload_n (pc' := 53) c211_52 rfl rfl).trans ((w_iload_n (pc' := 54) c211_53 rfl rfl).trans ((w_aload_n (pc' := 55) c211_54 rfl rfl).trans ((w_getIv (pc' := 58) (v := (I 124 0)) c211_55 kd_124 (by decide) rfl (rfl) rfl).trans ((w_iload_n (pc' := 59) c211_58 rfl rfl).trans ((w_callv (pc' := 62) c211_59 mt209 rfl (Nat.le_of_ble_eq_true rfl) rfl kd_124 rfl rfl (Nat.le_of_ble_eq_true rfl) rfl rfl).trans (wp_congr (fun r w1 => wp_msk lvok211 rfl))))))))))))
theorem b211_44 {X : Nat × (Nat → Int32)} {d : Nat} {I : Nat → Nat → Int32} {L : Nat → Nat → Int64} {Q : Option Value → XW → Prop} {x1 : Int32} {x3 : Int32} {s0 : Int32} {s1 : Int32}  : wp X d m211 44 [some (.ref 124), some (.int x1), none, some (.int x3)] [(.int s1), (.int s0)] (K0, R0, I, L) Q ↔ wp X d m211 25 [some (.ref 124), some (.int x1), some (.int (s0 + s1)), some (.int (x3 + 1))] [] (K0, R0, I, L) Q := (w_iadd (pc' := 45) c211_44 rfl).trans ((w_istore_n (pc' := 46) (ls' := [some (.ref 124), some (.int x1), some (.int (s0 + s1)), some (.int x3)]) c211_45 (Nat.le_of_ble_eq_true rfl) rfl rfl).trans ((w_iinc (pc' := 49) (v := (x3 + 1)) (ls' := [some (.ref 124), some (.int x1), some (.int (s0 + s1)), some (.int (x3 + 1))]) c211_46 (Nat.le_of_ble_eq_true rfl) rfl rfl rfl rfl).trans ((w_goto c211_49))))
theorem b211_62 {X : Nat × (Nat → Int32)} {d : Nat} {I : Nat → Nat → Int32} {L : Nat → Nat → Int64} {Q : Option Value → XW → Prop} {s0 : Int64}  : wp X d m211 62 [none, none, none, none] [(.long (s0))] (K0, R0, I, L) Q ↔ Q (some (.long (s0))) (K0, R0, I, L) := w_lret c211_62 rfl
-- LeavesObjectModel.evening(II)I
theorem c212_0 : cdx (mC m212) 0 = some (0, .iload_n 1, 1, 1, 0, 0, 0, []) := rfl
theorem c212_1 : cdx (mC m212) 1 = some (1, .iconst (-1), 1, 0, 0, 0, 0, []) := rfl
theorem c212_2 : cdx (mC m212) 2 = some (2, .if_icmp .ne 10, 3, 12, 0, 0, 0, []) := rfl
theorem c212_5 : cdx (mC m212) 5 = some (5, .aload_n 0, 1, 0, 0, 0, 0, []) := rfl
theorem c212_6 : cdx (mC m212) 6 = some (6, .iconst 0, 1, 0, 0, 0, 0, []) := rfl
theorem c212_7 : cdx (mC m212) 7 = some (7, .putfield 114, 3, 10, 34, 0, 4160, []) := rfl
theorem c212_10 : cdx (mC m212) 10 = some (10, .iconst 0, 1, 0, 0, 0, 0, []) := rfl
theorem c212_11 : cdx (mC m212) 11 = some (11, .ireturn, 1, 0, 0, 0, 0, []) := rfl
theorem c212_12 : cdx (mC m212) 12 = some (12, .iload_n 1, 1, 1, 0, 0, 0, []) := rfl
theorem c212_13 : cdx (mC m212) 13 = some (13, .iconst 5, 1, 0, 0, 0, 0, []) := rfl
theorem c212_14 : cdx (mC m212) 14 = some (14, .if_icmp .eq 21, 3, 35, 0, 0, 0, []) := rfl
theorem c212_17 : cdx (mC m212) 17 = some (17, .aload_n 0, 1, 0, 0, 0, 0, []) := rfl
theorem c212_18 : cdx (mC m212) 18 = some (18, .iload_n 1, 1, 1, 0, 0, 0, []) := rfl
theorem c212_19 : cdx (mC m212) 19 = some (19, .invokevirtual 221, 3, 145, 1, 0, 5099, [(10, 0)]) := rfl
theorem c212_22 : cdx (mC m212) 22 = some (22, .ifCond .eq 11, 3, 33, 0, 0, 0, []) := rfl
theorem c212_25 : cdx (mC m212) 25 = some (25, .aload_n 0, 1, 0, 0, 0, 0, []) := rfl
theorem c212_26 : cdx (mC m212) 26 = some (26, .iload_n 2, 1, 2, 0, 0, 0, []) := rfl
theorem c212_27 : cdx (mC m212) 27 = some (27, .invokevirtual 322, 3, 179, 1, 0, 5235, [(10, 0)]) := rfl
theorem c212_30 : cdx (mC m212) 30 = some (30, .ifCond .ne 5, 3, 35, 0, 0, 0, []) := rfl
theorem c212_33 : cdx (mC m212) 33 = some (33, .iconst (-1), 1, 0, 0, 0, 0, []) := rfl
theorem c212_34 : cdx (mC m212) 34 = some (34, .ireturn, 1, 0, 0, 0, 0, []) := rfl
theorem c212_35 : cdx (mC m212) 35 = some (35, .aload_n 0, 1, 0, 0, 0, 0, []) := rfl
theorem c212_36 : cdx (mC m212) 36 = some (36, .getfield 114, 3, 10, 34, 0, 4160, []) := rfl
theorem c212_39 : cdx (mC m212) 39 = some (39, .bipush 10, 2, 0, 0, 0, 0, []) := rfl
theorem c212_41 : cdx (mC m212) 41 = some (41, .if_icmp .ne 6, 3, 47, 0, 0, 0, []) := rfl
theorem c212_44 : cdx (mC m212) 44 = some (44, .bipush (-4), 2, 0, 0, 0, 0, []) := rfl
theorem c212_46 : cdx (mC m212) 46 = some (46, .ireturn, 1, 0, 0, 0, 0, []) := rfl
theorem c212_47 : cdx (mC m212) 47 = some (47, .aload_n 0, 1, 0, 0, 0, 0, []) := rfl
theorem c212_48 : cdx (mC m212) 48 = some (48, .getfield 120, 3, 10, 36, 0, 4162, []) := rfl
theorem c212_51 : cdx (mC m212) 51 = some (51, .aload_n 0, 1, 0, 0, 0, 0, []) := rfl
theorem c212_52 : cdx (mC m212) 52 = some (52, .getfield 114, 3, 10, 34, 0, 4160, []) := rfl
theorem c212_55 : cdx (mC m212) 55 = some (55, .iload_n 1, 1, 1, 0, 0, 0, []) := rfl
theorem c212_56 : cdx (mC m212) 56 = some (56, .iastore, 1, 0, 0, 0, 0, []) := rfl
theorem c212_57 : cdx (mC m212) 57 = some (57, .aload_n 0, 1, 0, 0, 0, 0, []) := rfl
theorem c212_58 : cdx (mC m212) 58 = some (58, .getfield 123, 3, 10, 37, 0, 4163, []) := rfl
theorem c212_61 : cdx (mC m212) 61 = some (61, .aload_n 0, 1, 0, 0, 0, 0, []) := rfl
theorem c212_62 : cdx (mC m212) 62 = some (62, .getfield 114, 3, 10, 34, 0, 4160, []) := rfl
theorem c212_65 : cdx (mC m212) 65 = some (65, .iload_n 1, 1, 1, 0, 0, 0, []) := rfl
theorem c212_66 : cdx (mC m212) 66 = some (66, .iconst 5, 1, 0, 0, 0, 0, []) := rfl
theorem c212_67 : cdx (mC m212) 67 = some (67, .if_icmp .ne 7, 3, 74, 0, 0, 0, []) := rfl
theorem c212_70 : cdx (mC m212) 70 = some (70, .iconst 0, 1, 0, 0, 0, 0, []) := rfl
theorem c212_71 : cdx (mC m212) 71 = some (71, .goto 4, 3, 75, 0, 0, 0, []) := rfl
theorem c212_74 : cdx (mC m212) 74 = some (74, .iload_n 2, 1, 2, 0, 0, 0, []) := rfl
theorem c212_75 : cdx (mC m212) 75 = some (75, .iastore, 1, 0, 0, 0, 0, []) := rfl
theorem c212_76 : cdx (mC m212) 76 = some (76, .aload_n 0, 1, 0, 0, 0, 0, []) := rfl
theorem c212_77 : cdx (mC m212) 77 = some (77, .dup, 1, 0, 0, 0, 0, []) := rfl
theorem c212_78 : cdx (mC m212) 78 = some (78, .getfield 114, 3, 10, 34, 0, 4160, []) := rfl
theorem c212_81 : cdx (mC m212) 81 = some (81, .iconst 1, 1, 0, 0, 0, 0, []) := rfl
theorem c212_82 : cdx (mC m212) 82 = some (82, .iadd, 1, 0, 0, 0, 0, []) := rfl
theorem c212_83 : cdx (mC m212) 83 = some (83, .putfield 114, 3, 10, 34, 0, 4160, []) := rfl
theorem c212_86 : cdx (mC m212) 86 = some (86, .aload_n 0, 1, 0, 0, 0, 0, []) := rfl
theorem c212_87 : cdx (mC m212) 87 = some (87, .getfield 114, 3, 10, 34, 0, 4160, []) := rfl
theorem c212_90 : cdx (mC m212) 90 = some (90, .ireturn, 1, 0, 0, 0, 0, []) := rfl
theorem b212_0 {X : Nat × (Nat → Int32)} {d : Nat} {I : Nat → Nat → Int32} {L : Nat → Nat → Int64} {Q : Option Value → XW → Prop} {x1 : Int32} {x2 : Int32}  : wp X (d + 1) m212 0 [some (.ref 124), some (.int x1), some (.int x2)] [] (K0, R0, I, L) Q ↔ (if x1 = (-1) then Q (some (.int 0)) (K0, R0, (updR I 124 34 0), L) else (if x1 = 5 then wp X (d + 1) m212 35 [some (.ref 124), some (.int x1), some (.int x2)] [] (K0, R0, I, L) Q else wp X d m145 0 [some (.ref 124), some (.int x1)] [] (K0, R0, I, L) (fun r w1 => wp X (d + 1) m212 22 [some (.ref 124), some (.int x1), some (.int x2)] (r.toList ++ []) w1 Q))) := (w_iload_n (pc' := 1) c212_0 rfl rfl).trans ((w_iconst (pc' := 2) (v := (-1)) c212_1 rfl rfl).trans ((w_icmp_ne (pc' := 5) c212_2 rfl).trans (ite_iff ((w_aload_n (pc' := 6) c212_5 rfl rfl).trans ((w_iconst (pc' := 7) (v := 0) c212_6 rfl rfl).trans ((w_putI (pc' := 10) c212_7 kd_124 (by decide) rfl rfl rfl).trans ((w_iconst (pc' := 11) (v := 0) c212_10 rfl rfl).trans (w_iret c212_11 rfl))))) ((w_iload_n (pc' := 13) c212_12 rfl rfl).trans ((w_iconst (pc' := 14) (v := 5) c212_13 rfl rfl).trans ((w_icmp_eq (pc' := 17) c212_14 rfl).trans (ite_iff (Iff.rfl) ((w_aload_n (pc' := 18) c212_17 rfl rfl).trans ((w_iload_n (pc' := 19) c212_18 rfl rfl).trans ((w_callv (pc' := 22) c212_19 mt145 rfl (Nat.le_of_ble_eq_true rfl) rfl kd_124 rfl rfl (Nat.le_of_ble_eq_true rfl) rfl rfl)))))))))))
theorem b212_35 {X : Nat × (Nat → Int32)} {d : Nat} {I : Nat → Nat → Int32} {L : Nat → Nat → Int64} {Q : Option Value → XW → Prop} {x1 : Int32} {x2 : Int32}  : wp X d m212 35 [some (.ref 124), some (.int x1), some (.int x2)] [] (K0, R0, I, L) Q ↔ (if (I 124 34) = 10 then Q (some (.int (-4))) (K0, R0, I, L) else (inA (I 124 34) 10 = true ∧ (if x1 = 5 then (inA (I 124 34) 10 = true ∧ Q (some (.int ((I 124 34) + 1))) (K0, R0, (updR (updR (updR I 146 (Int32.toNatClampNeg (I 124 34)) x1) 147 (Int32.toNatClampNeg (I 124 34)) 0) 124 34 ((I 124 34) + 1)), L)) else (inA (I 124 34) 10 = true ∧ Q (some (.int ((I 124 34) + 1))) (K0, R0, (updR (updR (updR I 146 (Int32.toNatClampNeg (I 124 34)) x1) 147 (Int32.toNatClampNeg (I 124 34)) x2) 124 34 ((I 124 34) + 1)), L))))) := (w_aload_n (pc' := 36) c212_35 rfl rfl).trans ((w_getIv (pc' := 39) (v := (I 124 34)) c212_36 kd_124 (by decide) rfl (rfl) rfl).trans ((w_bipush (pc' := 41) (v := 10) c212_39 rfl rfl).trans ((w_icmp_ne (pc' := 44) c212_41 rfl).trans (ite_iff ((w_bipush (pc' := 46) (v := (-4)) c212_44 rfl rfl).trans (w_iret c212_46 rfl)) ((w_aload_n (pc' := 48) c212_47 rfl rfl).trans ((w_getR (pc' := 51) (q := 146) c212_48 kd_124 (by decide) rfl rd_124_36 rfl).trans ((w_aload_n (pc' := 52) c212_51 rfl rfl).trans ((w_getIv (pc' := 55) (v := (I 124 34)) c212_52 kd_124 (by decide) rfl (rfl) rfl).trans ((w_iload_n (pc' := 56) c212_55 rfl rfl).trans ((w_iast (pc' := 57) c212_56 kd_146 rfl).trans (and_congr_right (fun _ => (w_aload_n (pc' := 58) c212_57 rfl rfl).trans ((w_getR (pc' := 61) (q := 147) c212_58 kd_124 (by decide) rfl rd_124_37 rfl).trans ((w_aload_n (pc' := 62) c212_61 rfl rfl).trans ((w_getIv (pc' := 65) (v := (I 124 34)) c212_62 kd_124 (by decide) rfl ((updR_k (by decide)).trans (rfl)) rfl).trans ((w_iload_n (pc' := 66) c212_65 rfl rfl).trans ((w_iconst (pc' := 67) (v := 5) c212_66 rfl rfl).trans ((w_icmp_ne (pc' := 70) c212_67 rfl).trans (ite_iff ((w_iconst (pc' := 71) (v := 0) c212_70 rfl rfl).trans ((w_goto c212_71).trans ((w_iast (pc' := 76) c212_75 kd_147 rfl).trans (and_congr_right (fun _ => (w_aload_n (pc' := 77) c212_76 rfl rfl).trans ((w_dup (pc' := 78) c212_77 rfl rfl).trans ((w_getIv (pc' := 81) (v := (I 124 34)) c212_78 kd_124 (by decide) rfl ((updR_k (by decide)).trans ((updR_k (by decide)).trans (rfl))) rfl).trans ((w_iconst (pc' := 82) (v := 1) c212_81 rfl rfl).trans ((w_iadd (pc' := 83) c212_82 rfl).trans ((w_putI (pc' := 86) c212_83 kd_124 (by decide) rfl rfl rfl).trans ((w_aload_n (pc' := 87) c212_86 rfl rfl).trans ((w_getIv (pc' := 90) (v := ((I 124 34) + 1)) c212_87 kd_124 (by decide) rfl (updR_same) rfl).trans (w_iret c212_90 rfl))))))))))))) ((w_iload_n (pc' := 75) c212_74 rfl rfl).trans ((w_iast (pc' := 76) c212_75 kd_147 rfl).trans (and_congr_right (fun _ => (w_aload_n (pc' := 77) c212_76 rfl rfl).trans ((w_dup (pc' := 78) c212_77 rfl rfl).trans ((w_getIv (pc' := 81) (v := (I 124 34)) c212_78 kd_124 (by decide) rfl ((updR_k (by decide)).trans ((updR_k (by decide)).trans (rfl))) rfl).trans ((w_iconst (pc' := 82) (v := 1) c212_81 rfl rfl).trans ((w_iadd (pc' := 83) c212_82 rfl).trans ((w_putI (pc' := 86) c212_83 kd_124 (by decide) rfl rfl rfl).trans ((w_aload_n (pc' := 87) c212_86 rfl rfl).trans ((w_getIv (pc' := 90) (v := ((I 124 34) + 1)) c212_87 kd_124 (by decide) rfl (updR_same) rfl).trans (w_iret c212_90 rfl)))))))))))))))))))))))))))))))
theorem b212_22 {X : Nat × (Nat → Int32)} {d : Nat} {I : Nat → Nat → Int32} {L : Nat → Nat → Int64} {Q : Option Value → XW → Prop} {x1 : Int32} {x2 : Int32} {s0 : Int32}  : wp X (d + 1) m212 22 [some (.ref 124), some (.int x1), some (.int x2)] [(.int s0)] (K0, R0, I, L) Q ↔ (if s0 = 0 then Q (some (.int (-1))) (K0, R0, I, L) else wp X d m179 0 [some (.ref 124), some (.int x2)] [] (K0, R0, I, L) (fun r w1 => wp X (d + 1) m212 30 [some (.ref 124), some (.int x1), some (.int x2)] (r.toList ++ []) w1 Q)) := (w_if_eq (pc' := 25) c212_22 rfl).trans (ite_iff ((w_iconst (pc' := 34) (v := (-1)) c212_33 rfl rfl).trans (w_iret c212_34 rfl)) ((w_aload_n (pc' := 26) c212_25 rfl rfl).trans ((w_iload_n (pc' := 27) c212_26 rfl rfl).trans ((w_callv (pc' := 30) c212_27 mt179 rfl (Nat.le_of_ble_eq_true rfl) rfl kd_124 rfl rfl (Nat.le_of_ble_eq_true rfl) rfl rfl)))))
theorem b212_30 {X : Nat × (Nat → Int32)} {d : Nat} {I : Nat → Nat → Int32} {L : Nat → Nat → Int64} {Q : Option Value → XW → Prop} {x1 : Int32} {x2 : Int32} {s0 : Int32}  : wp X d m212 30 [some (.ref 124), some (.int x1), some (.int x2)] [(.int s0)] (K0, R0, I, L) Q ↔ (if s0 = 0 then Q (some (.int (-1))) (K0, R0, I, L) else wp X d m212 35 [some (.ref 124), some (.int x1), some (.int x2)] [] (K0, R0, I, L) Q) := (w_if_ne (pc' := 33) c212_30 rfl).trans (ite_iff ((w_iconst (pc' := 34) (v := (-1)) c212_33 rfl rfl).trans (w_iret c212_34 rfl)) (Iff.rfl))
-- LeavesObjectModel.ends(I)I
theorem c213_0 : cdx (mC m213) 0 = some (0, .aload_n 0, 1, 0, 0, 0, 0, []) := rfl
theorem c213_1 : cdx (mC m213) 1 = some (1, .iload_n 1, 1, 1, 0, 0, 0, []) := rfl
theorem c213_2 : cdx (mC m213) 2 = some (2, .iconst 0, 1, 0, 0, 0, 0, []) := rfl
theorem c213_3 : cdx (mC m213) 3 = some (3, .iconst 1, 1, 0, 0, 0, 0, []) := rfl
theorem c213_4 : cdx (mC m213) 4 = some (4, .invokevirtual 213, 3, 142, 3, 0, 5087, [(10, 0)]) := rfl
theorem c213_7 : cdx (mC m213) 7 = some (7, .ifCond .ne 5, 3, 12, 0, 0, 0, []) := rfl
theorem c213_10 : cdx (mC m213) 10 = some (10, .iconst (-1), 1, 0, 0, 0, 0, []) := rfl
theorem c213_11 : cdx (mC m213) 11 = some (11, .ireturn, 1, 0, 0, 0, 0, []) := rfl
theorem c213_12 : cdx (mC m213) 12 = some (12, .aload_n 0, 1, 0, 0, 0, 0, []) := rfl
theorem c213_13 : cdx (mC m213) 13 = some (13, .invokevirtual 333, 3, 188, 0, 0, 6031, [(10, 0)]) := rfl
theorem c213_16 : cdx (mC m213) 16 = some (16, .iconst 0, 1, 0, 0, 0, 0, []) := rfl
theorem c213_17 : cdx (mC m213) 17 = some (17, .istore_n 2, 1, 2, 0, 0, 0, []) := rfl
theorem c213_18 : cdx (mC m213) 18 = some (18, .iload_n 2, 1, 2, 0, 0, 0, []) := rfl
theorem c213_19 : cdx (mC m213) 19 = some (19, .aload_n 0, 1, 0, 0, 0, 0, []) := rfl
theorem c213_20 : cdx (mC m213) 20 = some (20, .getfield 114, 3, 10, 34, 0, 4160, []) := rfl
theorem c213_23 : cdx (mC m213) 23 = some (23, .if_icmp .ge 42, 3, 65, 0, 0, 0, []) := rfl
theorem c213_26 : cdx (mC m213) 26 = some (26, .aload_n 0, 1, 0, 0, 0, 0, []) := rfl
theorem c213_27 : cdx (mC m213) 27 = some (27, .getfield 120, 3, 10, 36, 0, 4162, []) := rfl
theorem c213_30 : cdx (mC m213) 30 = some (30, .iload_n 2, 1, 2, 0, 0, 0, []) := rfl
theorem c213_31 : cdx (mC m213) 31 = some (31, .iaload, 1, 0, 0, 0, 0, []) := rfl
theorem c213_32 : cdx (mC m213) 32 = some (32, .iconst 5, 1, 0, 0, 0, 0, []) := rfl
theorem c213_33 : cdx (mC m213) 33 = some (33, .if_icmp .ne 10, 3, 43, 0, 0, 0, []) := rfl
theorem c213_36 : cdx (mC m213) 36 = some (36, .aload_n 0, 1, 0, 0, 0, 0, []) := rfl
theorem c213_37 : cdx (mC m213) 37 = some (37, .invokevirtual 329, 3, 185, 0, 0, 6019, [(10, 0)]) := rfl
theorem c213_40 : cdx (mC m213) 40 = some (40, .goto 19, 3, 59, 0, 0, 0, []) := rfl
theorem c213_43 : cdx (mC m213) 43 = some (43, .aload_n 0, 1, 0, 0, 0, 0, []) := rfl
theorem c213_44 : cdx (mC m213) 44 = some (44, .aload_n 0, 1, 0, 0, 0, 0, []) := rfl
theorem c213_45 : cdx (mC m213) 45 = some (45, .getfield 120, 3, 10, 36, 0, 4162, []) := rfl
theorem c213_48 : cdx (mC m213) 48 = some (48, .iload_n 2, 1, 2, 0, 0, 0, []) := rfl
theorem c213_49 : cdx (mC m213) 49 = some (49, .iaload, 1, 0, 0, 0, 0, []) := rfl
theorem c213_50 : cdx (mC m213) 50 = some (50, .aload_n 0, 1, 0, 0, 0, 0, []) := rfl
theorem c213_51 : cdx (mC m213) 51 = some (51, .getfield 123, 3, 10, 37, 0, 4163, []) := rfl
theorem c213_54 : cdx (mC m213) 54 = some (54, .iload_n 2, 1, 2, 0, 0, 0, []) := rfl
theorem c213_55 : cdx (mC m213) 55 = some (55, .iaload, 1, 0, 0, 0, 0, []) := rfl
theorem c213_56 : cdx (mC m213) 56 = some (56, .invokevirtual 325, 3, 181, 2, 0, 6003, [(10, 0)]) := rfl
theorem c213_59 : cdx (mC m213) 59 = some (59, .iinc 2 1, 3, 2, 0, 0, 0, []) := rfl
theorem c213_62 : cdx (mC m213) 62 = some (62, .goto (-44), 3, 18, 0, 0, 0, []) := rfl
theorem c213_65 : cdx (mC m213) 65 = some (65, .iconst 0, 1, 0, 0, 0, 0, []) := rfl
theorem c213_66 : cdx (mC m213) 66 = some (66, .istore_n 2, 1, 2, 0, 0, 0, []) := rfl
theorem c213_67 : cdx (mC m213) 67 = some (67, .iconst 0, 1, 0, 0, 0, 0, []) := rfl
theorem c213_68 : cdx (mC m213) 68 = some (68, .istore_n 3, 1, 3, 0, 0, 0, []) := rfl
theorem c213_69 : cdx (mC m213) 69 = some (69, .iload_n 3, 1, 3, 0, 0, 0, []) := rfl
theorem c213_70 : cdx (mC m213) 70 = some (70, .aload_n 0, 1, 0, 0, 0, 0, []) := rfl
theorem c213_71 : cdx (mC m213) 71 = some (71, .getfield 7, 3, 10, 0, 0, 4126, []) := rfl
theorem c213_74 : cdx (mC m213) 74 = some (74, .if_icmp .ge 25, 3, 99, 0, 0, 0, []) := rfl
theorem c213_77 : cdx (mC m213) 77 = some (77, .iload_n 2, 1, 2, 0, 0, 0, []) := rfl
theorem c213_78 : cdx (mC m213) 78 = some (78, .aload_n 0, 1, 0, 0, 0, 0, []) := rfl
theorem c213_79 : cdx (mC m213) 79 = some (79, .getfield 29, 3, 10, 6, 0, 4132, []) := rfl
theorem c213_82 : cdx (mC m213) 82 = some (82, .iload_n 3, 1, 3, 0, 0, 0, []) := rfl
theorem c213_83 : cdx (mC m213) 83 = some (83, .iaload, 1, 0, 0, 0, 0, []) := rfl
theorem c213_84 : cdx (mC m213) 84 = some (84, .aload_n 0, 1, 0, 0, 0, 0, []) := rfl
theorem c213_85 : cdx (mC m213) 85 = some (85, .getfield 102, 3, 10, 30, 0, 4156, []) := rfl
theorem c213_88 : cdx (mC m213) 88 = some (88, .iload_n 3, 1, 3, 0, 0, 0, []) := rfl
theorem c213_89 : cdx (mC m213) 89 = some (89, .iaload, 1, 0, 0, 0, 0, []) := rfl
theorem c213_90 : cdx (mC m213) 90 = some (90, .isub, 1, 0, 0, 0, 0, []) := rfl
theorem c213_91 : cdx (mC m213) 91 = some (91, .iadd, 1, 0, 0, 0, 0, []) := rfl
theorem c213_92 : cdx (mC m213) 92 = some (92, .istore_n 2, 1, 2, 0, 0, 0, []) := rfl
theorem c213_93 : cdx (mC m213) 93 = some (93, .iinc 3 1, 3, 3, 0, 0, 0, []) := rfl
theorem c213_96 : cdx (mC m213) 96 = some (96, .goto (-27), 3, 69, 0, 0, 0, []) := rfl
theorem c213_99 : cdx (mC m213) 99 = some (99, .iload_n 1, 1, 1, 0, 0, 0, []) := rfl
theorem c213_100 : cdx (mC m213) 100 = some (100, .ifCond .ne 10, 3, 110, 0, 0, 0, []) := rfl
theorem c213_103 : cdx (mC m213) 103 = some (103, .aload_n 0, 1, 0, 0, 0, 0, []) := rfl
theorem c213_104 : cdx (mC m213) 104 = some (104, .invokevirtual 351, 3, 197, 0, 0, 6068, [(10, 0)]) := rfl
theorem c213_107 : cdx (mC m213) 107 = some (107, .goto 4, 3, 111, 0, 0, 0, []) := rfl
theorem c213_110 : cdx (mC m213) 110 = some (110, .iload_n 2, 1, 2, 0, 0, 0, []) := rfl
theorem c213_111 : cdx (mC m213) 111 = some (111, .istore_n 3, 1, 3, 0, 0, 0, []) := rfl
theorem c213_112 : cdx (mC m213) 112 = some (112, .aload_n 0, 1, 0, 0, 0, 0, []) := rfl
theorem c213_113 : cdx (mC m213) 113 = some (113, .invokevirtual 336, 3, 189, 0, 0, 6036, [(10, 0)]) := rfl
theorem c213_116 : cdx (mC m213) 116 = some (116, .iload_n 3, 1, 3, 0, 0, 0, []) := rfl
theorem c213_117 : cdx (mC m213) 117 = some (117, .ireturn, 1, 0, 0, 0, 0, []) := rfl
def lv213 : List (Nat × List Nat) := [(0, [0, 1]), (1, [0, 1]), (2, [0, 1]), (3, [0, 1]), (4, [0, 1]), (7, [0, 1]), (12, [0, 1]), (13, [0, 1]), (16, [0, 1]), (17, [0, 1]), (18, [0, 1, 2]), (19, [0, 1, 2]), (20, [0, 1, 2]), (23, [0, 1, 2]), (26, [0, 1, 2]), (27, [0, 1, 2]), (30, [0, 1, 2]), (31, [0, 1, 2]), (32, [0, 1, 2]), (33, [0, 1, 2]), (36, [0, 1, 2]), (37, [0, 1, 2]), (40, [0, 1, 2]), (43, [0, 1, 2]), (44, [0, 1, 2]), (45, [0, 1, 2]), (48, [0, 1, 2]), (49, [0, 1, 2]), (50, [0, 1, 2]), (51, [0, 1, 2]), (54, [0, 1, 2]), (55, [0, 1, 2]), (56, [0, 1, 2]), (59, [0, 1, 2]), (62, [0, 1, 2]), (65, [0, 1]), (66, [0, 1]), (67, [0, 1, 2]), (68, [0, 1, 2]), (69, [0, 1, 2, 3]), (70, [0, 1, 2, 3]), (71, [0, 1, 2, 3]), (74, [0, 1, 2, 3]), (77, [0, 1, 2, 3]), (78, [0, 1, 3]), (79, [0, 1, 3]), (82, [0, 1, 3]), (83, [0, 1, 3]), (84, [0, 1, 3]), (85, [0, 1, 3]), (88, [0, 1, 3]), (89, [0, 1, 3]), (90, [0, 1, 3]), (91, [0, 1, 3]), (92, [0, 1, 3]), (93, [0, 1, 2, 3]), (96, [0, 1, 2, 3]), (99, [0, 1, 2]), (100, [0, 2]), (103, [0]), (104, [0]), (107, [0]), (110, [0, 2]), (111, [0]), (112, [0, 3]), (113, [3]), (116, [3])]
theorem lvok213 : lvOk (mC m213) lv213 = true := by decide +kernel
theorem b213_0 {X : Nat × (Nat → Int32)} {d : Nat} {I : Nat → Nat → Int32} {L : Nat → Nat → Int64} {Q : Option Value → XW → Prop} {x1 : Int32}  : wp X (d + 1) m213 0 [some (.ref 124), some (.int x1), none, none] [] (K0, R0, I, L) Q ↔ wp X d m142 0 [some (.ref 124), some (.int x1), some (.int 0), some (.int 1)] [] (K0, R0, I, L) (fun r w1 => wp X (d + 1) m213 7 [some (.ref 124), some (.int x1), none, none] (r.toList ++ []) w1 Q) := (w_aload_n (pc' := 1) c213_0 rfl rfl).trans ((w_iload_n (pc' := 2) c213_1 rfl rfl).trans ((w_iconst (pc' := 3) (v := 0) c213_2 rfl rfl).trans ((w_iconst (pc' := 4) (v := 1) c213_3 rfl rfl).trans ((w_callv (pc' := 7) c213_4 mt142 rfl (Nat.le_of_ble_eq_true rfl) rfl kd_124 rfl rfl (Nat.le_of_ble_eq_true rfl) rfl rfl)))))
theorem b213_7 {X : Nat × (Nat → Int32)} {d : Nat} {I : Nat → Nat → Int32} {L : Nat → Nat → Int64} {Q : Option Value → XW → Prop} {x1 : Int32} {s0 : Int32}  : wp X (d + 1) m213 7 [some (.ref 124), some (.int x1), none, none] [(.int s0)] (K0, R0, I, L) Q ↔ (if s0 = 0 then Q (some (.int (-1))) (K0, R0, I, L) else wp X d m188 0 [some (.ref 124), none] [] (K0, R0, I, L) (fun r w1 => wp X (d + 1) m213 16 [some (.ref 124), some (.int x1), none, none] (r.toList ++ []) w1 Q)) := (w_if_ne (pc' := 10) c213_7 rfl).trans (ite_iff ((w_iconst (pc' := 11) (v := (-1)) c213_10 rfl rfl).trans (w_iret c213_11 rfl)) ((w_aload_n (pc' := 13) c213_12 rfl rfl).trans ((w_callv (pc' := 16) c213_13 mt188 rfl (Nat.le_of_ble_eq_true rfl) rfl kd_124 rfl rfl (Nat.le_of_ble_eq_true rfl) rfl rfl))))
theorem b213_16 {X : Nat × (Nat → Int32)} {d : Nat} {I : Nat → Nat → Int32} {L : Nat → Nat → Int64} {Q : Option Value → XW → Prop} {x1 : Int32}  : wp X d m213 16 [some (.ref 124), some (.int x1), none, none] [] (K0, R0, I, L) Q ↔ wp X d m213 18 [some (.ref 124), some (.int x1), some (.int 0), none] [] (K0, R0, I, L) Q := (w_iconst (pc' := 17) (v := 0) c213_16 rfl rfl).trans ((w_istore_n (pc' := 18) (ls' := [some (.ref 124), some (.int x1), some (.int 0), none]) c213_17 (Nat.le_of_ble_eq_true rfl) rfl rfl))
theorem b213_18 {X : Nat × (Nat → Int32)} {d : Nat} {I : Nat → Nat → Int32} {L : Nat → Nat → Int64} {Q : Option Value → XW → Prop} {x1 : Int32} {x2 : Int32}  : wp X (d + 1) m213 18 [some (.ref 124), some (.int x1), some (.int x2), none] [] (K0, R0, I, L) Q ↔ (if x2 < (I 124 34) then (inA x2 10 = true ∧ (if (I 146 (Int32.toNatClampNeg x2)) = 5 then wp X d m185 0 [some (.ref 124), none] [] (K0, R0, I, L) (fun r w1 => wp X (d + 1) m213 40 [some (.ref 124), some (.int x1), some (.int x2), none] (r.toList ++ []) w1 Q) else (inA x2 10 = true ∧ (inA x2 10 = true ∧ wp X d m181 0 [some (.ref 124), some (.int (I 146 (Int32.toNatClampNeg x2))), some (.int (I 147 (Int32.toNatClampNeg x2))), none] [] (K0, R0, I, L) (fun r w1 => wp X (d + 1) m213 59 [some (.ref 124), some (.int x1), some (.int x2), none] (r.toList ++ []) w1 Q))))) else wp X (d + 1) m213 69 [some (.ref 124), some (.int x1), some (.int 0), some (.int 0)] [] (K0, R0, I, L) Q) := (w_iload_n (pc' := 19) c213_18 rfl rfl).trans ((w_aload_n (pc' := 20) c213_19 rfl rfl).trans ((w_getIv (pc' := 23) (v := (I 124 34)) c213_20 kd_124 (by decide) rfl (rfl) rfl).trans ((w_icmp_ge (pc' := 26) c213_23 rfl).trans (ite_iff ((w_aload_n (pc' := 27) c213_26 rfl rfl).trans ((w_getR (pc' := 30) (q := 146) c213_27 kd_124 (by decide) rfl rd_124_36 rfl).trans ((w_iload_n (pc' := 31) c213_30 rfl rfl).trans ((w_ialdv (pc' := 32) (v := (I 146 (Int32.toNatClampNeg x2))) c213_31 kd_146 (rfl) rfl).trans (and_congr_right (fun _ => (w_iconst (pc' := 33) (v := 5) c213_32 rfl rfl).trans ((w_icmp_ne (pc' := 36) c213_33 rfl).trans (ite_iff ((w_aload_n (pc' := 37) c213_36 rfl rfl).trans ((w_callv (pc' := 40) c213_37 mt185 rfl (Nat.le_of_ble_eq_true rfl) rfl kd_124 rfl rfl (Nat.le_of_ble_eq_true rfl) rfl rfl))) ((w_aload_n (pc' := 44) c213_43 rfl rfl).trans ((w_aload_n (pc' := 45) c213_44 rfl rfl).trans ((w_getR (pc' := 48) (q := 146) c213_45 kd_124 (by decide) rfl rd_124_36 rfl).trans ((w_iload_n (pc' := 49) c213_48 rfl rfl).trans ((w_ialdv (pc' := 50) (v := (I 146 (Int32.toNatClampNeg x2))) c213_49 kd_146 (rfl) rfl).trans (and_congr_right (fun _ => (w_aload_n (pc' := 51) c213_50 rfl rfl).trans ((w_getR (pc' := 54) (q := 147) c213_51 kd_124 (by decide) rfl rd_124_37 rfl).trans ((w_iload_n (pc' := 55) c213_54 rfl rfl).trans ((w_ialdv (pc' := 56) (v := (I 147 (Int32.toNatClampNeg x2))) c213_55 kd_147 (rfl) rfl).trans (and_congr_right (fun _ => (w_callv (pc' := 59) c213_56 mt181 rfl (Nat.le_of_ble_eq_true rfl) rfl kd_124 rfl rfl (Nat.le_of_ble_eq_true rfl) rfl rfl))))))))))))))))))))) ((w_iconst (pc' := 66) (v := 0) c213_65 rfl rfl).trans ((w_istore_n (pc' := 67) (ls' := [some (.ref 124), some (.int x1), some (.int 0), none]) c213_66 (Nat.le_of_ble_eq_true rfl) rfl rfl).trans ((w_iconst (pc' := 68) (v := 0) c213_67 rfl rfl).trans ((w_istore_n (pc' := 69) (ls' := [some (.ref 124), some (.int x1), some (.int 0), some (.int 0)]) c213_68 (Nat.le_of_ble_eq_true rfl) rfl rfl)))))))))
theorem b213_40 {X : Nat × (Nat → Int32)} {d : Nat} {I : Nat → Nat → Int32} {L : Nat → Nat → Int64} {Q : Option Value → XW → Prop} {x1 : Int32} {x2 : Int32}  : wp X d m213 40 [some (.ref 124), some (.int x1), some (.int x2), none] [] (K0, R0, I, L) Q ↔ wp X d m213 59 [some (.ref 124), some (.int x1), some (.int x2), none] [] (K0, R0, I, L) Q := (w_goto c213_40)
theorem b213_59 {X : Nat × (Nat → Int32)} {d : Nat} {I : Nat → Nat → Int32} {L : Nat → Nat → Int64} {Q : Option Value → XW → Prop} {x1 : Int32} {x2 : Int32}  : wp X d m213 59 [some (.ref 124), some (.int x1), some (.int x2), none] [] (K0, R0, I, L) Q ↔ wp X d m213 18 [some (.ref 124), some (.int x1), some (.int (x2 + 1)), none] [] (K0, R0, I, L) Q := (w_iinc (pc' := 62) (v := (x2 + 1)) (ls' := [some (.ref 124), some (.int x1), some (.int (x2 + 1)), none]) c213_59 (Nat.le_of_ble_eq_true rfl) rfl rfl rfl rfl).trans ((w_goto c213_62))
theorem b213_69 {X : Nat × (Nat → Int32)} {d : Nat} {I : Nat → Nat → Int32} {L : Nat → Nat → Int64} {Q : Option Value → XW → Prop} {x1 : Int32} {x2 : Int32} {x3 : Int32}  : wp X (d + 1) m213 69 [some (.ref 124), some (.int x1), some (.int x2), some (.int x3)] [] (K0, R0, I, L) Q ↔ (if x3 < (I 124 0) then (inA x3 5 = true ∧ (inA x3 5 = true ∧ wp X (d + 1) m213 69 [some (.ref 124), some (.int x1), some (.int (x2 + ((I 129 (Int32.toNatClampNeg x3)) - (I 143 (Int32.toNatClampNeg x3))))), some (.int (x3 + 1))] [] (K0, R0, I, L) Q)) else (if x1 = 0 then wp X d m197 0 [some (.ref 124)] [] (K0, R0, I, L) (fun r w1 => wp X (d + 1) m213 107 [some (.ref 124), none, none, none] (r.toList ++ []) w1 Q) else wp X d m189 0 [some (.ref 124), none] [] (K0, R0, I, L) (fun r w1 => wp X (d + 1) m213 116 [none, none, none, some (.int x2)] (r.toList ++ []) w1 Q))) := (w_iload_n (pc' := 70) c213_69 rfl rfl).trans ((w_aload_n (pc' := 71) c213_70 rfl rfl).trans ((w_getIv (pc' := 74) (v := (I 124 0)) c213_71 kd_124 (by decide) rfl (rfl) rfl).trans ((w_icmp_ge (pc' := 77) c213_74 rfl).trans (ite_iff ((w_iload_n (pc' := 78) c213_77 rfl rfl).trans ((w_aload_n (pc' := 79) c213_78 rfl rfl).trans ((w_getR (pc' := 82) (q := 129) c213_79 kd_124 (by decide) rfl rd_124_6 rfl).trans ((w_iload_n (pc' := 83) c213_82 rfl rfl).trans ((w_ialdv (pc' := 84) (v := (I 129 (Int32.toNatClampNeg x3))) c213_83 kd_129 (rfl) rfl).trans (and_congr_right (fun _ => (w_aload_n (pc' := 85) c213_84 rfl rfl).trans ((w_getR (pc' := 88) (q := 143) c213_85 kd_124 (by decide) rfl rd_124_30 rfl).trans ((w_iload_n (pc' := 89) c213_88 rfl rfl).trans ((w_ialdv (pc' := 90) (v := (I 143 (Int32.toNatClampNeg x3))) c213_89 kd_143 (rfl) rfl).trans (and_congr_right (fun _ => (w_isub (pc' := 91) c213_90 rfl).trans ((w_iadd (pc' := 92) c213_91 rfl).trans ((w_istore_n (pc' := 93) (ls' := [some (.ref 124), some (.int x1), some (.int (x2 + ((I 129 (Int32.toNatClampNeg x3)) - (I 143 (Int32.toNatClampNeg x3))))), some (.int x3)]) c213_92 (Nat.le_of_ble_eq_true rfl) rfl rfl).trans ((w_iinc (pc' := 96) (v := (x3 + 1)) (ls' := [some (.ref 124), some (.int x1), some (.int (x2 + ((I 129 (Int32.toNatClampNeg x3)) - (I 143 (Int32.toNatClampNeg x3))))), some (.int (x3 + 1))]) c213_93 (Nat.le_of_ble_eq_true rfl) rfl rfl rfl rfl).trans ((w_goto c213_96))))))))))))))))) ((w_iload_n (pc' := 100) c213_99 rfl rfl).trans ((w_if_ne (pc' := 103) c213_100 rfl).trans (ite_iff ((w_aload_n (pc' := 104) c213_103 rfl rfl).trans ((w_callv (pc' := 107) c213_104 mt197 rfl (Nat.le_of_ble_eq_true rfl) rfl kd_124 rfl rfl (Nat.le_of_ble_eq_true rfl) rfl rfl).trans (wp_congr (fun r w1 => wp_msk lvok213 rfl)))) ((w_iload_n (pc' := 111) c213_110 rfl rfl).trans ((w_istore_n (pc' := 112) (ls' := [some (.ref 124), some (.int x1), some (.int x2), some (.int x2)]) c213_111 (Nat.le_of_ble_eq_true rfl) rfl rfl).trans ((w_aload_n (pc' := 113) c213_112 rfl rfl).trans ((w_callv (pc' := 116) c213_113 mt189 rfl (Nat.le_of_ble_eq_true rfl) rfl kd_124 rfl rfl (Nat.le_of_ble_eq_true rfl) rfl rfl).trans (wp_congr (fun r w1 => wp_msk lvok213 rfl)))))))))))))
theorem b213_107 {X : Nat × (Nat → Int32)} {d : Nat} {I : Nat → Nat → Int32} {L : Nat → Nat → Int64} {Q : Option Value → XW → Prop} {s0 : Int32}  : wp X (d + 1) m213 107 [some (.ref 124), none, none, none] [(.int s0)] (K0, R0, I, L) Q ↔ wp X d m189 0 [some (.ref 124), none] [] (K0, R0, I, L) (fun r w1 => wp X (d + 1) m213 116 [none, none, none, some (.int s0)] (r.toList ++ []) w1 Q) := (w_goto c213_107).trans ((w_istore_n (pc' := 112) (ls' := [some (.ref 124), none, none, some (.int s0)]) c213_111 (Nat.le_of_ble_eq_true rfl) rfl rfl).trans ((w_aload_n (pc' := 113) c213_112 rfl rfl).trans ((w_callv (pc' := 116) c213_113 mt189 rfl (Nat.le_of_ble_eq_true rfl) rfl kd_124 rfl rfl (Nat.le_of_ble_eq_true rfl) rfl rfl).trans (wp_congr (fun r w1 => wp_msk lvok213 rfl)))))
theorem b213_116 {X : Nat × (Nat → Int32)} {d : Nat} {I : Nat → Nat → Int32} {L : Nat → Nat → Int64} {Q : Option Value → XW → Prop} {x3 : Int32}  : wp X d m213 116 [none, none, none, some (.int x3)] [] (K0, R0, I, L) Q ↔ Q (some (.int x3)) (K0, R0, I, L) := (w_iload_n (pc' := 117) c213_116 rfl rfl).trans (w_iret c213_117 rfl)
-- LeavesObjectModel.book(II)I
theorem c214_0 : cdx (mC m214) 0 = some (0, .iload_n 1, 1, 1, 0, 0, 0, []) := rfl
theorem c214_1 : cdx (mC m214) 1 = some (1, .iconst (-1), 1, 0, 0, 0, 0, []) := rfl
theorem c214_2 : cdx (mC m214) 2 = some (2, .if_icmp .ne 10, 3, 12, 0, 0, 0, []) := rfl
theorem c214_5 : cdx (mC m214) 5 = some (5, .aload_n 0, 1, 0, 0, 0, 0, []) := rfl
theorem c214_6 : cdx (mC m214) 6 = some (6, .iconst 0, 1, 0, 0, 0, 0, []) := rfl
theorem c214_7 : cdx (mC m214) 7 = some (7, .putfield 117, 3, 10, 35, 0, 4161, []) := rfl
theorem c214_10 : cdx (mC m214) 10 = some (10, .iconst 0, 1, 0, 0, 0, 0, []) := rfl
theorem c214_11 : cdx (mC m214) 11 = some (11, .ireturn, 1, 0, 0, 0, 0, []) := rfl
theorem c214_12 : cdx (mC m214) 12 = some (12, .aload_n 0, 1, 0, 0, 0, 0, []) := rfl
theorem c214_13 : cdx (mC m214) 13 = some (13, .iload_n 1, 1, 1, 0, 0, 0, []) := rfl
theorem c214_14 : cdx (mC m214) 14 = some (14, .invokevirtual 221, 3, 145, 1, 0, 5099, [(10, 0)]) := rfl
theorem c214_17 : cdx (mC m214) 17 = some (17, .ifCond .ne 5, 3, 22, 0, 0, 0, []) := rfl
theorem c214_20 : cdx (mC m214) 20 = some (20, .iconst (-1), 1, 0, 0, 0, 0, []) := rfl
theorem c214_21 : cdx (mC m214) 21 = some (21, .ireturn, 1, 0, 0, 0, 0, []) := rfl
theorem c214_22 : cdx (mC m214) 22 = some (22, .aload_n 0, 1, 0, 0, 0, 0, []) := rfl
theorem c214_23 : cdx (mC m214) 23 = some (23, .iload_n 2, 1, 2, 0, 0, 0, []) := rfl
theorem c214_24 : cdx (mC m214) 24 = some (24, .invokevirtual 217, 3, 143, 1, 0, 5091, [(10, 0)]) := rfl
theorem c214_27 : cdx (mC m214) 27 = some (27, .ifCond .ne 6, 3, 33, 0, 0, 0, []) := rfl
theorem c214_30 : cdx (mC m214) 30 = some (30, .bipush (-2), 2, 0, 0, 0, 0, []) := rfl
theorem c214_32 : cdx (mC m214) 32 = some (32, .ireturn, 1, 0, 0, 0, 0, []) := rfl
theorem c214_33 : cdx (mC m214) 33 = some (33, .aload_n 0, 1, 0, 0, 0, 0, []) := rfl
theorem c214_34 : cdx (mC m214) 34 = some (34, .getfield 117, 3, 10, 35, 0, 4161, []) := rfl
theorem c214_37 : cdx (mC m214) 37 = some (37, .bipush 8, 2, 0, 0, 0, 0, []) := rfl
theorem c214_39 : cdx (mC m214) 39 = some (39, .if_icmp .ne 6, 3, 45, 0, 0, 0, []) := rfl
theorem c214_42 : cdx (mC m214) 42 = some (42, .bipush (-4), 2, 0, 0, 0, 0, []) := rfl
theorem c214_44 : cdx (mC m214) 44 = some (44, .ireturn, 1, 0, 0, 0, 0, []) := rfl
theorem c214_45 : cdx (mC m214) 45 = some (45, .aload_n 0, 1, 0, 0, 0, 0, []) := rfl
theorem c214_46 : cdx (mC m214) 46 = some (46, .getfield 126, 3, 10, 38, 0, 4164, []) := rfl
theorem c214_49 : cdx (mC m214) 49 = some (49, .aload_n 0, 1, 0, 0, 0, 0, []) := rfl
theorem c214_50 : cdx (mC m214) 50 = some (50, .getfield 117, 3, 10, 35, 0, 4161, []) := rfl
theorem c214_53 : cdx (mC m214) 53 = some (53, .iload_n 1, 1, 1, 0, 0, 0, []) := rfl
theorem c214_54 : cdx (mC m214) 54 = some (54, .iastore, 1, 0, 0, 0, 0, []) := rfl
theorem c214_55 : cdx (mC m214) 55 = some (55, .aload_n 0, 1, 0, 0, 0, 0, []) := rfl
theorem c214_56 : cdx (mC m214) 56 = some (56, .getfield 129, 3, 10, 39, 0, 4165, []) := rfl
theorem c214_59 : cdx (mC m214) 59 = some (59, .aload_n 0, 1, 0, 0, 0, 0, []) := rfl
theorem c214_60 : cdx (mC m214) 60 = some (60, .getfield 117, 3, 10, 35, 0, 4161, []) := rfl
theorem c214_63 : cdx (mC m214) 63 = some (63, .iload_n 2, 1, 2, 0, 0, 0, []) := rfl
theorem c214_64 : cdx (mC m214) 64 = some (64, .iastore, 1, 0, 0, 0, 0, []) := rfl
theorem c214_65 : cdx (mC m214) 65 = some (65, .aload_n 0, 1, 0, 0, 0, 0, []) := rfl
theorem c214_66 : cdx (mC m214) 66 = some (66, .dup, 1, 0, 0, 0, 0, []) := rfl
theorem c214_67 : cdx (mC m214) 67 = some (67, .getfield 117, 3, 10, 35, 0, 4161, []) := rfl
theorem c214_70 : cdx (mC m214) 70 = some (70, .iconst 1, 1, 0, 0, 0, 0, []) := rfl
theorem c214_71 : cdx (mC m214) 71 = some (71, .iadd, 1, 0, 0, 0, 0, []) := rfl
theorem c214_72 : cdx (mC m214) 72 = some (72, .putfield 117, 3, 10, 35, 0, 4161, []) := rfl
theorem c214_75 : cdx (mC m214) 75 = some (75, .aload_n 0, 1, 0, 0, 0, 0, []) := rfl
theorem c214_76 : cdx (mC m214) 76 = some (76, .getfield 117, 3, 10, 35, 0, 4161, []) := rfl
theorem c214_79 : cdx (mC m214) 79 = some (79, .ireturn, 1, 0, 0, 0, 0, []) := rfl
theorem b214_0 {X : Nat × (Nat → Int32)} {d : Nat} {I : Nat → Nat → Int32} {L : Nat → Nat → Int64} {Q : Option Value → XW → Prop} {x1 : Int32} {x2 : Int32}  : wp X (d + 1) m214 0 [some (.ref 124), some (.int x1), some (.int x2)] [] (K0, R0, I, L) Q ↔ (if x1 = (-1) then Q (some (.int 0)) (K0, R0, (updR I 124 35 0), L) else wp X d m145 0 [some (.ref 124), some (.int x1)] [] (K0, R0, I, L) (fun r w1 => wp X (d + 1) m214 17 [some (.ref 124), some (.int x1), some (.int x2)] (r.toList ++ []) w1 Q)) := (w_iload_n (pc' := 1) c214_0 rfl rfl).trans ((w_iconst (pc' := 2) (v := (-1)) c214_1 rfl rfl).trans ((w_icmp_ne (pc' := 5) c214_2 rfl).trans (ite_iff ((w_aload_n (pc' := 6) c214_5 rfl rfl).trans ((w_iconst (pc' := 7) (v := 0) c214_6 rfl rfl).trans ((w_putI (pc' := 10) c214_7 kd_124 (by decide) rfl rfl rfl).trans ((w_iconst (pc' := 11) (v := 0) c214_10 rfl rfl).trans (w_iret c214_11 rfl))))) ((w_aload_n (pc' := 13) c214_12 rfl rfl).trans ((w_iload_n (pc' := 14) c214_13 rfl rfl).trans ((w_callv (pc' := 17) c214_14 mt145 rfl (Nat.le_of_ble_eq_true rfl) rfl kd_124 rfl rfl (Nat.le_of_ble_eq_true rfl) rfl rfl)))))))
theorem b214_17 {X : Nat × (Nat → Int32)} {d : Nat} {I : Nat → Nat → Int32} {L : Nat → Nat → Int64} {Q : Option Value → XW → Prop} {x1 : Int32} {x2 : Int32} {s0 : Int32}  : wp X (d + 1) m214 17 [some (.ref 124), some (.int x1), some (.int x2)] [(.int s0)] (K0, R0, I, L) Q ↔ (if s0 = 0 then Q (some (.int (-1))) (K0, R0, I, L) else wp X d m143 0 [some (.ref 124), some (.int x2)] [] (K0, R0, I, L) (fun r w1 => wp X (d + 1) m214 27 [some (.ref 124), some (.int x1), some (.int x2)] (r.toList ++ []) w1 Q)) := (w_if_ne (pc' := 20) c214_17 rfl).trans (ite_iff ((w_iconst (pc' := 21) (v := (-1)) c214_20 rfl rfl).trans (w_iret c214_21 rfl)) ((w_aload_n (pc' := 23) c214_22 rfl rfl).trans ((w_iload_n (pc' := 24) c214_23 rfl rfl).trans ((w_callv (pc' := 27) c214_24 mt143 rfl (Nat.le_of_ble_eq_true rfl) rfl kd_124 rfl rfl (Nat.le_of_ble_eq_true rfl) rfl rfl)))))
theorem b214_27 {X : Nat × (Nat → Int32)} {d : Nat} {I : Nat → Nat → Int32} {L : Nat → Nat → Int64} {Q : Option Value → XW → Prop} {x1 : Int32} {x2 : Int32} {s0 : Int32}  : wp X d m214 27 [some (.ref 124), some (.int x1), some (.int x2)] [(.int s0)] (K0, R0, I, L) Q ↔ (if s0 = 0 then Q (some (.int (-2))) (K0, R0, I, L) else (if (I 124 35) = 8 then Q (some (.int (-4))) (K0, R0, I, L) else (inA (I 124 35) 8 = true ∧ (inA (I 124 35) 8 = true ∧ Q (some (.int ((I 124 35) + 1))) (K0, R0, (updR (updR (updR I 148 (Int32.toNatClampNeg (I 124 35)) x1) 149 (Int32.toNatClampNeg (I 124 35)) x2) 124 35 ((I 124 35) + 1)), L))))) := (w_if_ne (pc' := 30) c214_27 rfl).trans (ite_iff ((w_bipush (pc' := 32) (v := (-2)) c214_30 rfl rfl).trans (w_iret c214_32 rfl)) ((w_aload_n (pc' := 34) c214_33 rfl rfl).trans ((w_getIv (pc' := 37) (v := (I 124 35)) c214_34 kd_124 (by decide) rfl (rfl) rfl).trans ((w_bipush (pc' := 39) (v := 8) c214_37 rfl rfl).trans ((w_icmp_ne (pc' := 42) c214_39 rfl).trans (ite_iff ((w_bipush (pc' := 44) (v := (-4)) c214_42 rfl rfl).trans (w_iret c214_44 rfl)) ((w_aload_n (pc' := 46) c214_45 rfl rfl).trans ((w_getR (pc' := 49) (q := 148) c214_46 kd_124 (by decide) rfl rd_124_38 rfl).trans ((w_aload_n (pc' := 50) c214_49 rfl rfl).trans ((w_getIv (pc' := 53) (v := (I 124 35)) c214_50 kd_124 (by decide) rfl (rfl) rfl).trans ((w_iload_n (pc' := 54) c214_53 rfl rfl).trans ((w_iast (pc' := 55) c214_54 kd_148 rfl).trans (and_congr_right (fun _ => (w_aload_n (pc' := 56) c214_55 rfl rfl).trans ((w_getR (pc' := 59) (q := 149) c214_56 kd_124 (by decide) rfl rd_124_39 rfl).trans ((w_aload_n (pc' := 60) c214_59 rfl rfl).trans ((w_getIv (pc' := 63) (v := (I 124 35)) c214_60 kd_124 (by decide) rfl ((updR_k (by decide)).trans (rfl)) rfl).trans ((w_iload_n (pc' := 64) c214_63 rfl rfl).trans ((w_iast (pc' := 65) c214_64 kd_149 rfl).trans (and_congr_right (fun _ => (w_aload_n (pc' := 66) c214_65 rfl rfl).trans ((w_dup (pc' := 67) c214_66 rfl rfl).trans ((w_getIv (pc' := 70) (v := (I 124 35)) c214_67 kd_124 (by decide) rfl ((updR_k (by decide)).trans ((updR_k (by decide)).trans (rfl))) rfl).trans ((w_iconst (pc' := 71) (v := 1) c214_70 rfl rfl).trans ((w_iadd (pc' := 72) c214_71 rfl).trans ((w_putI (pc' := 75) c214_72 kd_124 (by decide) rfl rfl rfl).trans ((w_aload_n (pc' := 76) c214_75 rfl rfl).trans ((w_getIv (pc' := 79) (v := ((I 124 35) + 1)) c214_76 kd_124 (by decide) rfl (updR_same) rfl).trans (w_iret c214_79 rfl)))))))))))))))))))))))))))))
-- LeavesObjectModel.looked()I
theorem c215_0 : cdx (mC m215) 0 = some (0, .iconst 0, 1, 0, 0, 0, 0, []) := rfl
theorem c215_1 : cdx (mC m215) 1 = some (1, .istore_n 1, 1, 1, 0, 0, 0, []) := rfl
theorem c215_2 : cdx (mC m215) 2 = some (2, .iload_n 1, 1, 1, 0, 0, 0, []) := rfl
theorem c215_3 : cdx (mC m215) 3 = some (3, .aload_n 0, 1, 0, 0, 0, 0, []) := rfl
theorem c215_4 : cdx (mC m215) 4 = some (4, .getfield 117, 3, 10, 35, 0, 4161, []) := rfl
theorem c215_7 : cdx (mC m215) 7 = some (7, .if_icmp .ge 31, 3, 38, 0, 0, 0, []) := rfl
theorem c215_10 : cdx (mC m215) 10 = some (10, .aload_n 0, 1, 0, 0, 0, 0, []) := rfl
theorem c215_11 : cdx (mC m215) 11 = some (11, .getfield 23, 3, 10, 4, 0, 4130, []) := rfl
theorem c215_14 : cdx (mC m215) 14 = some (14, .aload_n 0, 1, 0, 0, 0, 0, []) := rfl
theorem c215_15 : cdx (mC m215) 15 = some (15, .getfield 126, 3, 10, 38, 0, 4164, []) := rfl
theorem c215_18 : cdx (mC m215) 18 = some (18, .iload_n 1, 1, 1, 0, 0, 0, []) := rfl
theorem c215_19 : cdx (mC m215) 19 = some (19, .iaload, 1, 0, 0, 0, 0, []) := rfl
theorem c215_20 : cdx (mC m215) 20 = some (20, .iaload, 1, 0, 0, 0, 0, []) := rfl
theorem c215_21 : cdx (mC m215) 21 = some (21, .aload_n 0, 1, 0, 0, 0, 0, []) := rfl
theorem c215_22 : cdx (mC m215) 22 = some (22, .getfield 129, 3, 10, 39, 0, 4165, []) := rfl
theorem c215_25 : cdx (mC m215) 25 = some (25, .iload_n 1, 1, 1, 0, 0, 0, []) := rfl
theorem c215_26 : cdx (mC m215) 26 = some (26, .iaload, 1, 0, 0, 0, 0, []) := rfl
theorem c215_27 : cdx (mC m215) 27 = some (27, .if_icmp .eq 5, 3, 32, 0, 0, 0, []) := rfl
theorem c215_30 : cdx (mC m215) 30 = some (30, .iload_n 1, 1, 1, 0, 0, 0, []) := rfl
theorem c215_31 : cdx (mC m215) 31 = some (31, .ireturn, 1, 0, 0, 0, 0, []) := rfl
theorem c215_32 : cdx (mC m215) 32 = some (32, .iinc 1 1, 3, 1, 0, 0, 0, []) := rfl
theorem c215_35 : cdx (mC m215) 35 = some (35, .goto (-33), 3, 2, 0, 0, 0, []) := rfl
theorem c215_38 : cdx (mC m215) 38 = some (38, .bipush (-5), 2, 0, 0, 0, 0, []) := rfl
theorem c215_40 : cdx (mC m215) 40 = some (40, .ireturn, 1, 0, 0, 0, 0, []) := rfl
theorem b215_0 {X : Nat × (Nat → Int32)} {d : Nat} {I : Nat → Nat → Int32} {L : Nat → Nat → Int64} {Q : Option Value → XW → Prop}   : wp X d m215 0 [some (.ref 124), none] [] (K0, R0, I, L) Q ↔ wp X d m215 2 [some (.ref 124), some (.int 0)] [] (K0, R0, I, L) Q := (w_iconst (pc' := 1) (v := 0) c215_0 rfl rfl).trans ((w_istore_n (pc' := 2) (ls' := [some (.ref 124), some (.int 0)]) c215_1 (Nat.le_of_ble_eq_true rfl) rfl rfl))
theorem b215_2 {X : Nat × (Nat → Int32)} {d : Nat} {I : Nat → Nat → Int32} {L : Nat → Nat → Int64} {Q : Option Value → XW → Prop} {x1 : Int32}  : wp X d m215 2 [some (.ref 124), some (.int x1)] [] (K0, R0, I, L) Q ↔ (if x1 < (I 124 35) then (inA x1 8 = true ∧ (inA (I 148 (Int32.toNatClampNeg x1)) 5 = true ∧ (inA x1 8 = true ∧ (if (I 127 (Int32.toNatClampNeg (I 148 (Int32.toNatClampNeg x1)))) = (I 149 (Int32.toNatClampNeg x1)) then wp X d m215 2 [some (.ref 124), some (.int (x1 + 1))] [] (K0, R0, I, L) Q else Q (some (.int x1)) (K0, R0, I, L))))) else Q (some (.int (-5))) (K0, R0, I, L)) := (w_iload_n (pc' := 3) c215_2 rfl rfl).trans ((w_aload_n (pc' := 4) c215_3 rfl rfl).trans ((w_getIv (pc' := 7) (v := (I 124 35)) c215_4 kd_124 (by decide) rfl (rfl) rfl).trans ((w_icmp_ge (pc' := 10) c215_7 rfl).trans (ite_iff ((w_aload_n (pc' := 11) c215_10 rfl rfl).trans ((w_getR (pc' := 14) (q := 127) c215_11 kd_124 (by decide) rfl rd_124_4 rfl).trans ((w_aload_n (pc' := 15) c215_14 rfl rfl).trans ((w_getR (pc' := 18) (q := 148) c215_15 kd_124 (by decide) rfl rd_124_38 rfl).trans ((w_iload_n (pc' := 19) c215_18 rfl rfl).trans ((w_ialdv (pc' := 20) (v := (I 148 (Int32.toNatClampNeg x1))) c215_19 kd_148 (rfl) rfl).trans (and_congr_right (fun _ => (w_ialdv (pc' := 21) (v := (I 127 (Int32.toNatClampNeg (I 148 (Int32.toNatClampNeg x1))))) c215_20 kd_127 (rfl) rfl).trans (and_congr_right (fun _ => (w_aload_n (pc' := 22) c215_21 rfl rfl).trans ((w_getR (pc' := 25) (q := 149) c215_22 kd_124 (by decide) rfl rd_124_39 rfl).trans ((w_iload_n (pc' := 26) c215_25 rfl rfl).trans ((w_ialdv (pc' := 27) (v := (I 149 (Int32.toNatClampNeg x1))) c215_26 kd_149 (rfl) rfl).trans (and_congr_right (fun _ => (w_icmp_eq (pc' := 30) c215_27 rfl).trans (ite_iff ((w_iinc (pc' := 35) (v := (x1 + 1)) (ls' := [some (.ref 124), some (.int (x1 + 1))]) c215_32 (Nat.le_of_ble_eq_true rfl) rfl rfl rfl rfl).trans ((w_goto c215_35))) ((w_iload_n (pc' := 31) c215_30 rfl rfl).trans (w_iret c215_31 rfl)))))))))))))))))) ((w_bipush (pc' := 40) (v := (-5)) c215_38 rfl rfl).trans (w_iret c215_40 rfl))))))
-- LeavesObjectModel.judge(II)I
theorem c216_0 : cdx (mC m216) 0 = some (0, .aload_n 0, 1, 0, 0, 0, 0, []) := rfl
theorem c216_1 : cdx (mC m216) 1 = some (1, .iload_n 1, 1, 1, 0, 0, 0, []) := rfl
theorem c216_2 : cdx (mC m216) 2 = some (2, .invokevirtual 375, 3, 217, 1, 0, 6149, [(10, 0)]) := rfl
theorem c216_5 : cdx (mC m216) 5 = some (5, .ifCond .ne 5, 3, 10, 0, 0, 0, []) := rfl
theorem c216_8 : cdx (mC m216) 8 = some (8, .iconst (-1), 1, 0, 0, 0, 0, []) := rfl
theorem c216_9 : cdx (mC m216) 9 = some (9, .ireturn, 1, 0, 0, 0, 0, []) := rfl
theorem c216_10 : cdx (mC m216) 10 = some (10, .aload_n 0, 1, 0, 0, 0, 0, []) := rfl
theorem c216_11 : cdx (mC m216) 11 = some (11, .getfield 196, 3, 10, 61, 0, 4187, []) := rfl
theorem c216_14 : cdx (mC m216) 14 = some (14, .iload_n 1, 1, 1, 0, 0, 0, []) := rfl
theorem c216_15 : cdx (mC m216) 15 = some (15, .iaload, 1, 0, 0, 0, 0, []) := rfl
theorem c216_16 : cdx (mC m216) 16 = some (16, .ifCond .lt 16, 3, 32, 0, 0, 0, []) := rfl
theorem c216_19 : cdx (mC m216) 19 = some (19, .aload_n 0, 1, 0, 0, 0, 0, []) := rfl
theorem c216_20 : cdx (mC m216) 20 = some (20, .getfield 196, 3, 10, 61, 0, 4187, []) := rfl
theorem c216_23 : cdx (mC m216) 23 = some (23, .iload_n 1, 1, 1, 0, 0, 0, []) := rfl
theorem c216_24 : cdx (mC m216) 24 = some (24, .iaload, 1, 0, 0, 0, 0, []) := rfl
theorem c216_25 : cdx (mC m216) 25 = some (25, .iconst 1, 1, 0, 0, 0, 0, []) := rfl
theorem c216_26 : cdx (mC m216) 26 = some (26, .if_icmp .eq 6, 3, 32, 0, 0, 0, []) := rfl
theorem c216_29 : cdx (mC m216) 29 = some (29, .bipush (-12), 2, 0, 0, 0, 0, []) := rfl
theorem c216_31 : cdx (mC m216) 31 = some (31, .ireturn, 1, 0, 0, 0, 0, []) := rfl
theorem c216_32 : cdx (mC m216) 32 = some (32, .iconst 0, 1, 0, 0, 0, 0, []) := rfl
theorem c216_33 : cdx (mC m216) 33 = some (33, .istore_n 3, 1, 3, 0, 0, 0, []) := rfl
theorem c216_34 : cdx (mC m216) 34 = some (34, .iload_n 3, 1, 3, 0, 0, 0, []) := rfl
theorem c216_35 : cdx (mC m216) 35 = some (35, .aload_n 0, 1, 0, 0, 0, 0, []) := rfl
theorem c216_36 : cdx (mC m216) 36 = some (36, .getfield 7, 3, 10, 0, 0, 4126, []) := rfl
theorem c216_39 : cdx (mC m216) 39 = some (39, .if_icmp .ge 67, 3, 106, 0, 0, 0, []) := rfl
theorem c216_42 : cdx (mC m216) 42 = some (42, .aload_n 0, 1, 0, 0, 0, 0, []) := rfl
theorem c216_43 : cdx (mC m216) 43 = some (43, .getfield 196, 3, 10, 61, 0, 4187, []) := rfl
theorem c216_46 : cdx (mC m216) 46 = some (46, .iload_n 1, 1, 1, 0, 0, 0, []) := rfl
theorem c216_47 : cdx (mC m216) 47 = some (47, .iaload, 1, 0, 0, 0, 0, []) := rfl
theorem c216_48 : cdx (mC m216) 48 = some (48, .ifCond .lt 21, 3, 69, 0, 0, 0, []) := rfl
theorem c216_51 : cdx (mC m216) 51 = some (51, .iload_n 2, 1, 2, 0, 0, 0, []) := rfl
theorem c216_52 : cdx (mC m216) 52 = some (52, .ifCond .lt 17, 3, 69, 0, 0, 0, []) := rfl
theorem c216_55 : cdx (mC m216) 55 = some (55, .iload_n 2, 1, 2, 0, 0, 0, []) := rfl
theorem c216_56 : cdx (mC m216) 56 = some (56, .aload_n 0, 1, 0, 0, 0, 0, []) := rfl
theorem c216_57 : cdx (mC m216) 57 = some (57, .getfield 199, 3, 10, 62, 0, 4188, []) := rfl
theorem c216_60 : cdx (mC m216) 60 = some (60, .iload_n 1, 1, 1, 0, 0, 0, []) := rfl
theorem c216_61 : cdx (mC m216) 61 = some (61, .iaload, 1, 0, 0, 0, 0, []) := rfl
theorem c216_62 : cdx (mC m216) 62 = some (62, .iload_n 3, 1, 3, 0, 0, 0, []) := rfl
theorem c216_63 : cdx (mC m216) 63 = some (63, .isub, 1, 0, 0, 0, 0, []) := rfl
theorem c216_64 : cdx (mC m216) 64 = some (64, .iconst 1, 1, 0, 0, 0, 0, []) := rfl
theorem c216_65 : cdx (mC m216) 65 = some (65, .isub, 1, 0, 0, 0, 0, []) := rfl
theorem c216_66 : cdx (mC m216) 66 = some (66, .if_icmp .le 8, 3, 74, 0, 0, 0, []) := rfl
theorem c216_69 : cdx (mC m216) 69 = some (69, .bipush 100, 2, 0, 0, 0, 0, []) := rfl
theorem c216_71 : cdx (mC m216) 71 = some (71, .iload_n 3, 1, 3, 0, 0, 0, []) := rfl
theorem c216_72 : cdx (mC m216) 72 = some (72, .iadd, 1, 0, 0, 0, 0, []) := rfl
theorem c216_73 : cdx (mC m216) 73 = some (73, .ireturn, 1, 0, 0, 0, 0, []) := rfl
theorem c216_74 : cdx (mC m216) 74 = some (74, .aload_n 0, 1, 0, 0, 0, 0, []) := rfl
theorem c216_75 : cdx (mC m216) 75 = some (75, .getfield 202, 3, 10, 63, 0, 4189, []) := rfl
theorem c216_78 : cdx (mC m216) 78 = some (78, .bipush 60, 2, 0, 0, 0, 0, []) := rfl
theorem c216_80 : cdx (mC m216) 80 = some (80, .iload_n 1, 1, 1, 0, 0, 0, []) := rfl
theorem c216_81 : cdx (mC m216) 81 = some (81, .imul, 1, 0, 0, 0, 0, []) := rfl
theorem c216_82 : cdx (mC m216) 82 = some (82, .iload_n 2, 1, 2, 0, 0, 0, []) := rfl
theorem c216_83 : cdx (mC m216) 83 = some (83, .iadd, 1, 0, 0, 0, 0, []) := rfl
theorem c216_84 : cdx (mC m216) 84 = some (84, .iload_n 3, 1, 3, 0, 0, 0, []) := rfl
theorem c216_85 : cdx (mC m216) 85 = some (85, .iadd, 1, 0, 0, 0, 0, []) := rfl
theorem c216_86 : cdx (mC m216) 86 = some (86, .laload, 1, 0, 0, 0, 0, []) := rfl
theorem c216_87 : cdx (mC m216) 87 = some (87, .aload_n 0, 1, 0, 0, 0, 0, []) := rfl
theorem c216_88 : cdx (mC m216) 88 = some (88, .getfield 23, 3, 10, 4, 0, 4130, []) := rfl
theorem c216_91 : cdx (mC m216) 91 = some (91, .iload_n 3, 1, 3, 0, 0, 0, []) := rfl
theorem c216_92 : cdx (mC m216) 92 = some (92, .iaload, 1, 0, 0, 0, 0, []) := rfl
theorem c216_93 : cdx (mC m216) 93 = some (93, .i2l, 1, 0, 0, 0, 0, []) := rfl
theorem c216_94 : cdx (mC m216) 94 = some (94, .lcmp, 1, 0, 0, 0, 0, []) := rfl
theorem c216_95 : cdx (mC m216) 95 = some (95, .ifCond .eq 5, 3, 100, 0, 0, 0, []) := rfl
theorem c216_98 : cdx (mC m216) 98 = some (98, .iload_n 3, 1, 3, 0, 0, 0, []) := rfl
theorem c216_99 : cdx (mC m216) 99 = some (99, .ireturn, 1, 0, 0, 0, 0, []) := rfl
theorem c216_100 : cdx (mC m216) 100 = some (100, .iinc 3 1, 3, 3, 0, 0, 0, []) := rfl
theorem c216_103 : cdx (mC m216) 103 = some (103, .goto (-69), 3, 34, 0, 0, 0, []) := rfl
theorem c216_106 : cdx (mC m216) 106 = some (106, .bipush (-5), 2, 0, 0, 0, 0, []) := rfl
theorem c216_108 : cdx (mC m216) 108 = some (108, .ireturn, 1, 0, 0, 0, 0, []) := rfl
theorem b216_0 {X : Nat × (Nat → Int32)} {d : Nat} {I : Nat → Nat → Int32} {L : Nat → Nat → Int64} {Q : Option Value → XW → Prop} {x1 : Int32} {x2 : Int32}  : wp X (d + 1) m216 0 [some (.ref 124), some (.int x1), some (.int x2), none] [] (K0, R0, I, L) Q ↔ wp X d m217 0 [some (.ref 124), some (.int x1)] [] (K0, R0, I, L) (fun r w1 => wp X (d + 1) m216 5 [some (.ref 124), some (.int x1), some (.int x2), none] (r.toList ++ []) w1 Q) := (w_aload_n (pc' := 1) c216_0 rfl rfl).trans ((w_iload_n (pc' := 2) c216_1 rfl rfl).trans ((w_callv (pc' := 5) c216_2 mt217 rfl (Nat.le_of_ble_eq_true rfl) rfl kd_124 rfl rfl (Nat.le_of_ble_eq_true rfl) rfl rfl)))
theorem b216_5 {X : Nat × (Nat → Int32)} {d : Nat} {I : Nat → Nat → Int32} {L : Nat → Nat → Int64} {Q : Option Value → XW → Prop} {x1 : Int32} {x2 : Int32} {s0 : Int32}  : wp X d m216 5 [some (.ref 124), some (.int x1), some (.int x2), none] [(.int s0)] (K0, R0, I, L) Q ↔ (if s0 = 0 then Q (some (.int (-1))) (K0, R0, I, L) else (inA x1 6 = true ∧ (if (I 163 (Int32.toNatClampNeg x1)) < 0 then wp X d m216 34 [some (.ref 124), some (.int x1), some (.int x2), some (.int 0)] [] (K0, R0, I, L) Q else (inA x1 6 = true ∧ (if (I 163 (Int32.toNatClampNeg x1)) = 1 then wp X d m216 34 [some (.ref 124), some (.int x1), some (.int x2), some (.int 0)] [] (K0, R0, I, L) Q else Q (some (.int (-12))) (K0, R0, I, L)))))) := (w_if_ne (pc' := 8) c216_5 rfl).trans (ite_iff ((w_iconst (pc' := 9) (v := (-1)) c216_8 rfl rfl).trans (w_iret c216_9 rfl)) ((w_aload_n (pc' := 11) c216_10 rfl rfl).trans ((w_getR (pc' := 14) (q := 163) c216_11 kd_124 (by decide) rfl rd_124_61 rfl).trans ((w_iload_n (pc' := 15) c216_14 rfl rfl).trans ((w_ialdv (pc' := 16) (v := (I 163 (Int32.toNatClampNeg x1))) c216_15 kd_163 (rfl) rfl).trans (and_congr_right (fun _ => (w_if_lt (pc' := 19) c216_16 rfl).trans (ite_iff ((w_iconst (pc' := 33) (v := 0) c216_32 rfl rfl).trans ((w_istore_n (pc' := 34) (ls' := [some (.ref 124), some (.int x1), some (.int x2), some (.int 0)]) c216_33 (Nat.le_of_ble_eq_true rfl) rfl rfl))) ((w_aload_n (pc' := 20) c216_19 rfl rfl).trans ((w_getR (pc' := 23) (q := 163) c216_20 kd_124 (by decide) rfl rd_124_61 rfl).trans ((w_iload_n (pc' := 24) c216_23 rfl rfl).trans ((w_ialdv (pc' := 25) (v := (I 163 (Int32.toNatClampNeg x1))) c216_24 kd_163 (rfl) rfl).trans (and_congr_right (fun _ => (w_iconst (pc' := 26) (v := 1) c216_25 rfl rfl).trans ((w_icmp_eq (pc' := 29) c216_26 rfl).trans (ite_iff ((w_iconst (pc' := 33) (v := 0) c216_32 rfl rfl).trans ((w_istore_n (pc' := 34) (ls' := [some (.ref 124), some (.int x1), some (.int x2), some (.int 0)]) c216_33 (Nat.le_of_ble_eq_true rfl) rfl rfl))) ((w_bipush (pc' := 31) (v := (-12)) c216_29 rfl rfl).trans (w_iret c216_31 rfl))))))))))))))))))
theorem b216_34 {X : Nat × (Nat → Int32)} {d : Nat} {I : Nat → Nat → Int32} {L : Nat → Nat → Int64} {Q : Option Value → XW → Prop} {x1 : Int32} {x2 : Int32} {x3 : Int32}  : wp X d m216 34 [some (.ref 124), some (.int x1), some (.int x2), some (.int x3)] [] (K0, R0, I, L) Q ↔ (if x3 < (I 124 0) then (inA x1 6 = true ∧ (if (I 163 (Int32.toNatClampNeg x1)) < 0 then Q (some (.int (100 + x3))) (K0, R0, I, L) else (if x2 < 0 then Q (some (.int (100 + x3))) (K0, R0, I, L) else (inA x1 6 = true ∧ (if (((I 164 (Int32.toNatClampNeg x1)) - x3) - 1) < x2 then Q (some (.int (100 + x3))) (K0, R0, I, L) else (inA (((60 * x1) + x2) + x3) 360 = true ∧ (inA x3 5 = true ∧ (if (lg_cmp (L 165 (Int32.toNatClampNeg (((60 * x1) + x2) + x3))) (Int32.toInt64 (I 127 (Int32.toNatClampNeg x3)))) = 0 then wp X d m216 34 [some (.ref 124), some (.int x1), some (.int x2), some (.int (x3 + 1))] [] (K0, R0, I, L) Q else Q (some (.int x3)) (K0, R0, I, L))))))))) else Q (some (.int (-5))) (K0, R0, I, L)) := (w_iload_n (pc' := 35) c216_34 rfl rfl).trans ((w_aload_n (pc' := 36) c216_35 rfl rfl).trans ((w_getIv (pc' := 39) (v := (I 124 0)) c216_36 kd_124 (by decide) rfl (rfl) rfl).trans ((w_icmp_ge (pc' := 42) c216_39 rfl).trans (ite_iff ((w_aload_n (pc' := 43) c216_42 rfl rfl).trans ((w_getR (pc' := 46) (q := 163) c216_43 kd_124 (by decide) rfl rd_124_61 rfl).trans ((w_iload_n (pc' := 47) c216_46 rfl rfl).trans ((w_ialdv (pc' := 48) (v := (I 163 (Int32.toNatClampNeg x1))) c216_47 kd_163 (rfl) rfl).trans (and_congr_right (fun _ => (w_if_lt (pc' := 51) c216_48 rfl).trans (ite_iff ((w_bipush (pc' := 71) (v := 100) c216_69 rfl rfl).trans ((w_iload_n (pc' := 72) c216_71 rfl rfl).trans ((w_iadd (pc' := 73) c216_72 rfl).trans (w_iret c216_73 rfl)))) ((w_iload_n (pc' := 52) c216_51 rfl rfl).trans ((w_if_lt (pc' := 55) c216_52 rfl).trans (ite_iff ((w_bipush (pc' := 71) (v := 100) c216_69 rfl rfl).trans ((w_iload_n (pc' := 72) c216_71 rfl rfl).trans ((w_iadd (pc' := 73) c216_72 rfl).trans (w_iret c216_73 rfl)))) ((w_iload_n (pc' := 56) c216_55 rfl rfl).trans ((w_aload_n (pc' := 57) c216_56 rfl rfl).trans ((w_getR (pc' := 60) (q := 164) c216_57 kd_124 (by decide) rfl rd_124_62 rfl).trans ((w_iload_n (pc' := 61) c216_60 rfl rfl).trans ((w_ialdv (pc' := 62) (v := (I 164 (Int32.toNatClampNeg x1))) c216_61 kd_164 (rfl) rfl).trans (and_congr_right (fun _ => (w_iload_n (pc' := 63) c216_62 rfl rfl).trans ((w_isub (pc' := 64) c216_63 rfl).trans ((w_iconst (pc' := 65) (v := 1) c216_64 rfl rfl).trans ((w_isub (pc' := 66) c216_65 rfl).trans ((w_icmp_le (pc' := 69) c216_66 rfl).trans (ite_iff ((w_bipush (pc' := 71) (v := 100) c216_69 rfl rfl).trans ((w_iload_n (pc' := 72) c216_71 rfl rfl).trans ((w_iadd (pc' := 73) c216_72 rfl).trans (w_iret c216_73 rfl)))) ((w_aload_n (pc' := 75) c216_74 rfl rfl).trans ((w_getR (pc' := 78) (q := 165) c216_75 kd_124 (by decide) rfl rd_124_63 rfl).trans ((w_bipush (pc' := 80) (v := 60) c216_78 rfl rfl).trans ((w_iload_n (pc' := 81) c216_80 rfl rfl).trans ((w_imul (pc' := 82) c216_81 rfl).trans ((w_iload_n (pc' := 83) c216_82 rfl rfl).trans ((w_iadd (pc' := 84) c216_83 rfl).trans ((w_iload_n (pc' := 85) c216_84 rfl rfl).trans ((w_iadd (pc' := 86) c216_85 rfl).trans ((w_laldv (pc' := 87) (v := (L 165 (Int32.toNatClampNeg (((60 * x1) + x2) + x3)))) c216_86 kd_165 (rfl) rfl).trans (and_congr_right (fun _ => (w_aload_n (pc' := 88) c216_87 rfl rfl).trans ((w_getR (pc' := 91) (q := 127) c216_88 kd_124 (by decide) rfl rd_124_4 rfl).trans ((w_iload_n (pc' := 92) c216_91 rfl rfl).trans ((w_ialdv (pc' := 93) (v := (I 127 (Int32.toNatClampNeg x3))) c216_92 kd_127 (rfl) rfl).trans (and_congr_right (fun _ => (w_i2l (pc' := 94) c216_93 rfl).trans ((w_lcmp (pc' := 95) c216_94 rfl).trans ((w_if_eq (pc' := 98) c216_95 rfl).trans (ite_iff ((w_iinc (pc' := 103) (v := (x3 + 1)) (ls' := [some (.ref 124), some (.int x1), some (.int x2), some (.int (x3 + 1))]) c216_100 (Nat.le_of_ble_eq_true rfl) rfl rfl rfl rfl).trans ((w_goto c216_103))) ((w_iload_n (pc' := 99) c216_98 rfl rfl).trans (w_iret c216_99 rfl)))))))))))))))))))))))))))))))))))))))))))) ((w_bipush (pc' := 108) (v := (-5)) c216_106 rfl rfl).trans (w_iret c216_108 rfl))))))
-- LeavesObjectModel.isTape(I)Z
theorem c217_0 : cdx (mC m217) 0 = some (0, .aload_n 0, 1, 0, 0, 0, 0, []) := rfl
theorem c217_1 : cdx (mC m217) 1 = some (1, .iload_n 1, 1, 1, 0, 0, 0, []) := rfl
theorem c217_2 : cdx (mC m217) 2 = some (2, .iconst 0, 1, 0, 0, 0, 0, []) := rfl
theorem c217_3 : cdx (mC m217) 3 = some (3, .iconst 5, 1, 0, 0, 0, 0, []) := rfl
theorem c217_4 : cdx (mC m217) 4 = some (4, .invokevirtual 213, 3, 142, 3, 0, 5087, [(10, 0)]) := rfl
theorem c217_7 : cdx (mC m217) 7 = some (7, .ireturn, 1, 0, 0, 0, 0, []) := rfl
def lv217 : List (Nat × List Nat) := [(0, [0, 1]), (1, [1])]
theorem lvok217 : lvOk (mC m217) lv217 = true := by decide +kernel
theorem b217_0 {X : Nat × (Nat → Int32)} {d : Nat} {I : Nat → Nat → Int32} {L : Nat → Nat → Int64} {Q : Option Value → XW → Prop} {x1 : Int32}  : wp X (d + 1) m217 0 [some (.ref 124), some (.int x1)] [] (K0, R0, I, L) Q ↔ wp X d m142 0 [some (.ref 124), some (.int x1), some (.int 0), some (.int 5)] [] (K0, R0, I, L) (fun r w1 => wp X (d + 1) m217 7 [none, none] (r.toList ++ []) w1 Q) := (w_aload_n (pc' := 1) c217_0 rfl rfl).trans ((w_iload_n (pc' := 2) c217_1 rfl rfl).trans ((w_iconst (pc' := 3) (v := 0) c217_2 rfl rfl).trans ((w_iconst (pc' := 4) (v := 5) c217_3 rfl rfl).trans ((w_callv (pc' := 7) c217_4 mt142 rfl (Nat.le_of_ble_eq_true rfl) rfl kd_124 rfl rfl (Nat.le_of_ble_eq_true rfl) rfl rfl).trans (wp_congr (fun r w1 => wp_msk lvok217 rfl))))))
theorem b217_7 {X : Nat × (Nat → Int32)} {d : Nat} {I : Nat → Nat → Int32} {L : Nat → Nat → Int64} {Q : Option Value → XW → Prop} {s0 : Int32}  : wp X d m217 7 [none, none] [(.int s0)] (K0, R0, I, L) Q ↔ (fits .boolean (.int s0) = true ∧ Q (some (.int s0)) (K0, R0, I, L)) := w_zret c217_7 rfl (by decide)
-- LeavesObjectModel.image()I
theorem c218_0 : cdx (mC m218) 0 = some (0, .aload_n 0, 1, 0, 0, 0, 0, []) := rfl
theorem c218_1 : cdx (mC m218) 1 = some (1, .iconst 1, 1, 0, 0, 0, 0, []) := rfl
theorem c218_2 : cdx (mC m218) 2 = some (2, .putfield 132, 3, 10, 40, 0, 4166, []) := rfl
theorem c218_5 : cdx (mC m218) 5 = some (5, .aload_n 0, 1, 0, 0, 0, 0, []) := rfl
theorem c218_6 : cdx (mC m218) 6 = some (6, .aload_n 0, 1, 0, 0, 0, 0, []) := rfl
theorem c218_7 : cdx (mC m218) 7 = some (7, .getfield 38, 3, 10, 9, 0, 4135, []) := rfl
theorem c218_10 : cdx (mC m218) 10 = some (10, .putfield 136, 3, 10, 41, 0, 4167, []) := rfl
theorem c218_13 : cdx (mC m218) 13 = some (13, .aload_n 0, 1, 0, 0, 0, 0, []) := rfl
theorem c218_14 : cdx (mC m218) 14 = some (14, .aload_n 0, 1, 0, 0, 0, 0, []) := rfl
theorem c218_15 : cdx (mC m218) 15 = some (15, .getfield 7, 3, 10, 0, 0, 4126, []) := rfl
theorem c218_18 : cdx (mC m218) 18 = some (18, .putfield 139, 3, 10, 42, 0, 4168, []) := rfl
theorem c218_21 : cdx (mC m218) 21 = some (21, .aload_n 0, 1, 0, 0, 0, 0, []) := rfl
theorem c218_22 : cdx (mC m218) 22 = some (22, .aload_n 0, 1, 0, 0, 0, 0, []) := rfl
theorem c218_23 : cdx (mC m218) 23 = some (23, .getfield 13, 3, 10, 1, 0, 4127, []) := rfl
theorem c218_26 : cdx (mC m218) 26 = some (26, .putfield 142, 3, 10, 43, 0, 4169, []) := rfl
theorem c218_29 : cdx (mC m218) 29 = some (29, .aload_n 0, 1, 0, 0, 0, 0, []) := rfl
theorem c218_30 : cdx (mC m218) 30 = some (30, .aload_n 0, 1, 0, 0, 0, 0, []) := rfl
theorem c218_31 : cdx (mC m218) 31 = some (31, .getfield 105, 3, 10, 31, 0, 4157, []) := rfl
theorem c218_34 : cdx (mC m218) 34 = some (34, .putfield 145, 3, 10, 44, 0, 4170, []) := rfl
theorem c218_37 : cdx (mC m218) 37 = some (37, .aload_n 0, 1, 0, 0, 0, 0, []) := rfl
theorem c218_38 : cdx (mC m218) 38 = some (38, .aload_n 0, 1, 0, 0, 0, 0, []) := rfl
theorem c218_39 : cdx (mC m218) 39 = some (39, .getfield 114, 3, 10, 34, 0, 4160, []) := rfl
theorem c218_42 : cdx (mC m218) 42 = some (42, .putfield 148, 3, 10, 45, 0, 4171, []) := rfl
theorem c218_45 : cdx (mC m218) 45 = some (45, .aload_n 0, 1, 0, 0, 0, 0, []) := rfl
theorem c218_46 : cdx (mC m218) 46 = some (46, .aload_n 0, 1, 0, 0, 0, 0, []) := rfl
theorem c218_47 : cdx (mC m218) 47 = some (47, .getfield 117, 3, 10, 35, 0, 4161, []) := rfl
theorem c218_50 : cdx (mC m218) 50 = some (50, .putfield 151, 3, 10, 46, 0, 4172, []) := rfl
theorem c218_53 : cdx (mC m218) 53 = some (53, .iconst 0, 1, 0, 0, 0, 0, []) := rfl
theorem c218_54 : cdx (mC m218) 54 = some (54, .istore_n 1, 1, 1, 0, 0, 0, []) := rfl
theorem c218_55 : cdx (mC m218) 55 = some (55, .iload_n 1, 1, 1, 0, 0, 0, []) := rfl
theorem c218_56 : cdx (mC m218) 56 = some (56, .iconst 5, 1, 0, 0, 0, 0, []) := rfl
theorem c218_57 : cdx (mC m218) 57 = some (57, .if_icmp .ge 93, 3, 150, 0, 0, 0, []) := rfl
theorem c218_60 : cdx (mC m218) 60 = some (60, .aload_n 0, 1, 0, 0, 0, 0, []) := rfl
theorem c218_61 : cdx (mC m218) 61 = some (61, .getfield 154, 3, 10, 47, 0, 4173, []) := rfl
theorem c218_64 : cdx (mC m218) 64 = some (64, .iload_n 1, 1, 1, 0, 0, 0, []) := rfl
theorem c218_65 : cdx (mC m218) 65 = some (65, .aload_n 0, 1, 0, 0, 0, 0, []) := rfl
theorem c218_66 : cdx (mC m218) 66 = some (66, .getfield 16, 3, 10, 2, 0, 4128, []) := rfl
theorem c218_69 : cdx (mC m218) 69 = some (69, .iload_n 1, 1, 1, 0, 0, 0, []) := rfl
theorem c218_70 : cdx (mC m218) 70 = some (70, .iaload, 1, 0, 0, 0, 0, []) := rfl
theorem c218_71 : cdx (mC m218) 71 = some (71, .iastore, 1, 0, 0, 0, 0, []) := rfl
theorem c218_72 : cdx (mC m218) 72 = some (72, .aload_n 0, 1, 0, 0, 0, 0, []) := rfl
theorem c218_73 : cdx (mC m218) 73 = some (73, .getfield 157, 3, 10, 48, 0, 4174, []) := rfl
theorem c218_76 : cdx (mC m218) 76 = some (76, .iload_n 1, 1, 1, 0, 0, 0, []) := rfl
theorem c218_77 : cdx (mC m218) 77 = some (77, .aload_n 0, 1, 0, 0, 0, 0, []) := rfl
theorem c218_78 : cdx (mC m218) 78 = some (78, .getfield 20, 3, 10, 3, 0, 4129, []) := rfl
theorem c218_81 : cdx (mC m218) 81 = some (81, .iload_n 1, 1, 1, 0, 0, 0, []) := rfl
theorem c218_82 : cdx (mC m218) 82 = some (82, .iaload, 1, 0, 0, 0, 0, []) := rfl
theorem c218_83 : cdx (mC m218) 83 = some (83, .iastore, 1, 0, 0, 0, 0, []) := rfl
theorem c218_84 : cdx (mC m218) 84 = some (84, .aload_n 0, 1, 0, 0, 0, 0, []) := rfl
theorem c218_85 : cdx (mC m218) 85 = some (85, .getfield 160, 3, 10, 49, 0, 4175, []) := rfl
theorem c218_88 : cdx (mC m218) 88 = some (88, .iload_n 1, 1, 1, 0, 0, 0, []) := rfl
theorem c218_89 : cdx (mC m218) 89 = some (89, .aload_n 0, 1, 0, 0, 0, 0, []) := rfl
theorem c218_90 : cdx (mC m218) 90 = some (90, .getfield 23, 3, 10, 4, 0, 4130, []) := rfl
theorem c218_93 : cdx (mC m218) 93 = some (93, .iload_n 1, 1, 1, 0, 0, 0, []) := rfl
theorem c218_94 : cdx (mC m218) 94 = some (94, .iaload, 1, 0, 0, 0, 0, []) := rfl
theorem c218_95 : cdx (mC m218) 95 = some (95, .iastore, 1, 0, 0, 0, 0, []) := rfl
theorem c218_96 : cdx (mC m218) 96 = some (96, .aload_n 0, 1, 0, 0, 0, 0, []) := rfl
theorem c218_97 : cdx (mC m218) 97 = some (97, .getfield 163, 3, 10, 50, 0, 4176, []) := rfl
theorem c218_100 : cdx (mC m218) 100 = some (100, .iload_n 1, 1, 1, 0, 0, 0, []) := rfl
theorem c218_101 : cdx (mC m218) 101 = some (101, .aload_n 0, 1, 0, 0, 0, 0, []) := rfl
theorem c218_102 : cdx (mC m218) 102 = some (102, .getfield 26, 3, 10, 5, 0, 4131, []) := rfl
theorem c218_105 : cdx (mC m218) 105 = some (105, .iload_n 1, 1, 1, 0, 0, 0, []) := rfl
theorem c218_106 : cdx (mC m218) 106 = some (106, .iaload, 1, 0, 0, 0, 0, []) := rfl
theorem c218_107 : cdx (mC m218) 107 = some (107, .iastore, 1, 0, 0, 0, 0, []) := rfl
theorem c218_108 : cdx (mC m218) 108 = some (108, .aload_n 0, 1, 0, 0, 0, 0, []) := rfl
theorem c218_109 : cdx (mC m218) 109 = some (109, .getfield 166, 3, 10, 51, 0, 4177, []) := rfl
theorem c218_112 : cdx (mC m218) 112 = some (112, .iload_n 1, 1, 1, 0, 0, 0, []) := rfl
theorem c218_113 : cdx (mC m218) 113 = some (113, .aload_n 0, 1, 0, 0, 0, 0, []) := rfl
theorem c218_114 : cdx (mC m218) 114 = some (114, .getfield 29, 3, 10, 6, 0, 4132, []) := rfl
theorem c218_117 : cdx (mC m218) 117 = some (117, .iload_n 1, 1, 1, 0, 0, 0, []) := rfl
theorem c218_118 : cdx (mC m218) 118 = some (118, .iaload, 1, 0, 0, 0, 0, []) := rfl
theorem c218_119 : cdx (mC m218) 119 = some (119, .iastore, 1, 0, 0, 0, 0, []) := rfl
theorem c218_120 : cdx (mC m218) 120 = some (120, .aload_n 0, 1, 0, 0, 0, 0, []) := rfl
theorem c218_121 : cdx (mC m218) 121 = some (121, .getfield 172, 3, 10, 53, 0, 4179, []) := rfl
theorem c218_124 : cdx (mC m218) 124 = some (124, .iload_n 1, 1, 1, 0, 0, 0, []) := rfl
theorem c218_125 : cdx (mC m218) 125 = some (125, .aload_n 0, 1, 0, 0, 0, 0, []) := rfl
theorem c218_126 : cdx (mC m218) 126 = some (126, .getfield 108, 3, 10, 32, 0, 4158, []) := rfl
theorem c218_129 : cdx (mC m218) 129 = some (129, .iload_n 1, 1, 1, 0, 0, 0, []) := rfl
theorem c218_130 : cdx (mC m218) 130 = some (130, .iaload, 1, 0, 0, 0, 0, []) := rfl
theorem c218_131 : cdx (mC m218) 131 = some (131, .iastore, 1, 0, 0, 0, 0, []) := rfl
theorem c218_132 : cdx (mC m218) 132 = some (132, .aload_n 0, 1, 0, 0, 0, 0, []) := rfl
theorem c218_133 : cdx (mC m218) 133 = some (133, .getfield 175, 3, 10, 54, 0, 4180, []) := rfl
theorem c218_136 : cdx (mC m218) 136 = some (136, .iload_n 1, 1, 1, 0, 0, 0, []) := rfl
theorem c218_137 : cdx (mC m218) 137 = some (137, .aload_n 0, 1, 0, 0, 0, 0, []) := rfl
theorem c218_138 : cdx (mC m218) 138 = some (138, .getfield 111, 3, 10, 33, 0, 4159, []) := rfl
theorem c218_141 : cdx (mC m218) 141 = some (141, .iload_n 1, 1, 1, 0, 0, 0, []) := rfl
theorem c218_142 : cdx (mC m218) 142 = some (142, .iaload, 1, 0, 0, 0, 0, []) := rfl
theorem c218_143 : cdx (mC m218) 143 = some (143, .iastore, 1, 0, 0, 0, 0, []) := rfl
theorem c218_144 : cdx (mC m218) 144 = some (144, .iinc 1 1, 3, 1, 0, 0, 0, []) := rfl
theorem c218_147 : cdx (mC m218) 147 = some (147, .goto (-92), 3, 55, 0, 0, 0, []) := rfl
theorem c218_150 : cdx (mC m218) 150 = some (150, .iconst 0, 1, 0, 0, 0, 0, []) := rfl
set_option maxRecDepth 20000 in
theorem c218_151 : cdx (mC m218) 151 = some (151, .istore_n 1, 1, 1, 0, 0, 0, []) := rfl
set_option maxRecDepth 20000 in
theorem c218_152 : cdx (mC m218) 152 = some (152, .iload_n 1, 1, 1, 0, 0, 0, []) := rfl
set_option maxRecDepth 20000 in
theorem c218_153 : cdx (mC m218) 153 = some (153, .bipush 20, 2, 0, 0, 0, 0, []) := rfl
set_option maxRecDepth 20000 in
theorem c218_155 : cdx (mC m218) 155 = some (155, .if_icmp .ge 21, 3, 176, 0, 0, 0, []) := rfl
set_option maxRecDepth 20000 in
theorem c218_158 : cdx (mC m218) 158 = some (158, .aload_n 0, 1, 0, 0, 0, 0, []) := rfl
set_option maxRecDepth 20000 in
theorem c218_159 : cdx (mC m218) 159 = some (159, .getfield 169, 3, 10, 52, 0, 4178, []) := rfl
set_option maxRecDepth 20000 in
theorem c218_162 : cdx (mC m218) 162 = some (162, .iload_n 1, 1, 1, 0, 0, 0, []) := rfl
set_option maxRecDepth 20000 in
theorem c218_163 : cdx (mC m218) 163 = some (163, .aload_n 0, 1, 0, 0, 0, 0, []) := rfl
set_option maxRecDepth 20000 in
theorem c218_164 : cdx (mC m218) 164 = some (164, .getfield 32, 3, 10, 7, 0, 4133, []) := rfl
set_option maxRecDepth 20000 in
theorem c218_167 : cdx (mC m218) 167 = some (167, .iload_n 1, 1, 1, 0, 0, 0, []) := rfl
set_option maxRecDepth 20000 in
theorem c218_168 : cdx (mC m218) 168 = some (168, .iaload, 1, 0, 0, 0, 0, []) := rfl
set_option maxRecDepth 20000 in
theorem c218_169 : cdx (mC m218) 169 = some (169, .iastore, 1, 0, 0, 0, 0, []) := rfl
set_option maxRecDepth 20000 in
theorem c218_170 : cdx (mC m218) 170 = some (170, .iinc 1 1, 3, 1, 0, 0, 0, []) := rfl
set_option maxRecDepth 20000 in
theorem c218_173 : cdx (mC m218) 173 = some (173, .goto (-21), 3, 152, 0, 0, 0, []) := rfl
set_option maxRecDepth 20000 in
theorem c218_176 : cdx (mC m218) 176 = some (176, .iconst 0, 1, 0, 0, 0, 0, []) := rfl
set_option maxRecDepth 20000 in
theorem c218_177 : cdx (mC m218) 177 = some (177, .istore_n 1, 1, 1, 0, 0, 0, []) := rfl
set_option maxRecDepth 20000 in
theorem c218_178 : cdx (mC m218) 178 = some (178, .iload_n 1, 1, 1, 0, 0, 0, []) := rfl
set_option maxRecDepth 20000 in
theorem c218_179 : cdx (mC m218) 179 = some (179, .bipush 10, 2, 0, 0, 0, 0, []) := rfl
set_option maxRecDepth 20000 in
theorem c218_181 : cdx (mC m218) 181 = some (181, .if_icmp .ge 33, 3, 214, 0, 0, 0, []) := rfl
set_option maxRecDepth 20000 in
theorem c218_184 : cdx (mC m218) 184 = some (184, .aload_n 0, 1, 0, 0, 0, 0, []) := rfl
set_option maxRecDepth 20000 in
theorem c218_185 : cdx (mC m218) 185 = some (185, .getfield 178, 3, 10, 55, 0, 4181, []) := rfl
set_option maxRecDepth 20000 in
theorem c218_188 : cdx (mC m218) 188 = some (188, .iload_n 1, 1, 1, 0, 0, 0, []) := rfl
set_option maxRecDepth 20000 in
theorem c218_189 : cdx (mC m218) 189 = some (189, .aload_n 0, 1, 0, 0, 0, 0, []) := rfl
set_option maxRecDepth 20000 in
theorem c218_190 : cdx (mC m218) 190 = some (190, .getfield 120, 3, 10, 36, 0, 4162, []) := rfl
set_option maxRecDepth 20000 in
theorem c218_193 : cdx (mC m218) 193 = some (193, .iload_n 1, 1, 1, 0, 0, 0, []) := rfl
set_option maxRecDepth 20000 in
theorem c218_194 : cdx (mC m218) 194 = some (194, .iaload, 1, 0, 0, 0, 0, []) := rfl
set_option maxRecDepth 20000 in
theorem c218_195 : cdx (mC m218) 195 = some (195, .iastore, 1, 0, 0, 0, 0, []) := rfl
set_option maxRecDepth 20000 in
theorem c218_196 : cdx (mC m218) 196 = some (196, .aload_n 0, 1, 0, 0, 0, 0, []) := rfl
set_option maxRecDepth 20000 in
theorem c218_197 : cdx (mC m218) 197 = some (197, .getfield 181, 3, 10, 56, 0, 4182, []) := rfl
set_option maxRecDepth 20000 in
theorem c218_200 : cdx (mC m218) 200 = some (200, .iload_n 1, 1, 1, 0, 0, 0, []) := rfl
set_option maxRecDepth 20000 in
theorem c218_201 : cdx (mC m218) 201 = some (201, .aload_n 0, 1, 0, 0, 0, 0, []) := rfl
set_option maxRecDepth 20000 in
theorem c218_202 : cdx (mC m218) 202 = some (202, .getfield 123, 3, 10, 37, 0, 4163, []) := rfl
set_option maxRecDepth 20000 in
theorem c218_205 : cdx (mC m218) 205 = some (205, .iload_n 1, 1, 1, 0, 0, 0, []) := rfl
set_option maxRecDepth 20000 in
theorem c218_206 : cdx (mC m218) 206 = some (206, .iaload, 1, 0, 0, 0, 0, []) := rfl
set_option maxRecDepth 20000 in
theorem c218_207 : cdx (mC m218) 207 = some (207, .iastore, 1, 0, 0, 0, 0, []) := rfl
set_option maxRecDepth 20000 in
theorem c218_208 : cdx (mC m218) 208 = some (208, .iinc 1 1, 3, 1, 0, 0, 0, []) := rfl
set_option maxRecDepth 20000 in
theorem c218_211 : cdx (mC m218) 211 = some (211, .goto (-33), 3, 178, 0, 0, 0, []) := rfl
set_option maxRecDepth 20000 in
theorem c218_214 : cdx (mC m218) 214 = some (214, .iconst 0, 1, 0, 0, 0, 0, []) := rfl
set_option maxRecDepth 20000 in
theorem c218_215 : cdx (mC m218) 215 = some (215, .istore_n 1, 1, 1, 0, 0, 0, []) := rfl
set_option maxRecDepth 20000 in
theorem c218_216 : cdx (mC m218) 216 = some (216, .iload_n 1, 1, 1, 0, 0, 0, []) := rfl
set_option maxRecDepth 20000 in
theorem c218_217 : cdx (mC m218) 217 = some (217, .bipush 8, 2, 0, 0, 0, 0, []) := rfl
set_option maxRecDepth 20000 in
theorem c218_219 : cdx (mC m218) 219 = some (219, .if_icmp .ge 33, 3, 252, 0, 0, 0, []) := rfl
set_option maxRecDepth 20000 in
theorem c218_222 : cdx (mC m218) 222 = some (222, .aload_n 0, 1, 0, 0, 0, 0, []) := rfl
set_option maxRecDepth 20000 in
theorem c218_223 : cdx (mC m218) 223 = some (223, .getfield 184, 3, 10, 57, 0, 4183, []) := rfl
set_option maxRecDepth 20000 in
theorem c218_226 : cdx (mC m218) 226 = some (226, .iload_n 1, 1, 1, 0, 0, 0, []) := rfl
set_option maxRecDepth 20000 in
theorem c218_227 : cdx (mC m218) 227 = some (227, .aload_n 0, 1, 0, 0, 0, 0, []) := rfl
set_option maxRecDepth 20000 in
theorem c218_228 : cdx (mC m218) 228 = some (228, .getfield 126, 3, 10, 38, 0, 4164, []) := rfl
set_option maxRecDepth 20000 in
theorem c218_231 : cdx (mC m218) 231 = some (231, .iload_n 1, 1, 1, 0, 0, 0, []) := rfl
set_option maxRecDepth 20000 in
theorem c218_232 : cdx (mC m218) 232 = some (232, .iaload, 1, 0, 0, 0, 0, []) := rfl
set_option maxRecDepth 20000 in
theorem c218_233 : cdx (mC m218) 233 = some (233, .iastore, 1, 0, 0, 0, 0, []) := rfl
set_option maxRecDepth 20000 in
theorem c218_234 : cdx (mC m218) 234 = some (234, .aload_n 0, 1, 0, 0, 0, 0, []) := rfl
set_option maxRecDepth 20000 in
theorem c218_235 : cdx (mC m218) 235 = some (235, .getfield 187, 3, 10, 58, 0, 4184, []) := rfl
set_option maxRecDepth 20000 in
theorem c218_238 : cdx (mC m218) 238 = some (238, .iload_n 1, 1, 1, 0, 0, 0, []) := rfl
set_option maxRecDepth 20000 in
theorem c218_239 : cdx (mC m218) 239 = some (239, .aload_n 0, 1, 0, 0, 0, 0, []) := rfl
set_option maxRecDepth 20000 in
theorem c218_240 : cdx (mC m218) 240 = some (240, .getfield 129, 3, 10, 39, 0, 4165, []) := rfl
set_option maxRecDepth 20000 in
theorem c218_243 : cdx (mC m218) 243 = some (243, .iload_n 1, 1, 1, 0, 0, 0, []) := rfl
set_option maxRecDepth 20000 in
theorem c218_244 : cdx (mC m218) 244 = some (244, .iaload, 1, 0, 0, 0, 0, []) := rfl
set_option maxRecDepth 20000 in
theorem c218_245 : cdx (mC m218) 245 = some (245, .iastore, 1, 0, 0, 0, 0, []) := rfl
set_option maxRecDepth 20000 in
theorem c218_246 : cdx (mC m218) 246 = some (246, .iinc 1 1, 3, 1, 0, 0, 0, []) := rfl
set_option maxRecDepth 20000 in
theorem c218_249 : cdx (mC m218) 249 = some (249, .goto (-33), 3, 216, 0, 0, 0, []) := rfl
set_option maxRecDepth 20000 in
theorem c218_252 : cdx (mC m218) 252 = some (252, .aload_n 0, 1, 0, 0, 0, 0, []) := rfl
set_option maxRecDepth 20000 in
theorem c218_253 : cdx (mC m218) 253 = some (253, .getfield 7, 3, 10, 0, 0, 4126, []) := rfl
set_option maxRecDepth 20000 in
theorem c218_256 : cdx (mC m218) 256 = some (256, .ireturn, 1, 0, 0, 0, 0, []) := rfl
theorem b218_0 {X : Nat × (Nat → Int32)} {d : Nat} {I : Nat → Nat → Int32} {L : Nat → Nat → Int64} {Q : Option Value → XW → Prop}   : wp X d m218 0 [some (.ref 124), none] [] (K0, R0, I, L) Q ↔ wp X d m218 55 [some (.ref 124), some (.int 0)] [] (K0, R0, (updR (updR (updR (updR (updR (updR (updR I 124 40 1) 124 41 (I 124 9)) 124 42 (I 124 0)) 124 43 (I 124 1)) 124 44 (I 124 31)) 124 45 (I 124 34)) 124 46 (I 124 35)), L) Q := (w_aload_n (pc' := 1) c218_0 rfl rfl).trans ((w_iconst (pc' := 2) (v := 1) c218_1 rfl rfl).trans ((w_putI (pc' := 5) c218_2 kd_124 (by decide) rfl (by decide) rfl).trans ((w_aload_n (pc' := 6) c218_5 rfl rfl).trans ((w_aload_n (pc' := 7) c218_6 rfl rfl).trans ((w_getIv (pc' := 10) (v := (I 124 9)) c218_7 kd_124 (by decide) rfl ((updR_j (by decide)).trans (rfl)) rfl).trans ((w_putI (pc' := 13) c218_10 kd_124 (by decide) rfl rfl rfl).trans ((w_aload_n (pc' := 14) c218_13 rfl rfl).trans ((w_aload_n (pc' := 15) c218_14 rfl rfl).trans ((w_getIv (pc' := 18) (v := (I 124 0)) c218_15 kd_124 (by decide) rfl ((updR_j (by decide)).trans ((updR_j (by decide)).trans (rfl))) rfl).trans ((w_putI (pc' := 21) c218_18 kd_124 (by decide) rfl rfl rfl).trans ((w_aload_n (pc' := 22) c218_21 rfl rfl).trans ((w_aload_n (pc' := 23) c218_22 rfl rfl).trans ((w_getIv (pc' := 26) (v := (I 124 1)) c218_23 kd_124 (by decide) rfl ((updR_j (by decide)).trans ((updR_j (by decide)).trans ((updR_j (by decide)).trans (rfl)))) rfl).trans ((w_putI (pc' := 29) c218_26 kd_124 (by decide) rfl rfl rfl).trans ((w_aload_n (pc' := 30) c218_29 rfl rfl).trans ((w_aload_n (pc' := 31) c218_30 rfl rfl).trans ((w_getIv (pc' := 34) (v := (I 124 31)) c218_31 kd_124 (by decide) rfl ((updR_j (by decide)).trans ((updR_j (by decide)).trans ((updR_j (by decide)).trans ((updR_j (by decide)).trans (rfl))))) rfl).trans ((w_putI (pc' := 37) c218_34 kd_124 (by decide) rfl rfl rfl).trans ((w_aload_n (pc' := 38) c218_37 rfl rfl).trans ((w_aload_n (pc' := 39) c218_38 rfl rfl).trans ((w_getIv (pc' := 42) (v := (I 124 34)) c218_39 kd_124 (by decide) rfl ((updR_j (by decide)).trans ((updR_j (by decide)).trans ((updR_j (by decide)).trans ((updR_j (by decide)).trans ((updR_j (by decide)).trans (rfl)))))) rfl).trans ((w_putI (pc' := 45) c218_42 kd_124 (by decide) rfl rfl rfl).trans ((w_aload_n (pc' := 46) c218_45 rfl rfl).trans ((w_aload_n (pc' := 47) c218_46 rfl rfl).trans ((w_getIv (pc' := 50) (v := (I 124 35)) c218_47 kd_124 (by decide) rfl ((updR_j (by decide)).trans ((updR_j (by decide)).trans ((updR_j (by decide)).trans ((updR_j (by decide)).trans ((updR_j (by decide)).trans ((updR_j (by decide)).trans (rfl))))))) rfl).trans ((w_putI (pc' := 53) c218_50 kd_124 (by decide) rfl rfl rfl).trans ((w_iconst (pc' := 54) (v := 0) c218_53 rfl rfl).trans ((w_istore_n (pc' := 55) (ls' := [some (.ref 124), some (.int 0)]) c218_54 (Nat.le_of_ble_eq_true rfl) rfl rfl)))))))))))))))))))))))))))))
theorem b218_55 {X : Nat × (Nat → Int32)} {d : Nat} {I : Nat → Nat → Int32} {L : Nat → Nat → Int64} {Q : Option Value → XW → Prop} {x1 : Int32}  : wp X d m218 55 [some (.ref 124), some (.int x1)] [] (K0, R0, I, L) Q ↔ (if x1 < 5 then (inA x1 5 = true ∧ (inA x1 5 = true ∧ (inA x1 5 = true ∧ (inA x1 5 = true ∧ (inA x1 5 = true ∧ (inA x1 5 = true ∧ (inA x1 5 = true ∧ (inA x1 5 = true ∧ (inA x1 5 = true ∧ (inA x1 5 = true ∧ (inA x1 5 = true ∧ (inA x1 5 = true ∧ (inA x1 5 = true ∧ (inA x1 5 = true ∧ wp X d m218 55 [some (.ref 124), some (.int (x1 + 1))] [] (K0, R0, (updR (updR (updR (updR (updR (updR (updR I 150 (Int32.toNatClampNeg x1) (I 125 (Int32.toNatClampNeg x1))) 151 (Int32.toNatClampNeg x1) (I 126 (Int32.toNatClampNeg x1))) 152 (Int32.toNatClampNeg x1) (I 127 (Int32.toNatClampNeg x1))) 153 (Int32.toNatClampNeg x1) (I 128 (Int32.toNatClampNeg x1))) 154 (Int32.toNatClampNeg x1) (I 129 (Int32.toNatClampNeg x1))) 156 (Int32.toNatClampNeg x1) (I 144 (Int32.toNatClampNeg x1))) 157 (Int32.toNatClampNeg x1) (I 145 (Int32.toNatClampNeg x1))), L) Q)))))))))))))) else wp X d m218 152 [some (.ref 124), some (.int 0)] [] (K0, R0, I, L) Q) := (w_iload_n (pc' := 56) c218_55 rfl rfl).trans ((w_iconst (pc' := 57) (v := 5) c218_56 rfl rfl).trans ((w_icmp_ge (pc' := 60) c218_57 rfl).trans (ite_iff ((w_aload_n (pc' := 61) c218_60 rfl rfl).trans ((w_getR (pc' := 64) (q := 150) c218_61 kd_124 (by decide) rfl rd_124_47 rfl).trans ((w_iload_n (pc' := 65) c218_64 rfl rfl).trans ((w_aload_n (pc' := 66) c218_65 rfl rfl).trans ((w_getR (pc' := 69) (q := 125) c218_66 kd_124 (by decide) rfl rd_124_2 rfl).trans ((w_iload_n (pc' := 70) c218_69 rfl rfl).trans ((w_ialdv (pc' := 71) (v := (I 125 (Int32.toNatClampNeg x1))) c218_70 kd_125 (rfl) rfl).trans (and_congr_right (fun _ => (w_iast (pc' := 72) c218_71 kd_150 rfl).trans (and_congr_right (fun _ => (w_aload_n (pc' := 73) c218_72 rfl rfl).trans ((w_getR (pc' := 76) (q := 151) c218_73 kd_124 (by decide) rfl rd_124_48 rfl).trans ((w_iload_n (pc' := 77) c218_76 rfl rfl).trans ((w_aload_n (pc' := 78) c218_77 rfl rfl).trans ((w_getR (pc' := 81) (q := 126) c218_78 kd_124 (by decide) rfl rd_124_3 rfl).trans ((w_iload_n (pc' := 82) c218_81 rfl rfl).trans ((w_ialdv (pc' := 83) (v := (I 126 (Int32.toNatClampNeg x1))) c218_82 kd_126 ((updR_k (by decide)).trans (rfl)) rfl).trans (and_congr_right (fun _ => (w_iast (pc' := 84) c218_83 kd_151 rfl).trans (and_congr_right (fun _ => (w_aload_n (pc' := 85) c218_84 rfl rfl).trans ((w_getR (pc' := 88) (q := 152) c218_85 kd_124 (by decide) rfl rd_124_49 rfl).trans ((w_iload_n (pc' := 89) c218_88 rfl rfl).trans ((w_aload_n (pc' := 90) c218_89 rfl rfl).trans ((w_getR (pc' := 93) (q := 127) c218_90 kd_124 (by decide) rfl rd_124_4 rfl).trans ((w_iload_n (pc' := 94) c218_93 rfl rfl).trans ((w_ialdv (pc' := 95) (v := (I 127 (Int32.toNatClampNeg x1))) c218_94 kd_127 ((updR_k (by decide)).trans ((updR_k (by decide)).trans (rfl))) rfl).trans (and_congr_right (fun _ => (w_iast (pc' := 96) c218_95 kd_152 rfl).trans (and_congr_right (fun _ => (w_aload_n (pc' := 97) c218_96 rfl rfl).trans ((w_getR (pc' := 100) (q := 153) c218_97 kd_124 (by decide) rfl rd_124_50 rfl).trans ((w_iload_n (pc' := 101) c218_100 rfl rfl).trans ((w_aload_n (pc' := 102) c218_101 rfl rfl).trans ((w_getR (pc' := 105) (q := 128) c218_102 kd_124 (by decide) rfl rd_124_5 rfl).trans ((w_iload_n (pc' := 106) c218_105 rfl rfl).trans ((w_ialdv (pc' := 107) (v := (I 128 (Int32.toNatClampNeg x1))) c218_106 kd_128 ((updR_k (by decide)).trans ((updR_k (by decide)).trans ((updR_k (by decide)).trans (rfl)))) rfl).trans (and_congr_right (fun _ => (w_iast (pc' := 108) c218_107 kd_153 rfl).trans (and_congr_right (fun _ => (w_aload_n (pc' := 109) c218_108 rfl rfl).trans ((w_getR (pc' := 112) (q := 154) c218_109 kd_124 (by decide) rfl rd_124_51 rfl).trans ((w_iload_n (pc' := 113) c218_112 rfl rfl).trans ((w_aload_n (pc' := 114) c218_113 rfl rfl).trans ((w_getR (pc' := 117) (q := 129) c218_114 kd_124 (by decide) rfl rd_124_6 rfl).trans ((w_iload_n (pc' := 118) c218_117 rfl rfl).trans ((w_ialdv (pc' := 119) (v := (I 129 (Int32.toNatClampNeg x1))) c218_118 kd_129 ((updR_k (by decide)).trans ((updR_k (by decide)).trans ((updR_k (by decide)).trans ((updR_k (by decide)).trans (rfl))))) rfl).trans (and_congr_right (fun _ => (w_iast (pc' := 120) c218_119 kd_154 rfl).trans (and_congr_right (fun _ => (w_aload_n (pc' := 121) c218_120 rfl rfl).trans ((w_getR (pc' := 124) (q := 156) c218_121 kd_124 (by decide) rfl rd_124_53 rfl).trans ((w_iload_n (pc' := 125) c218_124 rfl rfl).trans ((w_aload_n (pc' := 126) c218_125 rfl rfl).trans ((w_getR (pc' := 129) (q := 144) c218_126 kd_124 (by decide) rfl rd_124_32 rfl).trans ((w_iload_n (pc' := 130) c218_129 rfl rfl).trans ((w_ialdv (pc' := 131) (v := (I 144 (Int32.toNatClampNeg x1))) c218_130 kd_144 ((updR_k (by decide)).trans ((updR_k (by decide)).trans ((updR_k (by decide)).trans ((updR_k (by decide)).trans ((updR_k (by decide)).trans (rfl)))))) rfl).trans (and_congr_right (fun _ => (w_iast (pc' := 132) c218_131 kd_156 rfl).trans (and_congr_right (fun _ => (w_aload_n (pc' := 133) c218_132 rfl rfl).trans ((w_getR (pc' := 136) (q := 157) c218_133 kd_124 (by decide) rfl rd_124_54 rfl).trans ((w_iload_n (pc' := 137) c218_136 rfl rfl).trans ((w_aload_n (pc' := 138) c218_137 rfl rfl).trans ((w_getR (pc' := 141) (q := 145) c218_138 kd_124 (by decide) rfl rd_124_33 rfl).trans ((w_iload_n (pc' := 142) c218_141 rfl rfl).trans ((w_ialdv (pc' := 143) (v := (I 145 (Int32.toNatClampNeg x1))) c218_142 kd_145 ((updR_k (by decide)).trans ((updR_k (by decide)).trans ((updR_k (by decide)).trans ((updR_k (by decide)).trans ((updR_k (by decide)).trans ((updR_k (by decide)).trans (rfl))))))) rfl).trans (and_congr_right (fun _ => (w_iast (pc' := 144) c218_143 kd_157 rfl).trans (and_congr_right (fun _ => (w_iinc (pc' := 147) (v := (x1 + 1)) (ls' := [some (.ref 124), some (.int (x1 + 1))]) c218_144 (Nat.le_of_ble_eq_true rfl) rfl rfl rfl rfl).trans ((w_goto c218_147))))))))))))))))))))))))))))))))))))))))))))))))))))))))))))))))))))))))) ((w_iconst (pc' := 151) (v := 0) c218_150 rfl rfl).trans ((w_istore_n (pc' := 152) (ls' := [some (.ref 124), some (.int 0)]) c218_151 (Nat.le_of_ble_eq_true rfl) rfl rfl))))))
theorem b218_152 {X : Nat × (Nat → Int32)} {d : Nat} {I : Nat → Nat → Int32} {L : Nat → Nat → Int64} {Q : Option Value → XW → Prop} {x1 : Int32}  : wp X d m218 152 [some (.ref 124), some (.int x1)] [] (K0, R0, I, L) Q ↔ (if x1 < 20 then (inA x1 20 = true ∧ (inA x1 20 = true ∧ wp X d m218 152 [some (.ref 124), some (.int (x1 + 1))] [] (K0, R0, (updR I 155 (Int32.toNatClampNeg x1) (I 130 (Int32.toNatClampNeg x1))), L) Q)) else wp X d m218 178 [some (.ref 124), some (.int 0)] [] (K0, R0, I, L) Q) := (w_iload_n (pc' := 153) c218_152 rfl rfl).trans ((w_bipush (pc' := 155) (v := 20) c218_153 rfl rfl).trans ((w_icmp_ge (pc' := 158) c218_155 rfl).trans (ite_iff ((w_aload_n (pc' := 159) c218_158 rfl rfl).trans ((w_getR (pc' := 162) (q := 155) c218_159 kd_124 (by decide) rfl rd_124_52 rfl).trans ((w_iload_n (pc' := 163) c218_162 rfl rfl).trans ((w_aload_n (pc' := 164) c218_163 rfl rfl).trans ((w_getR (pc' := 167) (q := 130) c218_164 kd_124 (by decide) rfl rd_124_7 rfl).trans ((w_iload_n (pc' := 168) c218_167 rfl rfl).trans ((w_ialdv (pc' := 169) (v := (I 130 (Int32.toNatClampNeg x1))) c218_168 kd_130 (rfl) rfl).trans (and_congr_right (fun _ => (w_iast (pc' := 170) c218_169 kd_155 rfl).trans (and_congr_right (fun _ => (w_iinc (pc' := 173) (v := (x1 + 1)) (ls' := [some (.ref 124), some (.int (x1 + 1))]) c218_170 (Nat.le_of_ble_eq_true rfl) rfl rfl rfl rfl).trans ((w_goto c218_173))))))))))))) ((w_iconst (pc' := 177) (v := 0) c218_176 rfl rfl).trans ((w_istore_n (pc' := 178) (ls' := [some (.ref 124), some (.int 0)]) c218_177 (Nat.le_of_ble_eq_true rfl) rfl rfl))))))
theorem b218_178 {X : Nat × (Nat → Int32)} {d : Nat} {I : Nat → Nat → Int32} {L : Nat → Nat → Int64} {Q : Option Value → XW → Prop} {x1 : Int32}  : wp X d m218 178 [some (.ref 124), some (.int x1)] [] (K0, R0, I, L) Q ↔ (if x1 < 10 then (inA x1 10 = true ∧ (inA x1 10 = true ∧ (inA x1 10 = true ∧ (inA x1 10 = true ∧ wp X d m218 178 [some (.ref 124), some (.int (x1 + 1))] [] (K0, R0, (updR (updR I 158 (Int32.toNatClampNeg x1) (I 146 (Int32.toNatClampNeg x1))) 159 (Int32.toNatClampNeg x1) (I 147 (Int32.toNatClampNeg x1))), L) Q)))) else wp X d m218 216 [some (.ref 124), some (.int 0)] [] (K0, R0, I, L) Q) := (w_iload_n (pc' := 179) c218_178 rfl rfl).trans ((w_bipush (pc' := 181) (v := 10) c218_179 rfl rfl).trans ((w_icmp_ge (pc' := 184) c218_181 rfl).trans (ite_iff ((w_aload_n (pc' := 185) c218_184 rfl rfl).trans ((w_getR (pc' := 188) (q := 158) c218_185 kd_124 (by decide) rfl rd_124_55 rfl).trans ((w_iload_n (pc' := 189) c218_188 rfl rfl).trans ((w_aload_n (pc' := 190) c218_189 rfl rfl).trans ((w_getR (pc' := 193) (q := 146) c218_190 kd_124 (by decide) rfl rd_124_36 rfl).trans ((w_iload_n (pc' := 194) c218_193 rfl rfl).trans ((w_ialdv (pc' := 195) (v := (I 146 (Int32.toNatClampNeg x1))) c218_194 kd_146 (rfl) rfl).trans (and_congr_right (fun _ => (w_iast (pc' := 196) c218_195 kd_158 rfl).trans (and_congr_right (fun _ => (w_aload_n (pc' := 197) c218_196 rfl rfl).trans ((w_getR (pc' := 200) (q := 159) c218_197 kd_124 (by decide) rfl rd_124_56 rfl).trans ((w_iload_n (pc' := 201) c218_200 rfl rfl).trans ((w_aload_n (pc' := 202) c218_201 rfl rfl).trans ((w_getR (pc' := 205) (q := 147) c218_202 kd_124 (by decide) rfl rd_124_37 rfl).trans ((w_iload_n (pc' := 206) c218_205 rfl rfl).trans ((w_ialdv (pc' := 207) (v := (I 147 (Int32.toNatClampNeg x1))) c218_206 kd_147 ((updR_k (by decide)).trans (rfl)) rfl).trans (and_congr_right (fun _ => (w_iast (pc' := 208) c218_207 kd_159 rfl).trans (and_congr_right (fun _ => (w_iinc (pc' := 211) (v := (x1 + 1)) (ls' := [some (.ref 124), some (.int (x1 + 1))]) c218_208 (Nat.le_of_ble_eq_true rfl) rfl rfl rfl rfl).trans ((w_goto c218_211))))))))))))))))))))))) ((w_iconst (pc' := 215) (v := 0) c218_214 rfl rfl).trans ((w_istore_n (pc' := 216) (ls' := [some (.ref 124), some (.int 0)]) c218_215 (Nat.le_of_ble_eq_true rfl) rfl rfl))))))
theorem b218_216 {X : Nat × (Nat → Int32)} {d : Nat} {I : Nat → Nat → Int32} {L : Nat → Nat → Int64} {Q : Option Value → XW → Prop} {x1 : Int32}  : wp X d m218 216 [some (.ref 124), some (.int x1)] [] (K0, R0, I, L) Q ↔ (if x1 < 8 then (inA x1 8 = true ∧ (inA x1 8 = true ∧ (inA x1 8 = true ∧ (inA x1 8 = true ∧ wp X d m218 216 [some (.ref 124), some (.int (x1 + 1))] [] (K0, R0, (updR (updR I 160 (Int32.toNatClampNeg x1) (I 148 (Int32.toNatClampNeg x1))) 161 (Int32.toNatClampNeg x1) (I 149 (Int32.toNatClampNeg x1))), L) Q)))) else Q (some (.int (I 124 0))) (K0, R0, I, L)) := (w_iload_n (pc' := 217) c218_216 rfl rfl).trans ((w_bipush (pc' := 219) (v := 8) c218_217 rfl rfl).trans ((w_icmp_ge (pc' := 222) c218_219 rfl).trans (ite_iff ((w_aload_n (pc' := 223) c218_222 rfl rfl).trans ((w_getR (pc' := 226) (q := 160) c218_223 kd_124 (by decide) rfl rd_124_57 rfl).trans ((w_iload_n (pc' := 227) c218_226 rfl rfl).trans ((w_aload_n (pc' := 228) c218_227 rfl rfl).trans ((w_getR (pc' := 231) (q := 148) c218_228 kd_124 (by decide) rfl rd_124_38 rfl).trans ((w_iload_n (pc' := 232) c218_231 rfl rfl).trans ((w_ialdv (pc' := 233) (v := (I 148 (Int32.toNatClampNeg x1))) c218_232 kd_148 (rfl) rfl).trans (and_congr_right (fun _ => (w_iast (pc' := 234) c218_233 kd_160 rfl).trans (and_congr_right (fun _ => (w_aload_n (pc' := 235) c218_234 rfl rfl).trans ((w_getR (pc' := 238) (q := 161) c218_235 kd_124 (by decide) rfl rd_124_58 rfl).trans ((w_iload_n (pc' := 239) c218_238 rfl rfl).trans ((w_aload_n (pc' := 240) c218_239 rfl rfl).trans ((w_getR (pc' := 243) (q := 149) c218_240 kd_124 (by decide) rfl rd_124_39 rfl).trans ((w_iload_n (pc' := 244) c218_243 rfl rfl).trans ((w_ialdv (pc' := 245) (v := (I 149 (Int32.toNatClampNeg x1))) c218_244 kd_149 ((updR_k (by decide)).trans (rfl)) rfl).trans (and_congr_right (fun _ => (w_iast (pc' := 246) c218_245 kd_161 rfl).trans (and_congr_right (fun _ => (w_iinc (pc' := 249) (v := (x1 + 1)) (ls' := [some (.ref 124), some (.int (x1 + 1))]) c218_246 (Nat.le_of_ble_eq_true rfl) rfl rfl rfl rfl).trans ((w_goto c218_249))))))))))))))))))))))) ((w_aload_n (pc' := 253) c218_252 rfl rfl).trans ((w_getIv (pc' := 256) (v := (I 124 0)) c218_253 kd_124 (by decide) rfl (rfl) rfl).trans (w_iret c218_256 rfl))))))
-- LeavesObjectModel.undo()I
theorem c219_0 : cdx (mC m219) 0 = some (0, .aload_n 0, 1, 0, 0, 0, 0, []) := rfl
theorem c219_1 : cdx (mC m219) 1 = some (1, .getfield 132, 3, 10, 40, 0, 4166, []) := rfl
theorem c219_4 : cdx (mC m219) 4 = some (4, .ifCond .ne 6, 3, 10, 0, 0, 0, []) := rfl
theorem c219_7 : cdx (mC m219) 7 = some (7, .bipush (-3), 2, 0, 0, 0, 0, []) := rfl
theorem c219_9 : cdx (mC m219) 9 = some (9, .ireturn, 1, 0, 0, 0, 0, []) := rfl
theorem c219_10 : cdx (mC m219) 10 = some (10, .aload_n 0, 1, 0, 0, 0, 0, []) := rfl
theorem c219_11 : cdx (mC m219) 11 = some (11, .aload_n 0, 1, 0, 0, 0, 0, []) := rfl
theorem c219_12 : cdx (mC m219) 12 = some (12, .getfield 136, 3, 10, 41, 0, 4167, []) := rfl
theorem c219_15 : cdx (mC m219) 15 = some (15, .putfield 38, 3, 10, 9, 0, 4135, []) := rfl
theorem c219_18 : cdx (mC m219) 18 = some (18, .aload_n 0, 1, 0, 0, 0, 0, []) := rfl
theorem c219_19 : cdx (mC m219) 19 = some (19, .aload_n 0, 1, 0, 0, 0, 0, []) := rfl
theorem c219_20 : cdx (mC m219) 20 = some (20, .getfield 139, 3, 10, 42, 0, 4168, []) := rfl
theorem c219_23 : cdx (mC m219) 23 = some (23, .putfield 7, 3, 10, 0, 0, 4126, []) := rfl
theorem c219_26 : cdx (mC m219) 26 = some (26, .aload_n 0, 1, 0, 0, 0, 0, []) := rfl
theorem c219_27 : cdx (mC m219) 27 = some (27, .aload_n 0, 1, 0, 0, 0, 0, []) := rfl
theorem c219_28 : cdx (mC m219) 28 = some (28, .getfield 142, 3, 10, 43, 0, 4169, []) := rfl
theorem c219_31 : cdx (mC m219) 31 = some (31, .putfield 13, 3, 10, 1, 0, 4127, []) := rfl
theorem c219_34 : cdx (mC m219) 34 = some (34, .aload_n 0, 1, 0, 0, 0, 0, []) := rfl
theorem c219_35 : cdx (mC m219) 35 = some (35, .aload_n 0, 1, 0, 0, 0, 0, []) := rfl
theorem c219_36 : cdx (mC m219) 36 = some (36, .getfield 145, 3, 10, 44, 0, 4170, []) := rfl
theorem c219_39 : cdx (mC m219) 39 = some (39, .putfield 105, 3, 10, 31, 0, 4157, []) := rfl
theorem c219_42 : cdx (mC m219) 42 = some (42, .aload_n 0, 1, 0, 0, 0, 0, []) := rfl
theorem c219_43 : cdx (mC m219) 43 = some (43, .aload_n 0, 1, 0, 0, 0, 0, []) := rfl
theorem c219_44 : cdx (mC m219) 44 = some (44, .getfield 148, 3, 10, 45, 0, 4171, []) := rfl
theorem c219_47 : cdx (mC m219) 47 = some (47, .putfield 114, 3, 10, 34, 0, 4160, []) := rfl
theorem c219_50 : cdx (mC m219) 50 = some (50, .aload_n 0, 1, 0, 0, 0, 0, []) := rfl
theorem c219_51 : cdx (mC m219) 51 = some (51, .aload_n 0, 1, 0, 0, 0, 0, []) := rfl
theorem c219_52 : cdx (mC m219) 52 = some (52, .getfield 151, 3, 10, 46, 0, 4172, []) := rfl
theorem c219_55 : cdx (mC m219) 55 = some (55, .putfield 117, 3, 10, 35, 0, 4161, []) := rfl
theorem c219_58 : cdx (mC m219) 58 = some (58, .iconst 0, 1, 0, 0, 0, 0, []) := rfl
theorem c219_59 : cdx (mC m219) 59 = some (59, .istore_n 1, 1, 1, 0, 0, 0, []) := rfl
theorem c219_60 : cdx (mC m219) 60 = some (60, .iload_n 1, 1, 1, 0, 0, 0, []) := rfl
theorem c219_61 : cdx (mC m219) 61 = some (61, .iconst 5, 1, 0, 0, 0, 0, []) := rfl
theorem c219_62 : cdx (mC m219) 62 = some (62, .if_icmp .ge 93, 3, 155, 0, 0, 0, []) := rfl
theorem c219_65 : cdx (mC m219) 65 = some (65, .aload_n 0, 1, 0, 0, 0, 0, []) := rfl
theorem c219_66 : cdx (mC m219) 66 = some (66, .getfield 16, 3, 10, 2, 0, 4128, []) := rfl
theorem c219_69 : cdx (mC m219) 69 = some (69, .iload_n 1, 1, 1, 0, 0, 0, []) := rfl
theorem c219_70 : cdx (mC m219) 70 = some (70, .aload_n 0, 1, 0, 0, 0, 0, []) := rfl
theorem c219_71 : cdx (mC m219) 71 = some (71, .getfield 154, 3, 10, 47, 0, 4173, []) := rfl
theorem c219_74 : cdx (mC m219) 74 = some (74, .iload_n 1, 1, 1, 0, 0, 0, []) := rfl
theorem c219_75 : cdx (mC m219) 75 = some (75, .iaload, 1, 0, 0, 0, 0, []) := rfl
theorem c219_76 : cdx (mC m219) 76 = some (76, .iastore, 1, 0, 0, 0, 0, []) := rfl
theorem c219_77 : cdx (mC m219) 77 = some (77, .aload_n 0, 1, 0, 0, 0, 0, []) := rfl
theorem c219_78 : cdx (mC m219) 78 = some (78, .getfield 20, 3, 10, 3, 0, 4129, []) := rfl
theorem c219_81 : cdx (mC m219) 81 = some (81, .iload_n 1, 1, 1, 0, 0, 0, []) := rfl
theorem c219_82 : cdx (mC m219) 82 = some (82, .aload_n 0, 1, 0, 0, 0, 0, []) := rfl
theorem c219_83 : cdx (mC m219) 83 = some (83, .getfield 157, 3, 10, 48, 0, 4174, []) := rfl
theorem c219_86 : cdx (mC m219) 86 = some (86, .iload_n 1, 1, 1, 0, 0, 0, []) := rfl
theorem c219_87 : cdx (mC m219) 87 = some (87, .iaload, 1, 0, 0, 0, 0, []) := rfl
theorem c219_88 : cdx (mC m219) 88 = some (88, .iastore, 1, 0, 0, 0, 0, []) := rfl
theorem c219_89 : cdx (mC m219) 89 = some (89, .aload_n 0, 1, 0, 0, 0, 0, []) := rfl
theorem c219_90 : cdx (mC m219) 90 = some (90, .getfield 23, 3, 10, 4, 0, 4130, []) := rfl
theorem c219_93 : cdx (mC m219) 93 = some (93, .iload_n 1, 1, 1, 0, 0, 0, []) := rfl
theorem c219_94 : cdx (mC m219) 94 = some (94, .aload_n 0, 1, 0, 0, 0, 0, []) := rfl
theorem c219_95 : cdx (mC m219) 95 = some (95, .getfield 160, 3, 10, 49, 0, 4175, []) := rfl
theorem c219_98 : cdx (mC m219) 98 = some (98, .iload_n 1, 1, 1, 0, 0, 0, []) := rfl
theorem c219_99 : cdx (mC m219) 99 = some (99, .iaload, 1, 0, 0, 0, 0, []) := rfl
theorem c219_100 : cdx (mC m219) 100 = some (100, .iastore, 1, 0, 0, 0, 0, []) := rfl
theorem c219_101 : cdx (mC m219) 101 = some (101, .aload_n 0, 1, 0, 0, 0, 0, []) := rfl
theorem c219_102 : cdx (mC m219) 102 = some (102, .getfield 26, 3, 10, 5, 0, 4131, []) := rfl
theorem c219_105 : cdx (mC m219) 105 = some (105, .iload_n 1, 1, 1, 0, 0, 0, []) := rfl
theorem c219_106 : cdx (mC m219) 106 = some (106, .aload_n 0, 1, 0, 0, 0, 0, []) := rfl
theorem c219_107 : cdx (mC m219) 107 = some (107, .getfield 163, 3, 10, 50, 0, 4176, []) := rfl
theorem c219_110 : cdx (mC m219) 110 = some (110, .iload_n 1, 1, 1, 0, 0, 0, []) := rfl
theorem c219_111 : cdx (mC m219) 111 = some (111, .iaload, 1, 0, 0, 0, 0, []) := rfl
theorem c219_112 : cdx (mC m219) 112 = some (112, .iastore, 1, 0, 0, 0, 0, []) := rfl
theorem c219_113 : cdx (mC m219) 113 = some (113, .aload_n 0, 1, 0, 0, 0, 0, []) := rfl
theorem c219_114 : cdx (mC m219) 114 = some (114, .getfield 29, 3, 10, 6, 0, 4132, []) := rfl
theorem c219_117 : cdx (mC m219) 117 = some (117, .iload_n 1, 1, 1, 0, 0, 0, []) := rfl
theorem c219_118 : cdx (mC m219) 118 = some (118, .aload_n 0, 1, 0, 0, 0, 0, []) := rfl
theorem c219_119 : cdx (mC m219) 119 = some (119, .getfield 166, 3, 10, 51, 0, 4177, []) := rfl
theorem c219_122 : cdx (mC m219) 122 = some (122, .iload_n 1, 1, 1, 0, 0, 0, []) := rfl
theorem c219_123 : cdx (mC m219) 123 = some (123, .iaload, 1, 0, 0, 0, 0, []) := rfl
theorem c219_124 : cdx (mC m219) 124 = some (124, .iastore, 1, 0, 0, 0, 0, []) := rfl
theorem c219_125 : cdx (mC m219) 125 = some (125, .aload_n 0, 1, 0, 0, 0, 0, []) := rfl
theorem c219_126 : cdx (mC m219) 126 = some (126, .getfield 108, 3, 10, 32, 0, 4158, []) := rfl
theorem c219_129 : cdx (mC m219) 129 = some (129, .iload_n 1, 1, 1, 0, 0, 0, []) := rfl
theorem c219_130 : cdx (mC m219) 130 = some (130, .aload_n 0, 1, 0, 0, 0, 0, []) := rfl
theorem c219_131 : cdx (mC m219) 131 = some (131, .getfield 172, 3, 10, 53, 0, 4179, []) := rfl
theorem c219_134 : cdx (mC m219) 134 = some (134, .iload_n 1, 1, 1, 0, 0, 0, []) := rfl
theorem c219_135 : cdx (mC m219) 135 = some (135, .iaload, 1, 0, 0, 0, 0, []) := rfl
theorem c219_136 : cdx (mC m219) 136 = some (136, .iastore, 1, 0, 0, 0, 0, []) := rfl
theorem c219_137 : cdx (mC m219) 137 = some (137, .aload_n 0, 1, 0, 0, 0, 0, []) := rfl
theorem c219_138 : cdx (mC m219) 138 = some (138, .getfield 111, 3, 10, 33, 0, 4159, []) := rfl
theorem c219_141 : cdx (mC m219) 141 = some (141, .iload_n 1, 1, 1, 0, 0, 0, []) := rfl
theorem c219_142 : cdx (mC m219) 142 = some (142, .aload_n 0, 1, 0, 0, 0, 0, []) := rfl
theorem c219_143 : cdx (mC m219) 143 = some (143, .getfield 175, 3, 10, 54, 0, 4180, []) := rfl
theorem c219_146 : cdx (mC m219) 146 = some (146, .iload_n 1, 1, 1, 0, 0, 0, []) := rfl
theorem c219_147 : cdx (mC m219) 147 = some (147, .iaload, 1, 0, 0, 0, 0, []) := rfl
theorem c219_148 : cdx (mC m219) 148 = some (148, .iastore, 1, 0, 0, 0, 0, []) := rfl
theorem c219_149 : cdx (mC m219) 149 = some (149, .iinc 1 1, 3, 1, 0, 0, 0, []) := rfl
set_option maxRecDepth 20000 in
theorem c219_152 : cdx (mC m219) 152 = some (152, .goto (-92), 3, 60, 0, 0, 0, []) := rfl
set_option maxRecDepth 20000 in
theorem c219_155 : cdx (mC m219) 155 = some (155, .iconst 0, 1, 0, 0, 0, 0, []) := rfl
set_option maxRecDepth 20000 in
theorem c219_156 : cdx (mC m219) 156 = some (156, .istore_n 1, 1, 1, 0, 0, 0, []) := rfl
set_option maxRecDepth 20000 in
theorem c219_157 : cdx (mC m219) 157 = some (157, .iload_n 1, 1, 1, 0, 0, 0, []) := rfl
set_option maxRecDepth 20000 in
theorem c219_158 : cdx (mC m219) 158 = some (158, .bipush 20, 2, 0, 0, 0, 0, []) := rfl
set_option maxRecDepth 20000 in
theorem c219_160 : cdx (mC m219) 160 = some (160, .if_icmp .ge 21, 3, 181, 0, 0, 0, []) := rfl
set_option maxRecDepth 20000 in
theorem c219_163 : cdx (mC m219) 163 = some (163, .aload_n 0, 1, 0, 0, 0, 0, []) := rfl
set_option maxRecDepth 20000 in
theorem c219_164 : cdx (mC m219) 164 = some (164, .getfield 32, 3, 10, 7, 0, 4133, []) := rfl
set_option maxRecDepth 20000 in
theorem c219_167 : cdx (mC m219) 167 = some (167, .iload_n 1, 1, 1, 0, 0, 0, []) := rfl
set_option maxRecDepth 20000 in
theorem c219_168 : cdx (mC m219) 168 = some (168, .aload_n 0, 1, 0, 0, 0, 0, []) := rfl
set_option maxRecDepth 20000 in
theorem c219_169 : cdx (mC m219) 169 = some (169, .getfield 169, 3, 10, 52, 0, 4178, []) := rfl
set_option maxRecDepth 20000 in
theorem c219_172 : cdx (mC m219) 172 = some (172, .iload_n 1, 1, 1, 0, 0, 0, []) := rfl
set_option maxRecDepth 20000 in
theorem c219_173 : cdx (mC m219) 173 = some (173, .iaload, 1, 0, 0, 0, 0, []) := rfl
set_option maxRecDepth 20000 in
theorem c219_174 : cdx (mC m219) 174 = some (174, .iastore, 1, 0, 0, 0, 0, []) := rfl
set_option maxRecDepth 20000 in
theorem c219_175 : cdx (mC m219) 175 = some (175, .iinc 1 1, 3, 1, 0, 0, 0, []) := rfl
set_option maxRecDepth 20000 in
theorem c219_178 : cdx (mC m219) 178 = some (178, .goto (-21), 3, 157, 0, 0, 0, []) := rfl
set_option maxRecDepth 20000 in
theorem c219_181 : cdx (mC m219) 181 = some (181, .iconst 0, 1, 0, 0, 0, 0, []) := rfl
set_option maxRecDepth 20000 in
theorem c219_182 : cdx (mC m219) 182 = some (182, .istore_n 1, 1, 1, 0, 0, 0, []) := rfl
set_option maxRecDepth 20000 in
theorem c219_183 : cdx (mC m219) 183 = some (183, .iload_n 1, 1, 1, 0, 0, 0, []) := rfl
set_option maxRecDepth 20000 in
theorem c219_184 : cdx (mC m219) 184 = some (184, .bipush 10, 2, 0, 0, 0, 0, []) := rfl
set_option maxRecDepth 20000 in
theorem c219_186 : cdx (mC m219) 186 = some (186, .if_icmp .ge 33, 3, 219, 0, 0, 0, []) := rfl
set_option maxRecDepth 20000 in
theorem c219_189 : cdx (mC m219) 189 = some (189, .aload_n 0, 1, 0, 0, 0, 0, []) := rfl
set_option maxRecDepth 20000 in
theorem c219_190 : cdx (mC m219) 190 = some (190, .getfield 120, 3, 10, 36, 0, 4162, []) := rfl
set_option maxRecDepth 20000 in
theorem c219_193 : cdx (mC m219) 193 = some (193, .iload_n 1, 1, 1, 0, 0, 0, []) := rfl
set_option maxRecDepth 20000 in
theorem c219_194 : cdx (mC m219) 194 = some (194, .aload_n 0, 1, 0, 0, 0, 0, []) := rfl
set_option maxRecDepth 20000 in
theorem c219_195 : cdx (mC m219) 195 = some (195, .getfield 178, 3, 10, 55, 0, 4181, []) := rfl
set_option maxRecDepth 20000 in
theorem c219_198 : cdx (mC m219) 198 = some (198, .iload_n 1, 1, 1, 0, 0, 0, []) := rfl
set_option maxRecDepth 20000 in
theorem c219_199 : cdx (mC m219) 199 = some (199, .iaload, 1, 0, 0, 0, 0, []) := rfl
set_option maxRecDepth 20000 in
theorem c219_200 : cdx (mC m219) 200 = some (200, .iastore, 1, 0, 0, 0, 0, []) := rfl
set_option maxRecDepth 20000 in
theorem c219_201 : cdx (mC m219) 201 = some (201, .aload_n 0, 1, 0, 0, 0, 0, []) := rfl
set_option maxRecDepth 20000 in
theorem c219_202 : cdx (mC m219) 202 = some (202, .getfield 123, 3, 10, 37, 0, 4163, []) := rfl
set_option maxRecDepth 20000 in
theorem c219_205 : cdx (mC m219) 205 = some (205, .iload_n 1, 1, 1, 0, 0, 0, []) := rfl
set_option maxRecDepth 20000 in
theorem c219_206 : cdx (mC m219) 206 = some (206, .aload_n 0, 1, 0, 0, 0, 0, []) := rfl
set_option maxRecDepth 20000 in
theorem c219_207 : cdx (mC m219) 207 = some (207, .getfield 181, 3, 10, 56, 0, 4182, []) := rfl
set_option maxRecDepth 20000 in
theorem c219_210 : cdx (mC m219) 210 = some (210, .iload_n 1, 1, 1, 0, 0, 0, []) := rfl
set_option maxRecDepth 20000 in
theorem c219_211 : cdx (mC m219) 211 = some (211, .iaload, 1, 0, 0, 0, 0, []) := rfl
set_option maxRecDepth 20000 in
theorem c219_212 : cdx (mC m219) 212 = some (212, .iastore, 1, 0, 0, 0, 0, []) := rfl
set_option maxRecDepth 20000 in
theorem c219_213 : cdx (mC m219) 213 = some (213, .iinc 1 1, 3, 1, 0, 0, 0, []) := rfl
set_option maxRecDepth 20000 in
theorem c219_216 : cdx (mC m219) 216 = some (216, .goto (-33), 3, 183, 0, 0, 0, []) := rfl
set_option maxRecDepth 20000 in
theorem c219_219 : cdx (mC m219) 219 = some (219, .iconst 0, 1, 0, 0, 0, 0, []) := rfl
set_option maxRecDepth 20000 in
theorem c219_220 : cdx (mC m219) 220 = some (220, .istore_n 1, 1, 1, 0, 0, 0, []) := rfl
set_option maxRecDepth 20000 in
theorem c219_221 : cdx (mC m219) 221 = some (221, .iload_n 1, 1, 1, 0, 0, 0, []) := rfl
set_option maxRecDepth 20000 in
theorem c219_222 : cdx (mC m219) 222 = some (222, .bipush 8, 2, 0, 0, 0, 0, []) := rfl
set_option maxRecDepth 20000 in
theorem c219_224 : cdx (mC m219) 224 = some (224, .if_icmp .ge 33, 3, 257, 0, 0, 0, []) := rfl
set_option maxRecDepth 20000 in
theorem c219_227 : cdx (mC m219) 227 = some (227, .aload_n 0, 1, 0, 0, 0, 0, []) := rfl
set_option maxRecDepth 20000 in
theorem c219_228 : cdx (mC m219) 228 = some (228, .getfield 126, 3, 10, 38, 0, 4164, []) := rfl
set_option maxRecDepth 20000 in
theorem c219_231 : cdx (mC m219) 231 = some (231, .iload_n 1, 1, 1, 0, 0, 0, []) := rfl
set_option maxRecDepth 20000 in
theorem c219_232 : cdx (mC m219) 232 = some (232, .aload_n 0, 1, 0, 0, 0, 0, []) := rfl
set_option maxRecDepth 20000 in
theorem c219_233 : cdx (mC m219) 233 = some (233, .getfield 184, 3, 10, 57, 0, 4183, []) := rfl
set_option maxRecDepth 20000 in
theorem c219_236 : cdx (mC m219) 236 = some (236, .iload_n 1, 1, 1, 0, 0, 0, []) := rfl
set_option maxRecDepth 20000 in
theorem c219_237 : cdx (mC m219) 237 = some (237, .iaload, 1, 0, 0, 0, 0, []) := rfl
set_option maxRecDepth 20000 in
theorem c219_238 : cdx (mC m219) 238 = some (238, .iastore, 1, 0, 0, 0, 0, []) := rfl
set_option maxRecDepth 20000 in
theorem c219_239 : cdx (mC m219) 239 = some (239, .aload_n 0, 1, 0, 0, 0, 0, []) := rfl
set_option maxRecDepth 20000 in
theorem c219_240 : cdx (mC m219) 240 = some (240, .getfield 129, 3, 10, 39, 0, 4165, []) := rfl
set_option maxRecDepth 20000 in
theorem c219_243 : cdx (mC m219) 243 = some (243, .iload_n 1, 1, 1, 0, 0, 0, []) := rfl
set_option maxRecDepth 20000 in
theorem c219_244 : cdx (mC m219) 244 = some (244, .aload_n 0, 1, 0, 0, 0, 0, []) := rfl
set_option maxRecDepth 20000 in
theorem c219_245 : cdx (mC m219) 245 = some (245, .getfield 187, 3, 10, 58, 0, 4184, []) := rfl
set_option maxRecDepth 20000 in
theorem c219_248 : cdx (mC m219) 248 = some (248, .iload_n 1, 1, 1, 0, 0, 0, []) := rfl
set_option maxRecDepth 20000 in
theorem c219_249 : cdx (mC m219) 249 = some (249, .iaload, 1, 0, 0, 0, 0, []) := rfl
set_option maxRecDepth 20000 in
theorem c219_250 : cdx (mC m219) 250 = some (250, .iastore, 1, 0, 0, 0, 0, []) := rfl
set_option maxRecDepth 20000 in
theorem c219_251 : cdx (mC m219) 251 = some (251, .iinc 1 1, 3, 1, 0, 0, 0, []) := rfl
set_option maxRecDepth 20000 in
theorem c219_254 : cdx (mC m219) 254 = some (254, .goto (-33), 3, 221, 0, 0, 0, []) := rfl
set_option maxRecDepth 20000 in
theorem c219_257 : cdx (mC m219) 257 = some (257, .aload_n 0, 1, 0, 0, 0, 0, []) := rfl
set_option maxRecDepth 20000 in
theorem c219_258 : cdx (mC m219) 258 = some (258, .getfield 7, 3, 10, 0, 0, 4126, []) := rfl
set_option maxRecDepth 20000 in
theorem c219_261 : cdx (mC m219) 261 = some (261, .ireturn, 1, 0, 0, 0, 0, []) := rfl
theorem b219_0 {X : Nat × (Nat → Int32)} {d : Nat} {I : Nat → Nat → Int32} {L : Nat → Nat → Int64} {Q : Option Value → XW → Prop}   : wp X d m219 0 [some (.ref 124), none] [] (K0, R0, I, L) Q ↔ (if (I 124 40) = 0 then Q (some (.int (-3))) (K0, R0, I, L) else wp X d m219 60 [some (.ref 124), some (.int 0)] [] (K0, R0, (updR (updR (updR (updR (updR (updR I 124 9 (I 124 41)) 124 0 (I 124 42)) 124 1 (I 124 43)) 124 31 (I 124 44)) 124 34 (I 124 45)) 124 35 (I 124 46)), L) Q) := (w_aload_n (pc' := 1) c219_0 rfl rfl).trans ((w_getIv (pc' := 4) (v := (I 124 40)) c219_1 kd_124 (by decide) rfl (rfl) rfl).trans ((w_if_ne (pc' := 7) c219_4 rfl).trans (ite_iff ((w_bipush (pc' := 9) (v := (-3)) c219_7 rfl rfl).trans (w_iret c219_9 rfl)) ((w_aload_n (pc' := 11) c219_10 rfl rfl).trans ((w_aload_n (pc' := 12) c219_11 rfl rfl).trans ((w_getIv (pc' := 15) (v := (I 124 41)) c219_12 kd_124 (by decide) rfl (rfl) rfl).trans ((w_putI (pc' := 18) c219_15 kd_124 (by decide) rfl rfl rfl).trans ((w_aload_n (pc' := 19) c219_18 rfl rfl).trans ((w_aload_n (pc' := 20) c219_19 rfl rfl).trans ((w_getIv (pc' := 23) (v := (I 124 42)) c219_20 kd_124 (by decide) rfl ((updR_j (by decide)).trans (rfl)) rfl).trans ((w_putI (pc' := 26) c219_23 kd_124 (by decide) rfl rfl rfl).trans ((w_aload_n (pc' := 27) c219_26 rfl rfl).trans ((w_aload_n (pc' := 28) c219_27 rfl rfl).trans ((w_getIv (pc' := 31) (v := (I 124 43)) c219_28 kd_124 (by decide) rfl ((updR_j (by decide)).trans ((updR_j (by decide)).trans (rfl))) rfl).trans ((w_putI (pc' := 34) c219_31 kd_124 (by decide) rfl rfl rfl).trans ((w_aload_n (pc' := 35) c219_34 rfl rfl).trans ((w_aload_n (pc' := 36) c219_35 rfl rfl).trans ((w_getIv (pc' := 39) (v := (I 124 44)) c219_36 kd_124 (by decide) rfl ((updR_j (by decide)).trans ((updR_j (by decide)).trans ((updR_j (by decide)).trans (rfl)))) rfl).trans ((w_putI (pc' := 42) c219_39 kd_124 (by decide) rfl rfl rfl).trans ((w_aload_n (pc' := 43) c219_42 rfl rfl).trans ((w_aload_n (pc' := 44) c219_43 rfl rfl).trans ((w_getIv (pc' := 47) (v := (I 124 45)) c219_44 kd_124 (by decide) rfl ((updR_j (by decide)).trans ((updR_j (by decide)).trans ((updR_j (by decide)).trans ((updR_j (by decide)).trans (rfl))))) rfl).trans ((w_putI (pc' := 50) c219_47 kd_124 (by decide) rfl rfl rfl).trans ((w_aload_n (pc' := 51) c219_50 rfl rfl).trans ((w_aload_n (pc' := 52) c219_51 rfl rfl).trans ((w_getIv (pc' := 55) (v := (I 124 46)) c219_52 kd_124 (by decide) rfl ((updR_j (by decide)).trans ((updR_j (by decide)).trans ((updR_j (by decide)).trans ((updR_j (by decide)).trans ((updR_j (by decide)).trans (rfl)))))) rfl).trans ((w_putI (pc' := 58) c219_55 kd_124 (by decide) rfl rfl rfl).trans ((w_iconst (pc' := 59) (v := 0) c219_58 rfl rfl).trans ((w_istore_n (pc' := 60) (ls' := [some (.ref 124), some (.int 0)]) c219_59 (Nat.le_of_ble_eq_true rfl) rfl rfl))))))))))))))))))))))))))))))
theorem b219_60 {X : Nat × (Nat → Int32)} {d : Nat} {I : Nat → Nat → Int32} {L : Nat → Nat → Int64} {Q : Option Value → XW → Prop} {x1 : Int32}  : wp X d m219 60 [some (.ref 124), some (.int x1)] [] (K0, R0, I, L) Q ↔ (if x1 < 5 then (inA x1 5 = true ∧ (inA x1 5 = true ∧ (inA x1 5 = true ∧ (inA x1 5 = true ∧ (inA x1 5 = true ∧ (inA x1 5 = true ∧ (inA x1 5 = true ∧ (inA x1 5 = true ∧ (inA x1 5 = true ∧ (inA x1 5 = true ∧ (inA x1 5 = true ∧ (inA x1 5 = true ∧ (inA x1 5 = true ∧ (inA x1 5 = true ∧ wp X d m219 60 [some (.ref 124), some (.int (x1 + 1))] [] (K0, R0, (updR (updR (updR (updR (updR (updR (updR I 125 (Int32.toNatClampNeg x1) (I 150 (Int32.toNatClampNeg x1))) 126 (Int32.toNatClampNeg x1) (I 151 (Int32.toNatClampNeg x1))) 127 (Int32.toNatClampNeg x1) (I 152 (Int32.toNatClampNeg x1))) 128 (Int32.toNatClampNeg x1) (I 153 (Int32.toNatClampNeg x1))) 129 (Int32.toNatClampNeg x1) (I 154 (Int32.toNatClampNeg x1))) 144 (Int32.toNatClampNeg x1) (I 156 (Int32.toNatClampNeg x1))) 145 (Int32.toNatClampNeg x1) (I 157 (Int32.toNatClampNeg x1))), L) Q)))))))))))))) else wp X d m219 157 [some (.ref 124), some (.int 0)] [] (K0, R0, I, L) Q) := (w_iload_n (pc' := 61) c219_60 rfl rfl).trans ((w_iconst (pc' := 62) (v := 5) c219_61 rfl rfl).trans ((w_icmp_ge (pc' := 65) c219_62 rfl).trans (ite_iff ((w_aload_n (pc' := 66) c219_65 rfl rfl).trans ((w_getR (pc' := 69) (q := 125) c219_66 kd_124 (by decide) rfl rd_124_2 rfl).trans ((w_iload_n (pc' := 70) c219_69 rfl rfl).trans ((w_aload_n (pc' := 71) c219_70 rfl rfl).trans ((w_getR (pc' := 74) (q := 150) c219_71 kd_124 (by decide) rfl rd_124_47 rfl).trans ((w_iload_n (pc' := 75) c219_74 rfl rfl).trans ((w_ialdv (pc' := 76) (v := (I 150 (Int32.toNatClampNeg x1))) c219_75 kd_150 (rfl) rfl).trans (and_congr_right (fun _ => (w_iast (pc' := 77) c219_76 kd_125 rfl).trans (and_congr_right (fun _ => (w_aload_n (pc' := 78) c219_77 rfl rfl).trans ((w_getR (pc' := 81) (q := 126) c219_78 kd_124 (by decide) rfl rd_124_3 rfl).trans ((w_iload_n (pc' := 82) c219_81 rfl rfl).trans ((w_aload_n (pc' := 83) c219_82 rfl rfl).trans ((w_getR (pc' := 86) (q := 151) c219_83 kd_124 (by decide) rfl rd_124_48 rfl).trans ((w_iload_n (pc' := 87) c219_86 rfl rfl).trans ((w_ialdv (pc' := 88) (v := (I 151 (Int32.toNatClampNeg x1))) c219_87 kd_151 ((updR_k (by decide)).trans (rfl)) rfl).trans (and_congr_right (fun _ => (w_iast (pc' := 89) c219_88 kd_126 rfl).trans (and_congr_right (fun _ => (w_aload_n (pc' := 90) c219_89 rfl rfl).trans ((w_getR (pc' := 93) (q := 127) c219_90 kd_124 (by decide) rfl rd_124_4 rfl).trans ((w_iload_n (pc' := 94) c219_93 rfl rfl).trans ((w_aload_n (pc' := 95) c219_94 rfl rfl).trans ((w_getR (pc' := 98) (q := 152) c219_95 kd_124 (by decide) rfl rd_124_49 rfl).trans ((w_iload_n (pc' := 99) c219_98 rfl rfl).trans ((w_ialdv (pc' := 100) (v := (I 152 (Int32.toNatClampNeg x1))) c219_99 kd_152 ((updR_k (by decide)).trans ((updR_k (by decide)).trans (rfl))) rfl).trans (and_congr_right (fun _ => (w_iast (pc' := 101) c219_100 kd_127 rfl).trans (and_congr_right (fun _ => (w_aload_n (pc' := 102) c219_101 rfl rfl).trans ((w_getR (pc' := 105) (q := 128) c219_102 kd_124 (by decide) rfl rd_124_5 rfl).trans ((w_iload_n (pc' := 106) c219_105 rfl rfl).trans ((w_aload_n (pc' := 107) c219_106 rfl rfl).trans ((w_getR (pc' := 110) (q := 153) c219_107 kd_124 (by decide) rfl rd_124_50 rfl).trans ((w_iload_n (pc' := 111) c219_110 rfl rfl).trans ((w_ialdv (pc' := 112) (v := (I 153 (Int32.toNatClampNeg x1))) c219_111 kd_153 ((updR_k (by decide)).trans ((updR_k (by decide)).trans ((updR_k (by decide)).trans (rfl)))) rfl).trans (and_congr_right (fun _ => (w_iast (pc' := 113) c219_112 kd_128 rfl).trans (and_congr_right (fun _ => (w_aload_n (pc' := 114) c219_113 rfl rfl).trans ((w_getR (pc' := 117) (q := 129) c219_114 kd_124 (by decide) rfl rd_124_6 rfl).trans ((w_iload_n (pc' := 118) c219_117 rfl rfl).trans ((w_aload_n (pc' := 119) c219_118 rfl rfl).trans ((w_getR (pc' := 122) (q := 154) c219_119 kd_124 (by decide) rfl rd_124_51 rfl).trans ((w_iload_n (pc' := 123) c219_122 rfl rfl).trans ((w_ialdv (pc' := 124) (v := (I 154 (Int32.toNatClampNeg x1))) c219_123 kd_154 ((updR_k (by decide)).trans ((updR_k (by decide)).trans ((updR_k (by decide)).trans ((updR_k (by decide)).trans (rfl))))) rfl).trans (and_congr_right (fun _ => (w_iast (pc' := 125) c219_124 kd_129 rfl).trans (and_congr_right (fun _ => (w_aload_n (pc' := 126) c219_125 rfl rfl).trans ((w_getR (pc' := 129) (q := 144) c219_126 kd_124 (by decide) rfl rd_124_32 rfl).trans ((w_iload_n (pc' := 130) c219_129 rfl rfl).trans ((w_aload_n (pc' := 131) c219_130 rfl rfl).trans ((w_getR (pc' := 134) (q := 156) c219_131 kd_124 (by decide) rfl rd_124_53 rfl).trans ((w_iload_n (pc' := 135) c219_134 rfl rfl).trans ((w_ialdv (pc' := 136) (v := (I 156 (Int32.toNatClampNeg x1))) c219_135 kd_156 ((updR_k (by decide)).trans ((updR_k (by decide)).trans ((updR_k (by decide)).trans ((updR_k (by decide)).trans ((updR_k (by decide)).trans (rfl)))))) rfl).trans (and_congr_right (fun _ => (w_iast (pc' := 137) c219_136 kd_144 rfl).trans (and_congr_right (fun _ => (w_aload_n (pc' := 138) c219_137 rfl rfl).trans ((w_getR (pc' := 141) (q := 145) c219_138 kd_124 (by decide) rfl rd_124_33 rfl).trans ((w_iload_n (pc' := 142) c219_141 rfl rfl).trans ((w_aload_n (pc' := 143) c219_142 rfl rfl).trans ((w_getR (pc' := 146) (q := 157) c219_143 kd_124 (by decide) rfl rd_124_54 rfl).trans ((w_iload_n (pc' := 147) c219_146 rfl rfl).trans ((w_ialdv (pc' := 148) (v := (I 157 (Int32.toNatClampNeg x1))) c219_147 kd_157 ((updR_k (by decide)).trans ((updR_k (by decide)).trans ((updR_k (by decide)).trans ((updR_k (by decide)).trans ((updR_k (by decide)).trans ((updR_k (by decide)).trans (rfl))))))) rfl).trans (and_congr_right (fun _ => (w_iast (pc' := 149) c219_148 kd_145 rfl).trans (and_congr_right (fun _ => (w_iinc (pc' := 152) (v := (x1 + 1)) (ls' := [some (.ref 124), some (.int (x1 + 1))]) c219_149 (Nat.le_of_ble_eq_true rfl) rfl rfl rfl rfl).trans ((w_goto c219_152))))))))))))))))))))))))))))))))))))))))))))))))))))))))))))))))))))))))) ((w_iconst (pc' := 156) (v := 0) c219_155 rfl rfl).trans ((w_istore_n (pc' := 157) (ls' := [some (.ref 124), some (.int 0)]) c219_156 (Nat.le_of_ble_eq_true rfl) rfl rfl))))))
theorem b219_157 {X : Nat × (Nat → Int32)} {d : Nat} {I : Nat → Nat → Int32} {L : Nat → Nat → Int64} {Q : Option Value → XW → Prop} {x1 : Int32}  : wp X d m219 157 [some (.ref 124), some (.int x1)] [] (K0, R0, I, L) Q ↔ (if x1 < 20 then (inA x1 20 = true ∧ (inA x1 20 = true ∧ wp X d m219 157 [some (.ref 124), some (.int (x1 + 1))] [] (K0, R0, (updR I 130 (Int32.toNatClampNeg x1) (I 155 (Int32.toNatClampNeg x1))), L) Q)) else wp X d m219 183 [some (.ref 124), some (.int 0)] [] (K0, R0, I, L) Q) := (w_iload_n (pc' := 158) c219_157 rfl rfl).trans ((w_bipush (pc' := 160) (v := 20) c219_158 rfl rfl).trans ((w_icmp_ge (pc' := 163) c219_160 rfl).trans (ite_iff ((w_aload_n (pc' := 164) c219_163 rfl rfl).trans ((w_getR (pc' := 167) (q := 130) c219_164 kd_124 (by decide) rfl rd_124_7 rfl).trans ((w_iload_n (pc' := 168) c219_167 rfl rfl).trans ((w_aload_n (pc' := 169) c219_168 rfl rfl).trans ((w_getR (pc' := 172) (q := 155) c219_169 kd_124 (by decide) rfl rd_124_52 rfl).trans ((w_iload_n (pc' := 173) c219_172 rfl rfl).trans ((w_ialdv (pc' := 174) (v := (I 155 (Int32.toNatClampNeg x1))) c219_173 kd_155 (rfl) rfl).trans (and_congr_right (fun _ => (w_iast (pc' := 175) c219_174 kd_130 rfl).trans (and_congr_right (fun _ => (w_iinc (pc' := 178) (v := (x1 + 1)) (ls' := [some (.ref 124), some (.int (x1 + 1))]) c219_175 (Nat.le_of_ble_eq_true rfl) rfl rfl rfl rfl).trans ((w_goto c219_178))))))))))))) ((w_iconst (pc' := 182) (v := 0) c219_181 rfl rfl).trans ((w_istore_n (pc' := 183) (ls' := [some (.ref 124), some (.int 0)]) c219_182 (Nat.le_of_ble_eq_true rfl) rfl rfl))))))
theorem b219_183 {X : Nat × (Nat → Int32)} {d : Nat} {I : Nat → Nat → Int32} {L : Nat → Nat → Int64} {Q : Option Value → XW → Prop} {x1 : Int32}  : wp X d m219 183 [some (.ref 124), some (.int x1)] [] (K0, R0, I, L) Q ↔ (if x1 < 10 then (inA x1 10 = true ∧ (inA x1 10 = true ∧ (inA x1 10 = true ∧ (inA x1 10 = true ∧ wp X d m219 183 [some (.ref 124), some (.int (x1 + 1))] [] (K0, R0, (updR (updR I 146 (Int32.toNatClampNeg x1) (I 158 (Int32.toNatClampNeg x1))) 147 (Int32.toNatClampNeg x1) (I 159 (Int32.toNatClampNeg x1))), L) Q)))) else wp X d m219 221 [some (.ref 124), some (.int 0)] [] (K0, R0, I, L) Q) := (w_iload_n (pc' := 184) c219_183 rfl rfl).trans ((w_bipush (pc' := 186) (v := 10) c219_184 rfl rfl).trans ((w_icmp_ge (pc' := 189) c219_186 rfl).trans (ite_iff ((w_aload_n (pc' := 190) c219_189 rfl rfl).trans ((w_getR (pc' := 193) (q := 146) c219_190 kd_124 (by decide) rfl rd_124_36 rfl).trans ((w_iload_n (pc' := 194) c219_193 rfl rfl).trans ((w_aload_n (pc' := 195) c219_194 rfl rfl).trans ((w_getR (pc' := 198) (q := 158) c219_195 kd_124 (by decide) rfl rd_124_55 rfl).trans ((w_iload_n (pc' := 199) c219_198 rfl rfl).trans ((w_ialdv (pc' := 200) (v := (I 158 (Int32.toNatClampNeg x1))) c219_199 kd_158 (rfl) rfl).trans (and_congr_right (fun _ => (w_iast (pc' := 201) c219_200 kd_146 rfl).trans (and_congr_right (fun _ => (w_aload_n (pc' := 202) c219_201 rfl rfl).trans ((w_getR (pc' := 205) (q := 147) c219_202 kd_124 (by decide) rfl rd_124_37 rfl).trans ((w_iload_n (pc' := 206) c219_205 rfl rfl).trans ((w_aload_n (pc' := 207) c219_206 rfl rfl).trans ((w_getR (pc' := 210) (q := 159) c219_207 kd_124 (by decide) rfl rd_124_56 rfl).trans ((w_iload_n (pc' := 211) c219_210 rfl rfl).trans ((w_ialdv (pc' := 212) (v := (I 159 (Int32.toNatClampNeg x1))) c219_211 kd_159 ((updR_k (by decide)).trans (rfl)) rfl).trans (and_congr_right (fun _ => (w_iast (pc' := 213) c219_212 kd_147 rfl).trans (and_congr_right (fun _ => (w_iinc (pc' := 216) (v := (x1 + 1)) (ls' := [some (.ref 124), some (.int (x1 + 1))]) c219_213 (Nat.le_of_ble_eq_true rfl) rfl rfl rfl rfl).trans ((w_goto c219_216))))))))))))))))))))))) ((w_iconst (pc' := 220) (v := 0) c219_219 rfl rfl).trans ((w_istore_n (pc' := 221) (ls' := [some (.ref 124), some (.int 0)]) c219_220 (Nat.le_of_ble_eq_true rfl) rfl rfl))))))
theorem b219_221 {X : Nat × (Nat → Int32)} {d : Nat} {I : Nat → Nat → Int32} {L : Nat → Nat → Int64} {Q : Option Value → XW → Prop} {x1 : Int32}  : wp X d m219 221 [some (.ref 124), some (.int x1)] [] (K0, R0, I, L) Q ↔ (if x1 < 8 then (inA x1 8 = true ∧ (inA x1 8 = true ∧ (inA x1 8 = true ∧ (inA x1 8 = true ∧ wp X d m219 221 [some (.ref 124), some (.int (x1 + 1))] [] (K0, R0, (updR (updR I 148 (Int32.toNatClampNeg x1) (I 160 (Int32.toNatClampNeg x1))) 149 (Int32.toNatClampNeg x1) (I 161 (Int32.toNatClampNeg x1))), L) Q)))) else Q (some (.int (I 124 0))) (K0, R0, I, L)) := (w_iload_n (pc' := 222) c219_221 rfl rfl).trans ((w_bipush (pc' := 224) (v := 8) c219_222 rfl rfl).trans ((w_icmp_ge (pc' := 227) c219_224 rfl).trans (ite_iff ((w_aload_n (pc' := 228) c219_227 rfl rfl).trans ((w_getR (pc' := 231) (q := 148) c219_228 kd_124 (by decide) rfl rd_124_38 rfl).trans ((w_iload_n (pc' := 232) c219_231 rfl rfl).trans ((w_aload_n (pc' := 233) c219_232 rfl rfl).trans ((w_getR (pc' := 236) (q := 160) c219_233 kd_124 (by decide) rfl rd_124_57 rfl).trans ((w_iload_n (pc' := 237) c219_236 rfl rfl).trans ((w_ialdv (pc' := 238) (v := (I 160 (Int32.toNatClampNeg x1))) c219_237 kd_160 (rfl) rfl).trans (and_congr_right (fun _ => (w_iast (pc' := 239) c219_238 kd_148 rfl).trans (and_congr_right (fun _ => (w_aload_n (pc' := 240) c219_239 rfl rfl).trans ((w_getR (pc' := 243) (q := 149) c219_240 kd_124 (by decide) rfl rd_124_39 rfl).trans ((w_iload_n (pc' := 244) c219_243 rfl rfl).trans ((w_aload_n (pc' := 245) c219_244 rfl rfl).trans ((w_getR (pc' := 248) (q := 161) c219_245 kd_124 (by decide) rfl rd_124_58 rfl).trans ((w_iload_n (pc' := 249) c219_248 rfl rfl).trans ((w_ialdv (pc' := 250) (v := (I 161 (Int32.toNatClampNeg x1))) c219_249 kd_161 ((updR_k (by decide)).trans (rfl)) rfl).trans (and_congr_right (fun _ => (w_iast (pc' := 251) c219_250 kd_149 rfl).trans (and_congr_right (fun _ => (w_iinc (pc' := 254) (v := (x1 + 1)) (ls' := [some (.ref 124), some (.int (x1 + 1))]) c219_251 (Nat.le_of_ble_eq_true rfl) rfl rfl rfl rfl).trans ((w_goto c219_254))))))))))))))))))))))) ((w_aload_n (pc' := 258) c219_257 rfl rfl).trans ((w_getIv (pc' := 261) (v := (I 124 0)) c219_258 kd_124 (by decide) rfl (rfl) rfl).trans (w_iret c219_261 rfl))))))
-- LeavesObjectModel.act(III)I
theorem c220_0 : cdx (mC m220) 0 = some (0, .aload_n 0, 1, 0, 0, 0, 0, []) := rfl
theorem c220_1 : cdx (mC m220) 1 = some (1, .iconst 0, 1, 0, 0, 0, 0, []) := rfl
theorem c220_2 : cdx (mC m220) 2 = some (2, .putfield 190, 3, 10, 59, 0, 4185, []) := rfl
theorem c220_5 : cdx (mC m220) 5 = some (5, .aload_n 0, 1, 0, 0, 0, 0, []) := rfl
theorem c220_6 : cdx (mC m220) 6 = some (6, .iload_n 1, 1, 1, 0, 0, 0, []) := rfl
theorem c220_7 : cdx (mC m220) 7 = some (7, .invokevirtual 221, 3, 145, 1, 0, 5099, [(10, 0)]) := rfl
theorem c220_10 : cdx (mC m220) 10 = some (10, .ifCond .eq 13, 3, 23, 0, 0, 0, []) := rfl
theorem c220_13 : cdx (mC m220) 13 = some (13, .aload_n 0, 1, 0, 0, 0, 0, []) := rfl
theorem c220_14 : cdx (mC m220) 14 = some (14, .iload_n 2, 1, 2, 0, 0, 0, []) := rfl
theorem c220_15 : cdx (mC m220) 15 = some (15, .iconst 0, 1, 0, 0, 0, 0, []) := rfl
theorem c220_16 : cdx (mC m220) 16 = some (16, .iconst 2, 1, 0, 0, 0, 0, []) := rfl
theorem c220_17 : cdx (mC m220) 17 = some (17, .invokevirtual 213, 3, 142, 3, 0, 5087, [(10, 0)]) := rfl
theorem c220_20 : cdx (mC m220) 20 = some (20, .ifCond .ne 5, 3, 25, 0, 0, 0, []) := rfl
theorem c220_23 : cdx (mC m220) 23 = some (23, .iconst 0, 1, 0, 0, 0, 0, []) := rfl
theorem c220_24 : cdx (mC m220) 24 = some (24, .ireturn, 1, 0, 0, 0, 0, []) := rfl
theorem c220_25 : cdx (mC m220) 25 = some (25, .iload_n 2, 1, 2, 0, 0, 0, []) := rfl
theorem c220_26 : cdx (mC m220) 26 = some (26, .ifCond .ne 12, 3, 38, 0, 0, 0, []) := rfl
theorem c220_29 : cdx (mC m220) 29 = some (29, .aload_n 0, 1, 0, 0, 0, 0, []) := rfl
theorem c220_30 : cdx (mC m220) 30 = some (30, .iload_n 1, 1, 1, 0, 0, 0, []) := rfl
theorem c220_31 : cdx (mC m220) 31 = some (31, .iload_n 3, 1, 3, 0, 0, 0, []) := rfl
theorem c220_32 : cdx (mC m220) 32 = some (32, .invokevirtual 384, 3, 221, 2, 0, 6165, [(10, 0)]) := rfl
theorem c220_35 : cdx (mC m220) 35 = some (35, .goto 23, 3, 58, 0, 0, 0, []) := rfl
theorem c220_38 : cdx (mC m220) 38 = some (38, .iload_n 2, 1, 2, 0, 0, 0, []) := rfl
theorem c220_39 : cdx (mC m220) 39 = some (39, .iconst 1, 1, 0, 0, 0, 0, []) := rfl
theorem c220_40 : cdx (mC m220) 40 = some (40, .if_icmp .ne 12, 3, 52, 0, 0, 0, []) := rfl
theorem c220_43 : cdx (mC m220) 43 = some (43, .aload_n 0, 1, 0, 0, 0, 0, []) := rfl
theorem c220_44 : cdx (mC m220) 44 = some (44, .iload_n 1, 1, 1, 0, 0, 0, []) := rfl
theorem c220_45 : cdx (mC m220) 45 = some (45, .iload_n 3, 1, 3, 0, 0, 0, []) := rfl
theorem c220_46 : cdx (mC m220) 46 = some (46, .invokevirtual 393, 3, 224, 2, 0, 6177, [(10, 0)]) := rfl
theorem c220_49 : cdx (mC m220) 49 = some (49, .goto 9, 3, 58, 0, 0, 0, []) := rfl
theorem c220_52 : cdx (mC m220) 52 = some (52, .aload_n 0, 1, 0, 0, 0, 0, []) := rfl
theorem c220_53 : cdx (mC m220) 53 = some (53, .iload_n 1, 1, 1, 0, 0, 0, []) := rfl
theorem c220_54 : cdx (mC m220) 54 = some (54, .iload_n 3, 1, 3, 0, 0, 0, []) := rfl
theorem c220_55 : cdx (mC m220) 55 = some (55, .invokevirtual 399, 3, 227, 2, 0, 6189, [(10, 0)]) := rfl
theorem c220_58 : cdx (mC m220) 58 = some (58, .ireturn, 1, 0, 0, 0, 0, []) := rfl
def lv220 : List (Nat × List Nat) := [(0, [0, 1, 2, 3]), (1, [0, 1, 2, 3]), (2, [0, 1, 2, 3]), (5, [0, 1, 2, 3]), (6, [0, 1, 2, 3]), (7, [0, 1, 2, 3]), (10, [0, 1, 2, 3]), (13, [0, 1, 2, 3]), (14, [0, 1, 2, 3]), (15, [0, 1, 2, 3]), (16, [0, 1, 2, 3]), (17, [0, 1, 2, 3]), (20, [0, 1, 2, 3]), (25, [0, 1, 2, 3]), (26, [0, 1, 2, 3]), (29, [0, 1, 3]), (30, [1, 3]), (31, [3]), (38, [0, 1, 2, 3]), (39, [0, 1, 3]), (40, [0, 1, 3]), (43, [0, 1, 3]), (44, [1, 3]), (45, [3]), (52, [0, 1, 3]), (53, [1, 3]), (54, [3])]
theorem lvok220 : lvOk (mC m220) lv220 = true := by decide +kernel
theorem b220_0 {X : Nat × (Nat → Int32)} {d : Nat} {I : Nat → Nat → Int32} {L : Nat → Nat → Int64} {Q : Option Value → XW → Prop} {x1 : Int32} {x2 : Int32} {x3 : Int32}  : wp X (d + 1) m220 0 [some (.ref 124), some (.int x1), some (.int x2), some (.int x3)] [] (K0, R0, I, L) Q ↔ wp X d m145 0 [some (.ref 124), some (.int x1)] [] (K0, R0, (updR I 124 59 0), L) (fun r w1 => wp X (d + 1) m220 10 [some (.ref 124), some (.int x1), some (.int x2), some (.int x3)] (r.toList ++ []) w1 Q) := (w_aload_n (pc' := 1) c220_0 rfl rfl).trans ((w_iconst (pc' := 2) (v := 0) c220_1 rfl rfl).trans ((w_putI (pc' := 5) c220_2 kd_124 (by decide) rfl rfl rfl).trans ((w_aload_n (pc' := 6) c220_5 rfl rfl).trans ((w_iload_n (pc' := 7) c220_6 rfl rfl).trans ((w_callv (pc' := 10) c220_7 mt145 rfl (Nat.le_of_ble_eq_true rfl) rfl kd_124 rfl rfl (Nat.le_of_ble_eq_true rfl) rfl rfl))))))
theorem b220_10 {X : Nat × (Nat → Int32)} {d : Nat} {I : Nat → Nat → Int32} {L : Nat → Nat → Int64} {Q : Option Value → XW → Prop} {x1 : Int32} {x2 : Int32} {x3 : Int32} {s0 : Int32}  : wp X (d + 1) m220 10 [some (.ref 124), some (.int x1), some (.int x2), some (.int x3)] [(.int s0)] (K0, R0, I, L) Q ↔ (if s0 = 0 then Q (some (.int 0)) (K0, R0, I, L) else wp X d m142 0 [some (.ref 124), some (.int x2), some (.int 0), some (.int 2)] [] (K0, R0, I, L) (fun r w1 => wp X (d + 1) m220 20 [some (.ref 124), some (.int x1), some (.int x2), some (.int x3)] (r.toList ++ []) w1 Q)) := (w_if_eq (pc' := 13) c220_10 rfl).trans (ite_iff ((w_iconst (pc' := 24) (v := 0) c220_23 rfl rfl).trans (w_iret c220_24 rfl)) ((w_aload_n (pc' := 14) c220_13 rfl rfl).trans ((w_iload_n (pc' := 15) c220_14 rfl rfl).trans ((w_iconst (pc' := 16) (v := 0) c220_15 rfl rfl).trans ((w_iconst (pc' := 17) (v := 2) c220_16 rfl rfl).trans ((w_callv (pc' := 20) c220_17 mt142 rfl (Nat.le_of_ble_eq_true rfl) rfl kd_124 rfl rfl (Nat.le_of_ble_eq_true rfl) rfl rfl)))))))
theorem b220_20 {X : Nat × (Nat → Int32)} {d : Nat} {I : Nat → Nat → Int32} {L : Nat → Nat → Int64} {Q : Option Value → XW → Prop} {x1 : Int32} {x2 : Int32} {x3 : Int32} {s0 : Int32}  : wp X (d + 1) m220 20 [some (.ref 124), some (.int x1), some (.int x2), some (.int x3)] [(.int s0)] (K0, R0, I, L) Q ↔ (if s0 = 0 then Q (some (.int 0)) (K0, R0, I, L) else (if x2 = 0 then wp X d m221 0 [some (.ref 124), some (.int x1), some (.int x3)] [] (K0, R0, I, L) (fun r w1 => wp X (d + 1) m220 35 [none, none, none, none] (r.toList ++ []) w1 Q) else (if x2 = 1 then wp X d m224 0 [some (.ref 124), some (.int x1), some (.int x3), none] [] (K0, R0, I, L) (fun r w1 => wp X (d + 1) m220 49 [none, none, none, none] (r.toList ++ []) w1 Q) else wp X d m227 0 [some (.ref 124), some (.int x1), some (.int x3), none] [] (K0, R0, I, L) (fun r w1 => wp X (d + 1) m220 58 [none, none, none, none] (r.toList ++ []) w1 Q)))) := (w_if_ne (pc' := 23) c220_20 rfl).trans (ite_iff ((w_iconst (pc' := 24) (v := 0) c220_23 rfl rfl).trans (w_iret c220_24 rfl)) ((w_iload_n (pc' := 26) c220_25 rfl rfl).trans ((w_if_ne (pc' := 29) c220_26 rfl).trans (ite_iff ((w_aload_n (pc' := 30) c220_29 rfl rfl).trans ((w_iload_n (pc' := 31) c220_30 rfl rfl).trans ((w_iload_n (pc' := 32) c220_31 rfl rfl).trans ((w_callv (pc' := 35) c220_32 mt221 rfl (Nat.le_of_ble_eq_true rfl) rfl kd_124 rfl rfl (Nat.le_of_ble_eq_true rfl) rfl rfl).trans (wp_congr (fun r w1 => wp_msk lvok220 rfl)))))) ((w_iload_n (pc' := 39) c220_38 rfl rfl).trans ((w_iconst (pc' := 40) (v := 1) c220_39 rfl rfl).trans ((w_icmp_ne (pc' := 43) c220_40 rfl).trans (ite_iff ((w_aload_n (pc' := 44) c220_43 rfl rfl).trans ((w_iload_n (pc' := 45) c220_44 rfl rfl).trans ((w_iload_n (pc' := 46) c220_45 rfl rfl).trans ((w_callv (pc' := 49) c220_46 mt224 rfl (Nat.le_of_ble_eq_true rfl) rfl kd_124 rfl rfl (Nat.le_of_ble_eq_true rfl) rfl rfl).trans (wp_congr (fun r w1 => wp_msk lvok220 rfl)))))) ((w_aload_n (pc' := 53) c220_52 rfl rfl).trans ((w_iload_n (pc' := 54) c220_53 rfl rfl).trans ((w_iload_n (pc' := 55) c220_54 rfl rfl).trans ((w_callv (pc' := 58) c220_55 mt227 rfl (Nat.le_of_ble_eq_true rfl) rfl kd_124 rfl rfl (Nat.le_of_ble_eq_true rfl) rfl rfl).trans (wp_congr (fun r w1 => wp_msk lvok220 rfl))))))))))))))
theorem b220_35 {X : Nat × (Nat → Int32)} {d : Nat} {I : Nat → Nat → Int32} {L : Nat → Nat → Int64} {Q : Option Value → XW → Prop} {s0 : Int32}  : wp X d m220 35 [none, none, none, none] [(.int s0)] (K0, R0, I, L) Q ↔ wp X d m220 58 [none, none, none, none] [(.int s0)] (K0, R0, I, L) Q := (w_goto c220_35)
theorem b220_49 {X : Nat × (Nat → Int32)} {d : Nat} {I : Nat → Nat → Int32} {L : Nat → Nat → Int64} {Q : Option Value → XW → Prop} {s0 : Int32}  : wp X d m220 49 [none, none, none, none] [(.int s0)] (K0, R0, I, L) Q ↔ wp X d m220 58 [none, none, none, none] [(.int s0)] (K0, R0, I, L) Q := (w_goto c220_49)
theorem b220_58 {X : Nat × (Nat → Int32)} {d : Nat} {I : Nat → Nat → Int32} {L : Nat → Nat → Int64} {Q : Option Value → XW → Prop} {s0 : Int32}  : wp X d m220 58 [none, none, none, none] [(.int s0)] (K0, R0, I, L) Q ↔ Q (some (.int s0)) (K0, R0, I, L) := w_iret c220_58 rfl
-- LeavesObjectModel.liesAct(II)I
theorem c221_0 : cdx (mC m221) 0 = some (0, .aload_n 0, 1, 0, 0, 0, 0, []) := rfl
theorem c221_1 : cdx (mC m221) 1 = some (1, .getfield 16, 3, 10, 2, 0, 4128, []) := rfl
theorem c221_4 : cdx (mC m221) 4 = some (4, .iload_n 1, 1, 1, 0, 0, 0, []) := rfl
theorem c221_5 : cdx (mC m221) 5 = some (5, .iaload, 1, 0, 0, 0, 0, []) := rfl
theorem c221_6 : cdx (mC m221) 6 = some (6, .tableswitch 83 2 6 #[34, 83, 49, 34, 63], 34, 89, 0, 0, 0, [(2, 40), (3, 89), (4, 55), (5, 40), (6, 69)]) := rfl
theorem c221_40 : cdx (mC m221) 40 = some (40, .aload_n 0, 1, 0, 0, 0, 0, []) := rfl
theorem c221_41 : cdx (mC m221) 41 = some (41, .bipush 30, 2, 0, 0, 0, 0, []) := rfl
theorem c221_43 : cdx (mC m221) 43 = some (43, .invokevirtual 378, 3, 222, 1, 0, 6169, [(10, 0)]) := rfl
theorem c221_46 : cdx (mC m221) 46 = some (46, .aload_n 0, 1, 0, 0, 0, 0, []) := rfl
theorem c221_47 : cdx (mC m221) 47 = some (47, .iload_n 1, 1, 1, 0, 0, 0, []) := rfl
theorem c221_48 : cdx (mC m221) 48 = some (48, .iload_n 2, 1, 2, 0, 0, 0, []) := rfl
theorem c221_49 : cdx (mC m221) 49 = some (49, .iconst 3, 1, 0, 0, 0, 0, []) := rfl
theorem c221_50 : cdx (mC m221) 50 = some (50, .imul, 1, 0, 0, 0, 0, []) := rfl
theorem c221_51 : cdx (mC m221) 51 = some (51, .invokevirtual 381, 3, 223, 2, 0, 6173, [(10, 0)]) := rfl
theorem c221_54 : cdx (mC m221) 54 = some (54, .ireturn, 1, 0, 0, 0, 0, []) := rfl
theorem c221_55 : cdx (mC m221) 55 = some (55, .aload_n 0, 1, 0, 0, 0, 0, []) := rfl
theorem c221_56 : cdx (mC m221) 56 = some (56, .bipush 50, 2, 0, 0, 0, 0, []) := rfl
theorem c221_58 : cdx (mC m221) 58 = some (58, .invokevirtual 378, 3, 222, 1, 0, 6169, [(10, 0)]) := rfl
theorem c221_61 : cdx (mC m221) 61 = some (61, .aload_n 0, 1, 0, 0, 0, 0, []) := rfl
theorem c221_62 : cdx (mC m221) 62 = some (62, .iload_n 1, 1, 1, 0, 0, 0, []) := rfl
theorem c221_63 : cdx (mC m221) 63 = some (63, .iload_n 2, 1, 2, 0, 0, 0, []) := rfl
theorem c221_64 : cdx (mC m221) 64 = some (64, .invokevirtual 381, 3, 223, 2, 0, 6173, [(10, 0)]) := rfl
theorem c221_67 : cdx (mC m221) 67 = some (67, .ineg, 1, 0, 0, 0, 0, []) := rfl
theorem c221_68 : cdx (mC m221) 68 = some (68, .ireturn, 1, 0, 0, 0, 0, []) := rfl
theorem c221_69 : cdx (mC m221) 69 = some (69, .aload_n 0, 1, 0, 0, 0, 0, []) := rfl
theorem c221_70 : cdx (mC m221) 70 = some (70, .bipush 71, 2, 0, 0, 0, 0, []) := rfl
theorem c221_72 : cdx (mC m221) 72 = some (72, .invokevirtual 378, 3, 222, 1, 0, 6169, [(10, 0)]) := rfl
theorem c221_75 : cdx (mC m221) 75 = some (75, .aload_n 0, 1, 0, 0, 0, 0, []) := rfl
theorem c221_76 : cdx (mC m221) 76 = some (76, .iload_n 1, 1, 1, 0, 0, 0, []) := rfl
theorem c221_77 : cdx (mC m221) 77 = some (77, .iload_n 2, 1, 2, 0, 0, 0, []) := rfl
theorem c221_78 : cdx (mC m221) 78 = some (78, .invokevirtual 381, 3, 223, 2, 0, 6173, [(10, 0)]) := rfl
theorem c221_81 : cdx (mC m221) 81 = some (81, .aload_n 0, 1, 0, 0, 0, 0, []) := rfl
theorem c221_82 : cdx (mC m221) 82 = some (82, .getfield 20, 3, 10, 3, 0, 4129, []) := rfl
theorem c221_85 : cdx (mC m221) 85 = some (85, .iload_n 1, 1, 1, 0, 0, 0, []) := rfl
theorem c221_86 : cdx (mC m221) 86 = some (86, .iaload, 1, 0, 0, 0, 0, []) := rfl
theorem c221_87 : cdx (mC m221) 87 = some (87, .ixor, 1, 0, 0, 0, 0, []) := rfl
theorem c221_88 : cdx (mC m221) 88 = some (88, .ireturn, 1, 0, 0, 0, 0, []) := rfl
theorem c221_89 : cdx (mC m221) 89 = some (89, .aload_n 0, 1, 0, 0, 0, 0, []) := rfl
theorem c221_90 : cdx (mC m221) 90 = some (90, .iload_n 1, 1, 1, 0, 0, 0, []) := rfl
theorem c221_91 : cdx (mC m221) 91 = some (91, .iload_n 2, 1, 2, 0, 0, 0, []) := rfl
theorem c221_92 : cdx (mC m221) 92 = some (92, .invokevirtual 381, 3, 223, 2, 0, 6173, [(10, 0)]) := rfl
theorem c221_95 : cdx (mC m221) 95 = some (95, .ireturn, 1, 0, 0, 0, 0, []) := rfl
def lv221 : List (Nat × List Nat) := [(0, [0, 1, 2]), (1, [0, 1, 2]), (4, [0, 1, 2]), (5, [0, 1, 2]), (6, [0, 1, 2]), (40, [0, 1, 2]), (41, [0, 1, 2]), (43, [0, 1, 2]), (46, [0, 1, 2]), (47, [1, 2]), (48, [2]), (55, [0, 1, 2]), (56, [0, 1, 2]), (58, [0, 1, 2]), (61, [0, 1, 2]), (62, [1, 2]), (63, [2]), (69, [0, 1, 2]), (70, [0, 1, 2]), (72, [0, 1, 2]), (75, [0, 1, 2]), (76, [0, 1, 2]), (77, [0, 1, 2]), (78, [0, 1]), (81, [0, 1]), (82, [1]), (85, [1]), (89, [0, 1, 2]), (90, [1, 2]), (91, [2])]
theorem lvok221 : lvOk (mC m221) lv221 = true := by decide +kernel
theorem b221_0 {X : Nat × (Nat → Int32)} {d : Nat} {I : Nat → Nat → Int32} {L : Nat → Nat → Int64} {Q : Option Value → XW → Prop} {x1 : Int32} {x2 : Int32}  : wp X (d + 1) m221 0 [some (.ref 124), some (.int x1), some (.int x2)] [] (K0, R0, I, L) Q ↔ (inA x1 5 = true ∧ (if (I 125 (Int32.toNatClampNeg x1)) = 2 then wp X d m222 0 [some (.ref 124), some (.int 30)] [] (K0, R0, I, L) (fun r w1 => wp X (d + 1) m221 46 [some (.ref 124), some (.int x1), some (.int x2)] (r.toList ++ []) w1 Q) else (if (I 125 (Int32.toNatClampNeg x1)) = 3 then wp X d m223 0 [some (.ref 124), some (.int x1), some (.int x2)] [] (K0, R0, I, L) (fun r w1 => wp X (d + 1) m221 95 [none, none, none] (r.toList ++ []) w1 Q) else (if (I 125 (Int32.toNatClampNeg x1)) = 4 then wp X d m222 0 [some (.ref 124), some (.int 50)] [] (K0, R0, I, L) (fun r w1 => wp X (d + 1) m221 61 [some (.ref 124), some (.int x1), some (.int x2)] (r.toList ++ []) w1 Q) else (if (I 125 (Int32.toNatClampNeg x1)) = 5 then wp X d m222 0 [some (.ref 124), some (.int 30)] [] (K0, R0, I, L) (fun r w1 => wp X (d + 1) m221 46 [some (.ref 124), some (.int x1), some (.int x2)] (r.toList ++ []) w1 Q) else (if (I 125 (Int32.toNatClampNeg x1)) = 6 then wp X d m222 0 [some (.ref 124), some (.int 71)] [] (K0, R0, I, L) (fun r w1 => wp X (d + 1) m221 75 [some (.ref 124), some (.int x1), some (.int x2)] (r.toList ++ []) w1 Q) else wp X d m223 0 [some (.ref 124), some (.int x1), some (.int x2)] [] (K0, R0, I, L) (fun r w1 => wp X (d + 1) m221 95 [none, none, none] (r.toList ++ []) w1 Q))))))) := (w_aload_n (pc' := 1) c221_0 rfl rfl).trans ((w_getR (pc' := 4) (q := 125) c221_1 kd_124 (by decide) rfl rd_124_2 rfl).trans ((w_iload_n (pc' := 5) c221_4 rfl rfl).trans ((w_ialdv (pc' := 6) (v := (I 125 (Int32.toNatClampNeg x1))) c221_5 kd_125 (rfl) rfl).trans (and_congr_right (fun _ => (w_tswitch c221_6).trans ((w_swcons (v := 2) rfl).trans (ite_iff ((w_aload_n (pc' := 41) c221_40 rfl rfl).trans ((w_bipush (pc' := 43) (v := 30) c221_41 rfl rfl).trans ((w_callv (pc' := 46) c221_43 mt222 rfl (Nat.le_of_ble_eq_true rfl) rfl kd_124 rfl rfl (Nat.le_of_ble_eq_true rfl) rfl rfl)))) ((w_swcons (v := 3) rfl).trans (ite_iff ((w_aload_n (pc' := 90) c221_89 rfl rfl).trans ((w_iload_n (pc' := 91) c221_90 rfl rfl).trans ((w_iload_n (pc' := 92) c221_91 rfl rfl).trans ((w_callv (pc' := 95) c221_92 mt223 rfl (Nat.le_of_ble_eq_true rfl) rfl kd_124 rfl rfl (Nat.le_of_ble_eq_true rfl) rfl rfl).trans (wp_congr (fun r w1 => wp_msk lvok221 rfl)))))) ((w_swcons (v := 4) rfl).trans (ite_iff ((w_aload_n (pc' := 56) c221_55 rfl rfl).trans ((w_bipush (pc' := 58) (v := 50) c221_56 rfl rfl).trans ((w_callv (pc' := 61) c221_58 mt222 rfl (Nat.le_of_ble_eq_true rfl) rfl kd_124 rfl rfl (Nat.le_of_ble_eq_true rfl) rfl rfl)))) ((w_swcons (v := 5) rfl).trans (ite_iff ((w_aload_n (pc' := 41) c221_40 rfl rfl).trans ((w_bipush (pc' := 43) (v := 30) c221_41 rfl rfl).trans ((w_callv (pc' := 46) c221_43 mt222 rfl (Nat.le_of_ble_eq_true rfl) rfl kd_124 rfl rfl (Nat.le_of_ble_eq_true rfl) rfl rfl)))) ((w_swcons (v := 6) rfl).trans (ite_iff ((w_aload_n (pc' := 70) c221_69 rfl rfl).trans ((w_bipush (pc' := 72) (v := 71) c221_70 rfl rfl).trans ((w_callv (pc' := 75) c221_72 mt222 rfl (Nat.le_of_ble_eq_true rfl) rfl kd_124 rfl rfl (Nat.le_of_ble_eq_true rfl) rfl rfl)))) ((w_swnil).trans ((w_aload_n (pc' := 90) c221_89 rfl rfl).trans ((w_iload_n (pc' := 91) c221_90 rfl rfl).trans ((w_iload_n (pc' := 92) c221_91 rfl rfl).trans ((w_callv (pc' := 95) c221_92 mt223 rfl (Nat.le_of_ble_eq_true rfl) rfl kd_124 rfl rfl (Nat.le_of_ble_eq_true rfl) rfl rfl).trans (wp_congr (fun r w1 => wp_msk lvok221 rfl))))))))))))))))))))))
theorem b221_46 {X : Nat × (Nat → Int32)} {d : Nat} {I : Nat → Nat → Int32} {L : Nat → Nat → Int64} {Q : Option Value → XW → Prop} {x1 : Int32} {x2 : Int32}  : wp X (d + 1) m221 46 [some (.ref 124), some (.int x1), some (.int x2)] [] (K0, R0, I, L) Q ↔ wp X d m223 0 [some (.ref 124), some (.int x1), some (.int (x2 * 3))] [] (K0, R0, I, L) (fun r w1 => wp X (d + 1) m221 54 [none, none, none] (r.toList ++ []) w1 Q) := (w_aload_n (pc' := 47) c221_46 rfl rfl).trans ((w_iload_n (pc' := 48) c221_47 rfl rfl).trans ((w_iload_n (pc' := 49) c221_48 rfl rfl).trans ((w_iconst (pc' := 50) (v := 3) c221_49 rfl rfl).trans ((w_imul (pc' := 51) c221_50 rfl).trans ((w_callv (pc' := 54) c221_51 mt223 rfl (Nat.le_of_ble_eq_true rfl) rfl kd_124 rfl rfl (Nat.le_of_ble_eq_true rfl) rfl rfl).trans (wp_congr (fun r w1 => wp_msk lvok221 rfl)))))))
theorem b221_95 {X : Nat × (Nat → Int32)} {d : Nat} {I : Nat → Nat → Int32} {L : Nat → Nat → Int64} {Q : Option Value → XW → Prop} {s0 : Int32}  : wp X d m221 95 [none, none, none] [(.int s0)] (K0, R0, I, L) Q ↔ Q (some (.int s0)) (K0, R0, I, L) := w_iret c221_95 rfl
theorem b221_61 {X : Nat × (Nat → Int32)} {d : Nat} {I : Nat → Nat → Int32} {L : Nat → Nat → Int64} {Q : Option Value → XW → Prop} {x1 : Int32} {x2 : Int32}  : wp X (d + 1) m221 61 [some (.ref 124), some (.int x1), some (.int x2)] [] (K0, R0, I, L) Q ↔ wp X d m223 0 [some (.ref 124), some (.int x1), some (.int x2)] [] (K0, R0, I, L) (fun r w1 => wp X (d + 1) m221 67 [none, none, none] (r.toList ++ []) w1 Q) := (w_aload_n (pc' := 62) c221_61 rfl rfl).trans ((w_iload_n (pc' := 63) c221_62 rfl rfl).trans ((w_iload_n (pc' := 64) c221_63 rfl rfl).trans ((w_callv (pc' := 67) c221_64 mt223 rfl (Nat.le_of_ble_eq_true rfl) rfl kd_124 rfl rfl (Nat.le_of_ble_eq_true rfl) rfl rfl).trans (wp_congr (fun r w1 => wp_msk lvok221 rfl)))))
theorem b221_75 {X : Nat × (Nat → Int32)} {d : Nat} {I : Nat → Nat → Int32} {L : Nat → Nat → Int64} {Q : Option Value → XW → Prop} {x1 : Int32} {x2 : Int32}  : wp X (d + 1) m221 75 [some (.ref 124), some (.int x1), some (.int x2)] [] (K0, R0, I, L) Q ↔ wp X d m223 0 [some (.ref 124), some (.int x1), some (.int x2)] [] (K0, R0, I, L) (fun r w1 => wp X (d + 1) m221 81 [some (.ref 124), some (.int x1), none] (r.toList ++ []) w1 Q) := (w_aload_n (pc' := 76) c221_75 rfl rfl).trans ((w_iload_n (pc' := 77) c221_76 rfl rfl).trans ((w_iload_n (pc' := 78) c221_77 rfl rfl).trans ((w_callv (pc' := 81) c221_78 mt223 rfl (Nat.le_of_ble_eq_true rfl) rfl kd_124 rfl rfl (Nat.le_of_ble_eq_true rfl) rfl rfl).trans (wp_congr (fun r w1 => wp_msk lvok221 rfl)))))
theorem b221_54 {X : Nat × (Nat → Int32)} {d : Nat} {I : Nat → Nat → Int32} {L : Nat → Nat → Int64} {Q : Option Value → XW → Prop} {s0 : Int32}  : wp X d m221 54 [none, none, none] [(.int s0)] (K0, R0, I, L) Q ↔ Q (some (.int s0)) (K0, R0, I, L) := w_iret c221_54 rfl
theorem b221_67 {X : Nat × (Nat → Int32)} {d : Nat} {I : Nat → Nat → Int32} {L : Nat → Nat → Int64} {Q : Option Value → XW → Prop} {s0 : Int32}  : wp X d m221 67 [none, none, none] [(.int s0)] (K0, R0, I, L) Q ↔ Q (some (.int (-s0))) (K0, R0, I, L) := (w_ineg (pc' := 68) c221_67 rfl).trans (w_iret c221_68 rfl)
theorem b221_81 {X : Nat × (Nat → Int32)} {d : Nat} {I : Nat → Nat → Int32} {L : Nat → Nat → Int64} {Q : Option Value → XW → Prop} {x1 : Int32} {s0 : Int32}  : wp X d m221 81 [some (.ref 124), some (.int x1), none] [(.int s0)] (K0, R0, I, L) Q ↔ (inA x1 5 = true ∧ Q (some (.int (s0 ^^^ (I 126 (Int32.toNatClampNeg x1))))) (K0, R0, I, L)) := (w_aload_n (pc' := 82) c221_81 rfl rfl).trans ((w_getR (pc' := 85) (q := 126) c221_82 kd_124 (by decide) rfl rd_124_3 rfl).trans ((w_iload_n (pc' := 86) c221_85 rfl rfl).trans ((w_ialdv (pc' := 87) (v := (I 126 (Int32.toNatClampNeg x1))) c221_86 kd_126 (rfl) rfl).trans (and_congr_right (fun _ => (w_ixor (pc' := 88) c221_87 rfl).trans (w_iret c221_88 rfl))))))
-- LeavesObjectModel.body(I)V
theorem c222_0 : cdx (mC m222) 0 = some (0, .aload_n 0, 1, 0, 0, 0, 0, []) := rfl
theorem c222_1 : cdx (mC m222) 1 = some (1, .getfield 190, 3, 10, 59, 0, 4185, []) := rfl
theorem c222_4 : cdx (mC m222) 4 = some (4, .bipush 20, 2, 0, 0, 0, 0, []) := rfl
theorem c222_6 : cdx (mC m222) 6 = some (6, .if_icmp .ge 13, 3, 19, 0, 0, 0, []) := rfl
theorem c222_9 : cdx (mC m222) 9 = some (9, .aload_n 0, 1, 0, 0, 0, 0, []) := rfl
theorem c222_10 : cdx (mC m222) 10 = some (10, .getfield 193, 3, 10, 60, 0, 4186, []) := rfl
theorem c222_13 : cdx (mC m222) 13 = some (13, .aload_n 0, 1, 0, 0, 0, 0, []) := rfl
theorem c222_14 : cdx (mC m222) 14 = some (14, .getfield 190, 3, 10, 59, 0, 4185, []) := rfl
theorem c222_17 : cdx (mC m222) 17 = some (17, .iload_n 1, 1, 1, 0, 0, 0, []) := rfl
theorem c222_18 : cdx (mC m222) 18 = some (18, .iastore, 1, 0, 0, 0, 0, []) := rfl
theorem c222_19 : cdx (mC m222) 19 = some (19, .aload_n 0, 1, 0, 0, 0, 0, []) := rfl
theorem c222_20 : cdx (mC m222) 20 = some (20, .dup, 1, 0, 0, 0, 0, []) := rfl
theorem c222_21 : cdx (mC m222) 21 = some (21, .getfield 190, 3, 10, 59, 0, 4185, []) := rfl
theorem c222_24 : cdx (mC m222) 24 = some (24, .iconst 1, 1, 0, 0, 0, 0, []) := rfl
theorem c222_25 : cdx (mC m222) 25 = some (25, .iadd, 1, 0, 0, 0, 0, []) := rfl
theorem c222_26 : cdx (mC m222) 26 = some (26, .putfield 190, 3, 10, 59, 0, 4185, []) := rfl
theorem c222_29 : cdx (mC m222) 29 = some (29, .return_, 1, 0, 0, 0, 0, []) := rfl
theorem b222_0 {X : Nat × (Nat → Int32)} {d : Nat} {I : Nat → Nat → Int32} {L : Nat → Nat → Int64} {Q : Option Value → XW → Prop} {x1 : Int32}  : wp X d m222 0 [some (.ref 124), some (.int x1)] [] (K0, R0, I, L) Q ↔ (if (I 124 59) < 20 then (inA (I 124 59) 20 = true ∧ Q none (K0, R0, (updR (updR I 162 (Int32.toNatClampNeg (I 124 59)) x1) 124 59 ((I 124 59) + 1)), L)) else Q none (K0, R0, (updR I 124 59 ((I 124 59) + 1)), L)) := (w_aload_n (pc' := 1) c222_0 rfl rfl).trans ((w_getIv (pc' := 4) (v := (I 124 59)) c222_1 kd_124 (by decide) rfl (rfl) rfl).trans ((w_bipush (pc' := 6) (v := 20) c222_4 rfl rfl).trans ((w_icmp_ge (pc' := 9) c222_6 rfl).trans (ite_iff ((w_aload_n (pc' := 10) c222_9 rfl rfl).trans ((w_getR (pc' := 13) (q := 162) c222_10 kd_124 (by decide) rfl rd_124_60 rfl).trans ((w_aload_n (pc' := 14) c222_13 rfl rfl).trans ((w_getIv (pc' := 17) (v := (I 124 59)) c222_14 kd_124 (by decide) rfl (rfl) rfl).trans ((w_iload_n (pc' := 18) c222_17 rfl rfl).trans ((w_iast (pc' := 19) c222_18 kd_162 rfl).trans (and_congr_right (fun _ => (w_aload_n (pc' := 20) c222_19 rfl rfl).trans ((w_dup (pc' := 21) c222_20 rfl rfl).trans ((w_getIv (pc' := 24) (v := (I 124 59)) c222_21 kd_124 (by decide) rfl ((updR_k (by decide)).trans (rfl)) rfl).trans ((w_iconst (pc' := 25) (v := 1) c222_24 rfl rfl).trans ((w_iadd (pc' := 26) c222_25 rfl).trans ((w_putI (pc' := 29) c222_26 kd_124 (by decide) rfl rfl rfl).trans (w_vret c222_29 rfl)))))))))))))) ((w_aload_n (pc' := 20) c222_19 rfl rfl).trans ((w_dup (pc' := 21) c222_20 rfl rfl).trans ((w_getIv (pc' := 24) (v := (I 124 59)) c222_21 kd_124 (by decide) rfl (rfl) rfl).trans ((w_iconst (pc' := 25) (v := 1) c222_24 rfl rfl).trans ((w_iadd (pc' := 26) c222_25 rfl).trans ((w_putI (pc' := 29) c222_26 kd_124 (by decide) rfl rfl rfl).trans (w_vret c222_29 rfl)))))))))))
-- LeavesObjectModel.cupLies(II)I
theorem c223_0 : cdx (mC m223) 0 = some (0, .aload_n 0, 1, 0, 0, 0, 0, []) := rfl
theorem c223_1 : cdx (mC m223) 1 = some (1, .bipush 10, 2, 0, 0, 0, 0, []) := rfl
theorem c223_3 : cdx (mC m223) 3 = some (3, .invokevirtual 378, 3, 222, 1, 0, 6169, [(10, 0)]) := rfl
theorem c223_6 : cdx (mC m223) 6 = some (6, .iload_n 2, 1, 2, 0, 0, 0, []) := rfl
theorem c223_7 : cdx (mC m223) 7 = some (7, .iload_n 1, 1, 1, 0, 0, 0, []) := rfl
theorem c223_8 : cdx (mC m223) 8 = some (8, .iadd, 1, 0, 0, 0, 0, []) := rfl
theorem c223_9 : cdx (mC m223) 9 = some (9, .ireturn, 1, 0, 0, 0, 0, []) := rfl
def lv223 : List (Nat × List Nat) := [(0, [0, 1, 2]), (1, [1, 2]), (3, [1, 2]), (6, [1, 2]), (7, [1])]
theorem lvok223 : lvOk (mC m223) lv223 = true := by decide +kernel
theorem b223_0 {X : Nat × (Nat → Int32)} {d : Nat} {I : Nat → Nat → Int32} {L : Nat → Nat → Int64} {Q : Option Value → XW → Prop} {x1 : Int32} {x2 : Int32}  : wp X (d + 1) m223 0 [some (.ref 124), some (.int x1), some (.int x2)] [] (K0, R0, I, L) Q ↔ wp X d m222 0 [some (.ref 124), some (.int 10)] [] (K0, R0, I, L) (fun r w1 => wp X (d + 1) m223 6 [none, some (.int x1), some (.int x2)] (r.toList ++ []) w1 Q) := (w_aload_n (pc' := 1) c223_0 rfl rfl).trans ((w_bipush (pc' := 3) (v := 10) c223_1 rfl rfl).trans ((w_callv (pc' := 6) c223_3 mt222 rfl (Nat.le_of_ble_eq_true rfl) rfl kd_124 rfl rfl (Nat.le_of_ble_eq_true rfl) rfl rfl).trans (wp_congr (fun r w1 => wp_msk lvok223 rfl))))
theorem b223_6 {X : Nat × (Nat → Int32)} {d : Nat} {I : Nat → Nat → Int32} {L : Nat → Nat → Int64} {Q : Option Value → XW → Prop} {x1 : Int32} {x2 : Int32}  : wp X d m223 6 [none, some (.int x1), some (.int x2)] [] (K0, R0, I, L) Q ↔ Q (some (.int (x2 + x1))) (K0, R0, I, L) := (w_iload_n (pc' := 7) c223_6 rfl rfl).trans ((w_iload_n (pc' := 8) c223_7 rfl rfl).trans ((w_iadd (pc' := 9) c223_8 rfl).trans (w_iret c223_9 rfl)))
-- LeavesObjectModel.saysAct(II)I
theorem c224_0 : cdx (mC m224) 0 = some (0, .aload_n 0, 1, 0, 0, 0, 0, []) := rfl
theorem c224_1 : cdx (mC m224) 1 = some (1, .getfield 16, 3, 10, 2, 0, 4128, []) := rfl
theorem c224_4 : cdx (mC m224) 4 = some (4, .iload_n 1, 1, 1, 0, 0, 0, []) := rfl
theorem c224_5 : cdx (mC m224) 5 = some (5, .iaload, 1, 0, 0, 0, 0, []) := rfl
theorem c224_6 : cdx (mC m224) 6 = some (6, .lookupswitch 78 #[(1, 34), (4, 41), (6, 56)], 34, 84, 0, 0, 0, [(1, 40), (4, 47), (6, 62)]) := rfl
theorem c224_40 : cdx (mC m224) 40 = some (40, .aload_n 0, 1, 0, 0, 0, 0, []) := rfl
theorem c224_41 : cdx (mC m224) 41 = some (41, .iload_n 1, 1, 1, 0, 0, 0, []) := rfl
theorem c224_42 : cdx (mC m224) 42 = some (42, .iload_n 2, 1, 2, 0, 0, 0, []) := rfl
theorem c224_43 : cdx (mC m224) 43 = some (43, .invokevirtual 390, 3, 225, 2, 0, 6181, [(10, 0)]) := rfl
theorem c224_46 : cdx (mC m224) 46 = some (46, .ireturn, 1, 0, 0, 0, 0, []) := rfl
theorem c224_47 : cdx (mC m224) 47 = some (47, .aload_n 0, 1, 0, 0, 0, 0, []) := rfl
theorem c224_48 : cdx (mC m224) 48 = some (48, .bipush 51, 2, 0, 0, 0, 0, []) := rfl
theorem c224_50 : cdx (mC m224) 50 = some (50, .invokevirtual 378, 3, 222, 1, 0, 6169, [(10, 0)]) := rfl
theorem c224_53 : cdx (mC m224) 53 = some (53, .aload_n 0, 1, 0, 0, 0, 0, []) := rfl
theorem c224_54 : cdx (mC m224) 54 = some (54, .iload_n 1, 1, 1, 0, 0, 0, []) := rfl
theorem c224_55 : cdx (mC m224) 55 = some (55, .iload_n 2, 1, 2, 0, 0, 0, []) := rfl
theorem c224_56 : cdx (mC m224) 56 = some (56, .iconst 1, 1, 0, 0, 0, 0, []) := rfl
theorem c224_57 : cdx (mC m224) 57 = some (57, .iadd, 1, 0, 0, 0, 0, []) := rfl
theorem c224_58 : cdx (mC m224) 58 = some (58, .invokevirtual 390, 3, 225, 2, 0, 6181, [(10, 0)]) := rfl
theorem c224_61 : cdx (mC m224) 61 = some (61, .ireturn, 1, 0, 0, 0, 0, []) := rfl
theorem c224_62 : cdx (mC m224) 62 = some (62, .aload_n 0, 1, 0, 0, 0, 0, []) := rfl
theorem c224_63 : cdx (mC m224) 63 = some (63, .bipush 70, 2, 0, 0, 0, 0, []) := rfl
theorem c224_65 : cdx (mC m224) 65 = some (65, .invokevirtual 378, 3, 222, 1, 0, 6169, [(10, 0)]) := rfl
theorem c224_68 : cdx (mC m224) 68 = some (68, .aload_n 0, 1, 0, 0, 0, 0, []) := rfl
theorem c224_69 : cdx (mC m224) 69 = some (69, .iload_n 1, 1, 1, 0, 0, 0, []) := rfl
theorem c224_70 : cdx (mC m224) 70 = some (70, .iload_n 2, 1, 2, 0, 0, 0, []) := rfl
theorem c224_71 : cdx (mC m224) 71 = some (71, .invokevirtual 387, 3, 226, 2, 0, 6185, [(10, 0)]) := rfl
theorem c224_74 : cdx (mC m224) 74 = some (74, .istore_n 3, 1, 3, 0, 0, 0, []) := rfl
theorem c224_75 : cdx (mC m224) 75 = some (75, .iload_n 3, 1, 3, 0, 0, 0, []) := rfl
theorem c224_76 : cdx (mC m224) 76 = some (76, .aload_n 0, 1, 0, 0, 0, 0, []) := rfl
theorem c224_77 : cdx (mC m224) 77 = some (77, .iload_n 1, 1, 1, 0, 0, 0, []) := rfl
theorem c224_78 : cdx (mC m224) 78 = some (78, .iconst 2, 1, 0, 0, 0, 0, []) := rfl
theorem c224_79 : cdx (mC m224) 79 = some (79, .invokevirtual 381, 3, 223, 2, 0, 6173, [(10, 0)]) := rfl
theorem c224_82 : cdx (mC m224) 82 = some (82, .iadd, 1, 0, 0, 0, 0, []) := rfl
theorem c224_83 : cdx (mC m224) 83 = some (83, .ireturn, 1, 0, 0, 0, 0, []) := rfl
theorem c224_84 : cdx (mC m224) 84 = some (84, .aload_n 0, 1, 0, 0, 0, 0, []) := rfl
theorem c224_85 : cdx (mC m224) 85 = some (85, .iload_n 1, 1, 1, 0, 0, 0, []) := rfl
theorem c224_86 : cdx (mC m224) 86 = some (86, .iload_n 2, 1, 2, 0, 0, 0, []) := rfl
theorem c224_87 : cdx (mC m224) 87 = some (87, .invokevirtual 387, 3, 226, 2, 0, 6185, [(10, 0)]) := rfl
theorem c224_90 : cdx (mC m224) 90 = some (90, .ireturn, 1, 0, 0, 0, 0, []) := rfl
def lv224 : List (Nat × List Nat) := [(0, [0, 1, 2]), (1, [0, 1, 2]), (4, [0, 1, 2]), (5, [0, 1, 2]), (6, [0, 1, 2]), (40, [0, 1, 2]), (41, [1, 2]), (42, [2]), (47, [0, 1, 2]), (48, [0, 1, 2]), (50, [0, 1, 2]), (53, [0, 1, 2]), (54, [1, 2]), (55, [2]), (62, [0, 1, 2]), (63, [0, 1, 2]), (65, [0, 1, 2]), (68, [0, 1, 2]), (69, [0, 1, 2]), (70, [0, 1, 2]), (71, [0, 1]), (74, [0, 1]), (75, [0, 1, 3]), (76, [0, 1]), (77, [1]), (84, [0, 1, 2]), (85, [1, 2]), (86, [2])]
theorem lvok224 : lvOk (mC m224) lv224 = true := by decide +kernel
theorem b224_0 {X : Nat × (Nat → Int32)} {d : Nat} {I : Nat → Nat → Int32} {L : Nat → Nat → Int64} {Q : Option Value → XW → Prop} {x1 : Int32} {x2 : Int32}  : wp X (d + 1) m224 0 [some (.ref 124), some (.int x1), some (.int x2), none] [] (K0, R0, I, L) Q ↔ (inA x1 5 = true ∧ (if (I 125 (Int32.toNatClampNeg x1)) = 1 then wp X d m225 0 [some (.ref 124), some (.int x1), some (.int x2)] [] (K0, R0, I, L) (fun r w1 => wp X (d + 1) m224 46 [none, none, none, none] (r.toList ++ []) w1 Q) else (if (I 125 (Int32.toNatClampNeg x1)) = 4 then wp X d m222 0 [some (.ref 124), some (.int 51)] [] (K0, R0, I, L) (fun r w1 => wp X (d + 1) m224 53 [some (.ref 124), some (.int x1), some (.int x2), none] (r.toList ++ []) w1 Q) else (if (I 125 (Int32.toNatClampNeg x1)) = 6 then wp X d m222 0 [some (.ref 124), some (.int 70)] [] (K0, R0, I, L) (fun r w1 => wp X (d + 1) m224 68 [some (.ref 124), some (.int x1), some (.int x2), none] (r.toList ++ []) w1 Q) else wp X d m226 0 [some (.ref 124), some (.int x1), some (.int x2)] [] (K0, R0, I, L) (fun r w1 => wp X (d + 1) m224 90 [none, none, none, none] (r.toList ++ []) w1 Q))))) := (w_aload_n (pc' := 1) c224_0 rfl rfl).trans ((w_getR (pc' := 4) (q := 125) c224_1 kd_124 (by decide) rfl rd_124_2 rfl).trans ((w_iload_n (pc' := 5) c224_4 rfl rfl).trans ((w_ialdv (pc' := 6) (v := (I 125 (Int32.toNatClampNeg x1))) c224_5 kd_125 (rfl) rfl).trans (and_congr_right (fun _ => (w_lswitch c224_6).trans ((w_swcons (v := 1) rfl).trans (ite_iff ((w_aload_n (pc' := 41) c224_40 rfl rfl).trans ((w_iload_n (pc' := 42) c224_41 rfl rfl).trans ((w_iload_n (pc' := 43) c224_42 rfl rfl).trans ((w_callv (pc' := 46) c224_43 mt225 rfl (Nat.le_of_ble_eq_true rfl) rfl kd_124 rfl rfl (Nat.le_of_ble_eq_true rfl) rfl rfl).trans (wp_congr (fun r w1 => wp_msk lvok224 rfl)))))) ((w_swcons (v := 4) rfl).trans (ite_iff ((w_aload_n (pc' := 48) c224_47 rfl rfl).trans ((w_bipush (pc' := 50) (v := 51) c224_48 rfl rfl).trans ((w_callv (pc' := 53) c224_50 mt222 rfl (Nat.le_of_ble_eq_true rfl) rfl kd_124 rfl rfl (Nat.le_of_ble_eq_true rfl) rfl rfl)))) ((w_swcons (v := 6) rfl).trans (ite_iff ((w_aload_n (pc' := 63) c224_62 rfl rfl).trans ((w_bipush (pc' := 65) (v := 70) c224_63 rfl rfl).trans ((w_callv (pc' := 68) c224_65 mt222 rfl (Nat.le_of_ble_eq_true rfl) rfl kd_124 rfl rfl (Nat.le_of_ble_eq_true rfl) rfl rfl)))) ((w_swnil).trans ((w_aload_n (pc' := 85) c224_84 rfl rfl).trans ((w_iload_n (pc' := 86) c224_85 rfl rfl).trans ((w_iload_n (pc' := 87) c224_86 rfl rfl).trans ((w_callv (pc' := 90) c224_87 mt226 rfl (Nat.le_of_ble_eq_true rfl) rfl kd_124 rfl rfl (Nat.le_of_ble_eq_true rfl) rfl rfl).trans (wp_congr (fun r w1 => wp_msk lvok224 rfl))))))))))))))))))
theorem b224_46 {X : Nat × (Nat → Int32)} {d : Nat} {I : Nat → Nat → Int32} {L : Nat → Nat → Int64} {Q : Option Value → XW → Prop} {s0 : Int32}  : wp X d m224 46 [none, none, none, none] [(.int s0)] (K0, R0, I, L) Q ↔ Q (some (.int s0)) (K0, R0, I, L) := w_iret c224_46 rfl
theorem b224_53 {X : Nat × (Nat → Int32)} {d : Nat} {I : Nat → Nat → Int32} {L : Nat → Nat → Int64} {Q : Option Value → XW → Prop} {x1 : Int32} {x2 : Int32}  : wp X (d + 1) m224 53 [some (.ref 124), some (.int x1), some (.int x2), none] [] (K0, R0, I, L) Q ↔ wp X d m225 0 [some (.ref 124), some (.int x1), some (.int (x2 + 1))] [] (K0, R0, I, L) (fun r w1 => wp X (d + 1) m224 61 [none, none, none, none] (r.toList ++ []) w1 Q) := (w_aload_n (pc' := 54) c224_53 rfl rfl).trans ((w_iload_n (pc' := 55) c224_54 rfl rfl).trans ((w_iload_n (pc' := 56) c224_55 rfl rfl).trans ((w_iconst (pc' := 57) (v := 1) c224_56 rfl rfl).trans ((w_iadd (pc' := 58) c224_57 rfl).trans ((w_callv (pc' := 61) c224_58 mt225 rfl (Nat.le_of_ble_eq_true rfl) rfl kd_124 rfl rfl (Nat.le_of_ble_eq_true rfl) rfl rfl).trans (wp_congr (fun r w1 => wp_msk lvok224 rfl)))))))
theorem b224_68 {X : Nat × (Nat → Int32)} {d : Nat} {I : Nat → Nat → Int32} {L : Nat → Nat → Int64} {Q : Option Value → XW → Prop} {x1 : Int32} {x2 : Int32}  : wp X (d + 1) m224 68 [some (.ref 124), some (.int x1), some (.int x2), none] [] (K0, R0, I, L) Q ↔ wp X d m226 0 [some (.ref 124), some (.int x1), some (.int x2)] [] (K0, R0, I, L) (fun r w1 => wp X (d + 1) m224 74 [some (.ref 124), some (.int x1), none, none] (r.toList ++ []) w1 Q) := (w_aload_n (pc' := 69) c224_68 rfl rfl).trans ((w_iload_n (pc' := 70) c224_69 rfl rfl).trans ((w_iload_n (pc' := 71) c224_70 rfl rfl).trans ((w_callv (pc' := 74) c224_71 mt226 rfl (Nat.le_of_ble_eq_true rfl) rfl kd_124 rfl rfl (Nat.le_of_ble_eq_true rfl) rfl rfl).trans (wp_congr (fun r w1 => wp_msk lvok224 rfl)))))
theorem b224_90 {X : Nat × (Nat → Int32)} {d : Nat} {I : Nat → Nat → Int32} {L : Nat → Nat → Int64} {Q : Option Value → XW → Prop} {s0 : Int32}  : wp X d m224 90 [none, none, none, none] [(.int s0)] (K0, R0, I, L) Q ↔ Q (some (.int s0)) (K0, R0, I, L) := w_iret c224_90 rfl
theorem b224_61 {X : Nat × (Nat → Int32)} {d : Nat} {I : Nat → Nat → Int32} {L : Nat → Nat → Int64} {Q : Option Value → XW → Prop} {s0 : Int32}  : wp X d m224 61 [none, none, none, none] [(.int s0)] (K0, R0, I, L) Q ↔ Q (some (.int s0)) (K0, R0, I, L) := w_iret c224_61 rfl
theorem b224_74 {X : Nat × (Nat → Int32)} {d : Nat} {I : Nat → Nat → Int32} {L : Nat → Nat → Int64} {Q : Option Value → XW → Prop} {x1 : Int32} {s0 : Int32}  : wp X (d + 1) m224 74 [some (.ref 124), some (.int x1), none, none] [(.int s0)] (K0, R0, I, L) Q ↔ wp X d m223 0 [some (.ref 124), some (.int x1), some (.int 2)] [] (K0, R0, I, L) (fun r w1 => wp X (d + 1) m224 82 [none, none, none, none] (r.toList ++ [(.int s0)]) w1 Q) := (w_istore_n (pc' := 75) (ls' := [some (.ref 124), some (.int x1), none, some (.int s0)]) c224_74 (Nat.le_of_ble_eq_true rfl) rfl rfl).trans ((w_iload_n (pc' := 76) c224_75 rfl rfl).trans ((w_aload_n (pc' := 77) c224_76 rfl rfl).trans ((w_iload_n (pc' := 78) c224_77 rfl rfl).trans ((w_iconst (pc' := 79) (v := 2) c224_78 rfl rfl).trans ((w_callv (pc' := 82) c224_79 mt223 rfl (Nat.le_of_ble_eq_true rfl) rfl kd_124 rfl rfl (Nat.le_of_ble_eq_true rfl) rfl rfl).trans (wp_congr (fun r w1 => wp_msk lvok224 rfl)))))))
theorem b224_82 {X : Nat × (Nat → Int32)} {d : Nat} {I : Nat → Nat → Int32} {L : Nat → Nat → Int64} {Q : Option Value → XW → Prop} {s0 : Int32} {s1 : Int32}  : wp X d m224 82 [none, none, none, none] [(.int s1), (.int s0)] (K0, R0, I, L) Q ↔ Q (some (.int (s0 + s1))) (K0, R0, I, L) := (w_iadd (pc' := 83) c224_82 rfl).trans (w_iret c224_83 rfl)
-- LeavesObjectModel.shySays(II)I
theorem c225_0 : cdx (mC m225) 0 = some (0, .aload_n 0, 1, 0, 0, 0, 0, []) := rfl
theorem c225_1 : cdx (mC m225) 1 = some (1, .bipush 20, 2, 0, 0, 0, 0, []) := rfl
theorem c225_3 : cdx (mC m225) 3 = some (3, .invokevirtual 378, 3, 222, 1, 0, 6169, [(10, 0)]) := rfl
theorem c225_6 : cdx (mC m225) 6 = some (6, .aload_n 0, 1, 0, 0, 0, 0, []) := rfl
theorem c225_7 : cdx (mC m225) 7 = some (7, .iload_n 1, 1, 1, 0, 0, 0, []) := rfl
theorem c225_8 : cdx (mC m225) 8 = some (8, .iload_n 2, 1, 2, 0, 0, 0, []) := rfl
theorem c225_9 : cdx (mC m225) 9 = some (9, .invokevirtual 387, 3, 226, 2, 0, 6185, [(10, 0)]) := rfl
theorem c225_12 : cdx (mC m225) 12 = some (12, .bipush 6, 2, 0, 0, 0, 0, []) := rfl
theorem c225_14 : cdx (mC m225) 14 = some (14, .ixor, 1, 0, 0, 0, 0, []) := rfl
theorem c225_15 : cdx (mC m225) 15 = some (15, .ireturn, 1, 0, 0, 0, 0, []) := rfl
def lv225 : List (Nat × List Nat) := [(0, [0, 1, 2]), (1, [0, 1, 2]), (3, [0, 1, 2]), (6, [0, 1, 2]), (7, [1, 2]), (8, [2])]
theorem lvok225 : lvOk (mC m225) lv225 = true := by decide +kernel
theorem b225_0 {X : Nat × (Nat → Int32)} {d : Nat} {I : Nat → Nat → Int32} {L : Nat → Nat → Int64} {Q : Option Value → XW → Prop} {x1 : Int32} {x2 : Int32}  : wp X (d + 1) m225 0 [some (.ref 124), some (.int x1), some (.int x2)] [] (K0, R0, I, L) Q ↔ wp X d m222 0 [some (.ref 124), some (.int 20)] [] (K0, R0, I, L) (fun r w1 => wp X (d + 1) m225 6 [some (.ref 124), some (.int x1), some (.int x2)] (r.toList ++ []) w1 Q) := (w_aload_n (pc' := 1) c225_0 rfl rfl).trans ((w_bipush (pc' := 3) (v := 20) c225_1 rfl rfl).trans ((w_callv (pc' := 6) c225_3 mt222 rfl (Nat.le_of_ble_eq_true rfl) rfl kd_124 rfl rfl (Nat.le_of_ble_eq_true rfl) rfl rfl)))
theorem b225_6 {X : Nat × (Nat → Int32)} {d : Nat} {I : Nat → Nat → Int32} {L : Nat → Nat → Int64} {Q : Option Value → XW → Prop} {x1 : Int32} {x2 : Int32}  : wp X (d + 1) m225 6 [some (.ref 124), some (.int x1), some (.int x2)] [] (K0, R0, I, L) Q ↔ wp X d m226 0 [some (.ref 124), some (.int x1), some (.int x2)] [] (K0, R0, I, L) (fun r w1 => wp X (d + 1) m225 12 [none, none, none] (r.toList ++ []) w1 Q) := (w_aload_n (pc' := 7) c225_6 rfl rfl).trans ((w_iload_n (pc' := 8) c225_7 rfl rfl).trans ((w_iload_n (pc' := 9) c225_8 rfl rfl).trans ((w_callv (pc' := 12) c225_9 mt226 rfl (Nat.le_of_ble_eq_true rfl) rfl kd_124 rfl rfl (Nat.le_of_ble_eq_true rfl) rfl rfl).trans (wp_congr (fun r w1 => wp_msk lvok225 rfl)))))
theorem b225_12 {X : Nat × (Nat → Int32)} {d : Nat} {I : Nat → Nat → Int32} {L : Nat → Nat → Int64} {Q : Option Value → XW → Prop} {s0 : Int32}  : wp X d m225 12 [none, none, none] [(.int s0)] (K0, R0, I, L) Q ↔ Q (some (.int (s0 ^^^ (6 : Int32)))) (K0, R0, I, L) := (w_bipush (pc' := 14) (v := 6) c225_12 rfl rfl).trans ((w_ixor (pc' := 15) c225_14 rfl).trans (w_iret c225_15 rfl))
-- LeavesObjectModel.cupSays(II)I
theorem c226_0 : cdx (mC m226) 0 = some (0, .aload_n 0, 1, 0, 0, 0, 0, []) := rfl
theorem c226_1 : cdx (mC m226) 1 = some (1, .bipush 11, 2, 0, 0, 0, 0, []) := rfl
theorem c226_3 : cdx (mC m226) 3 = some (3, .invokevirtual 378, 3, 222, 1, 0, 6169, [(10, 0)]) := rfl
theorem c226_6 : cdx (mC m226) 6 = some (6, .aload_n 0, 1, 0, 0, 0, 0, []) := rfl
theorem c226_7 : cdx (mC m226) 7 = some (7, .iload_n 1, 1, 1, 0, 0, 0, []) := rfl
theorem c226_8 : cdx (mC m226) 8 = some (8, .iload_n 2, 1, 2, 0, 0, 0, []) := rfl
theorem c226_9 : cdx (mC m226) 9 = some (9, .invokevirtual 384, 3, 221, 2, 0, 6165, [(10, 0)]) := rfl
theorem c226_12 : cdx (mC m226) 12 = some (12, .aload_n 0, 1, 0, 0, 0, 0, []) := rfl
theorem c226_13 : cdx (mC m226) 13 = some (13, .getfield 20, 3, 10, 3, 0, 4129, []) := rfl
theorem c226_16 : cdx (mC m226) 16 = some (16, .iload_n 1, 1, 1, 0, 0, 0, []) := rfl
theorem c226_17 : cdx (mC m226) 17 = some (17, .iaload, 1, 0, 0, 0, 0, []) := rfl
theorem c226_18 : cdx (mC m226) 18 = some (18, .isub, 1, 0, 0, 0, 0, []) := rfl
theorem c226_19 : cdx (mC m226) 19 = some (19, .ireturn, 1, 0, 0, 0, 0, []) := rfl
def lv226 : List (Nat × List Nat) := [(0, [0, 1, 2]), (1, [0, 1, 2]), (3, [0, 1, 2]), (6, [0, 1, 2]), (7, [0, 1, 2]), (8, [0, 1, 2]), (9, [0, 1]), (12, [0, 1]), (13, [1]), (16, [1])]
theorem lvok226 : lvOk (mC m226) lv226 = true := by decide +kernel
theorem b226_0 {X : Nat × (Nat → Int32)} {d : Nat} {I : Nat → Nat → Int32} {L : Nat → Nat → Int64} {Q : Option Value → XW → Prop} {x1 : Int32} {x2 : Int32}  : wp X (d + 1) m226 0 [some (.ref 124), some (.int x1), some (.int x2)] [] (K0, R0, I, L) Q ↔ wp X d m222 0 [some (.ref 124), some (.int 11)] [] (K0, R0, I, L) (fun r w1 => wp X (d + 1) m226 6 [some (.ref 124), some (.int x1), some (.int x2)] (r.toList ++ []) w1 Q) := (w_aload_n (pc' := 1) c226_0 rfl rfl).trans ((w_bipush (pc' := 3) (v := 11) c226_1 rfl rfl).trans ((w_callv (pc' := 6) c226_3 mt222 rfl (Nat.le_of_ble_eq_true rfl) rfl kd_124 rfl rfl (Nat.le_of_ble_eq_true rfl) rfl rfl)))
theorem b226_6 {X : Nat × (Nat → Int32)} {d : Nat} {I : Nat → Nat → Int32} {L : Nat → Nat → Int64} {Q : Option Value → XW → Prop} {x1 : Int32} {x2 : Int32}  : wp X (d + 1) m226 6 [some (.ref 124), some (.int x1), some (.int x2)] [] (K0, R0, I, L) Q ↔ wp X d m221 0 [some (.ref 124), some (.int x1), some (.int x2)] [] (K0, R0, I, L) (fun r w1 => wp X (d + 1) m226 12 [some (.ref 124), some (.int x1), none] (r.toList ++ []) w1 Q) := (w_aload_n (pc' := 7) c226_6 rfl rfl).trans ((w_iload_n (pc' := 8) c226_7 rfl rfl).trans ((w_iload_n (pc' := 9) c226_8 rfl rfl).trans ((w_callv (pc' := 12) c226_9 mt221 rfl (Nat.le_of_ble_eq_true rfl) rfl kd_124 rfl rfl (Nat.le_of_ble_eq_true rfl) rfl rfl).trans (wp_congr (fun r w1 => wp_msk lvok226 rfl)))))
theorem b226_12 {X : Nat × (Nat → Int32)} {d : Nat} {I : Nat → Nat → Int32} {L : Nat → Nat → Int64} {Q : Option Value → XW → Prop} {x1 : Int32} {s0 : Int32}  : wp X d m226 12 [some (.ref 124), some (.int x1), none] [(.int s0)] (K0, R0, I, L) Q ↔ (inA x1 5 = true ∧ Q (some (.int (s0 - (I 126 (Int32.toNatClampNeg x1))))) (K0, R0, I, L)) := (w_aload_n (pc' := 13) c226_12 rfl rfl).trans ((w_getR (pc' := 16) (q := 126) c226_13 kd_124 (by decide) rfl rd_124_3 rfl).trans ((w_iload_n (pc' := 17) c226_16 rfl rfl).trans ((w_ialdv (pc' := 18) (v := (I 126 (Int32.toNatClampNeg x1))) c226_17 kd_126 (rfl) rfl).trans (and_congr_right (fun _ => (w_isub (pc' := 19) c226_18 rfl).trans (w_iret c226_19 rfl))))))
-- LeavesObjectModel.tellsAct(II)I
theorem c227_0 : cdx (mC m227) 0 = some (0, .aload_n 0, 1, 0, 0, 0, 0, []) := rfl
theorem c227_1 : cdx (mC m227) 1 = some (1, .getfield 16, 3, 10, 2, 0, 4128, []) := rfl
theorem c227_4 : cdx (mC m227) 4 = some (4, .iload_n 1, 1, 1, 0, 0, 0, []) := rfl
theorem c227_5 : cdx (mC m227) 5 = some (5, .iaload, 1, 0, 0, 0, 0, []) := rfl
theorem c227_6 : cdx (mC m227) 6 = some (6, .tableswitch 67 3 6 #[30, 67, 52, 30], 30, 73, 0, 0, 0, [(3, 36), (4, 73), (5, 58), (6, 36)]) := rfl
theorem c227_36 : cdx (mC m227) 36 = some (36, .aload_n 0, 1, 0, 0, 0, 0, []) := rfl
theorem c227_37 : cdx (mC m227) 37 = some (37, .bipush 40, 2, 0, 0, 0, 0, []) := rfl
theorem c227_39 : cdx (mC m227) 39 = some (39, .invokevirtual 378, 3, 222, 1, 0, 6169, [(10, 0)]) := rfl
theorem c227_42 : cdx (mC m227) 42 = some (42, .aload_n 0, 1, 0, 0, 0, 0, []) := rfl
theorem c227_43 : cdx (mC m227) 43 = some (43, .iload_n 1, 1, 1, 0, 0, 0, []) := rfl
theorem c227_44 : cdx (mC m227) 44 = some (44, .iload_n 2, 1, 2, 0, 0, 0, []) := rfl
theorem c227_45 : cdx (mC m227) 45 = some (45, .invokevirtual 396, 3, 228, 2, 0, 6193, [(10, 0)]) := rfl
theorem c227_48 : cdx (mC m227) 48 = some (48, .istore_n 3, 1, 3, 0, 0, 0, []) := rfl
theorem c227_49 : cdx (mC m227) 49 = some (49, .iload_n 3, 1, 3, 0, 0, 0, []) := rfl
theorem c227_50 : cdx (mC m227) 50 = some (50, .aload_n 0, 1, 0, 0, 0, 0, []) := rfl
theorem c227_51 : cdx (mC m227) 51 = some (51, .iload_n 1, 1, 1, 0, 0, 0, []) := rfl
theorem c227_52 : cdx (mC m227) 52 = some (52, .iconst 1, 1, 0, 0, 0, 0, []) := rfl
theorem c227_53 : cdx (mC m227) 53 = some (53, .invokevirtual 393, 3, 224, 2, 0, 6177, [(10, 0)]) := rfl
theorem c227_56 : cdx (mC m227) 56 = some (56, .iadd, 1, 0, 0, 0, 0, []) := rfl
theorem c227_57 : cdx (mC m227) 57 = some (57, .ireturn, 1, 0, 0, 0, 0, []) := rfl
theorem c227_58 : cdx (mC m227) 58 = some (58, .aload_n 0, 1, 0, 0, 0, 0, []) := rfl
theorem c227_59 : cdx (mC m227) 59 = some (59, .bipush 60, 2, 0, 0, 0, 0, []) := rfl
theorem c227_61 : cdx (mC m227) 61 = some (61, .invokevirtual 378, 3, 222, 1, 0, 6169, [(10, 0)]) := rfl
theorem c227_64 : cdx (mC m227) 64 = some (64, .aload_n 0, 1, 0, 0, 0, 0, []) := rfl
theorem c227_65 : cdx (mC m227) 65 = some (65, .iload_n 1, 1, 1, 0, 0, 0, []) := rfl
theorem c227_66 : cdx (mC m227) 66 = some (66, .iload_n 2, 1, 2, 0, 0, 0, []) := rfl
theorem c227_67 : cdx (mC m227) 67 = some (67, .iload_n 1, 1, 1, 0, 0, 0, []) := rfl
theorem c227_68 : cdx (mC m227) 68 = some (68, .isub, 1, 0, 0, 0, 0, []) := rfl
theorem c227_69 : cdx (mC m227) 69 = some (69, .invokevirtual 396, 3, 228, 2, 0, 6193, [(10, 0)]) := rfl
theorem c227_72 : cdx (mC m227) 72 = some (72, .ireturn, 1, 0, 0, 0, 0, []) := rfl
theorem c227_73 : cdx (mC m227) 73 = some (73, .aload_n 0, 1, 0, 0, 0, 0, []) := rfl
theorem c227_74 : cdx (mC m227) 74 = some (74, .iload_n 1, 1, 1, 0, 0, 0, []) := rfl
theorem c227_75 : cdx (mC m227) 75 = some (75, .iload_n 2, 1, 2, 0, 0, 0, []) := rfl
theorem c227_76 : cdx (mC m227) 76 = some (76, .invokevirtual 396, 3, 228, 2, 0, 6193, [(10, 0)]) := rfl
theorem c227_79 : cdx (mC m227) 79 = some (79, .ireturn, 1, 0, 0, 0, 0, []) := rfl
def lv227 : List (Nat × List Nat) := [(0, [0, 1, 2]), (1, [0, 1, 2]), (4, [0, 1, 2]), (5, [0, 1, 2]), (6, [0, 1, 2]), (36, [0, 1, 2]), (37, [0, 1, 2]), (39, [0, 1, 2]), (42, [0, 1, 2]), (43, [0, 1, 2]), (44, [0, 1, 2]), (45, [0, 1]), (48, [0, 1]), (49, [0, 1, 3]), (50, [0, 1]), (51, [1]), (58, [0, 1, 2]), (59, [0, 1, 2]), (61, [0, 1, 2]), (64, [0, 1, 2]), (65, [1, 2]), (66, [1, 2]), (67, [1]), (73, [0, 1, 2]), (74, [1, 2]), (75, [2])]
theorem lvok227 : lvOk (mC m227) lv227 = true := by decide +kernel
theorem b227_0 {X : Nat × (Nat → Int32)} {d : Nat} {I : Nat → Nat → Int32} {L : Nat → Nat → Int64} {Q : Option Value → XW → Prop} {x1 : Int32} {x2 : Int32}  : wp X (d + 1) m227 0 [some (.ref 124), some (.int x1), some (.int x2), none] [] (K0, R0, I, L) Q ↔ (inA x1 5 = true ∧ (if (I 125 (Int32.toNatClampNeg x1)) = 3 then wp X d m222 0 [some (.ref 124), some (.int 40)] [] (K0, R0, I, L) (fun r w1 => wp X (d + 1) m227 42 [some (.ref 124), some (.int x1), some (.int x2), none] (r.toList ++ []) w1 Q) else (if (I 125 (Int32.toNatClampNeg x1)) = 4 then wp X d m228 0 [some (.ref 124), some (.int x1), some (.int x2)] [] (K0, R0, I, L) (fun r w1 => wp X (d + 1) m227 79 [none, none, none, none] (r.toList ++ []) w1 Q) else (if (I 125 (Int32.toNatClampNeg x1)) = 5 then wp X d m222 0 [some (.ref 124), some (.int 60)] [] (K0, R0, I, L) (fun r w1 => wp X (d + 1) m227 64 [some (.ref 124), some (.int x1), some (.int x2), none] (r.toList ++ []) w1 Q) else (if (I 125 (Int32.toNatClampNeg x1)) = 6 then wp X d m222 0 [some (.ref 124), some (.int 40)] [] (K0, R0, I, L) (fun r w1 => wp X (d + 1) m227 42 [some (.ref 124), some (.int x1), some (.int x2), none] (r.toList ++ []) w1 Q) else wp X d m228 0 [some (.ref 124), some (.int x1), some (.int x2)] [] (K0, R0, I, L) (fun r w1 => wp X (d + 1) m227 79 [none, none, none, none] (r.toList ++ []) w1 Q)))))) := (w_aload_n (pc' := 1) c227_0 rfl rfl).trans ((w_getR (pc' := 4) (q := 125) c227_1 kd_124 (by decide) rfl rd_124_2 rfl).trans ((w_iload_n (pc' := 5) c227_4 rfl rfl).trans ((w_ialdv (pc' := 6) (v := (I 125 (Int32.toNatClampNeg x1))) c227_5 kd_125 (rfl) rfl).trans (and_congr_right (fun _ => (w_tswitch c227_6).trans ((w_swcons (v := 3) rfl).trans (ite_iff ((w_aload_n (pc' := 37) c227_36 rfl rfl).trans ((w_bipush (pc' := 39) (v := 40) c227_37 rfl rfl).trans ((w_callv (pc' := 42) c227_39 mt222 rfl (Nat.le_of_ble_eq_true rfl) rfl kd_124 rfl rfl (Nat.le_of_ble_eq_true rfl) rfl rfl)))) ((w_swcons (v := 4) rfl).trans (ite_iff ((w_aload_n (pc' := 74) c227_73 rfl rfl).trans ((w_iload_n (pc' := 75) c227_74 rfl rfl).trans ((w_iload_n (pc' := 76) c227_75 rfl rfl).trans ((w_callv (pc' := 79) c227_76 mt228 rfl (Nat.le_of_ble_eq_true rfl) rfl kd_124 rfl rfl (Nat.le_of_ble_eq_true rfl) rfl rfl).trans (wp_congr (fun r w1 => wp_msk lvok227 rfl)))))) ((w_swcons (v := 5) rfl).trans (ite_iff ((w_aload_n (pc' := 59) c227_58 rfl rfl).trans ((w_bipush (pc' := 61) (v := 60) c227_59 rfl rfl).trans ((w_callv (pc' := 64) c227_61 mt222 rfl (Nat.le_of_ble_eq_true rfl) rfl kd_124 rfl rfl (Nat.le_of_ble_eq_true rfl) rfl rfl)))) ((w_swcons (v := 6) rfl).trans (ite_iff ((w_aload_n (pc' := 37) c227_36 rfl rfl).trans ((w_bipush (pc' := 39) (v := 40) c227_37 rfl rfl).trans ((w_callv (pc' := 42) c227_39 mt222 rfl (Nat.le_of_ble_eq_true rfl) rfl kd_124 rfl rfl (Nat.le_of_ble_eq_true rfl) rfl rfl)))) ((w_swnil).trans ((w_aload_n (pc' := 74) c227_73 rfl rfl).trans ((w_iload_n (pc' := 75) c227_74 rfl rfl).trans ((w_iload_n (pc' := 76) c227_75 rfl rfl).trans ((w_callv (pc' := 79) c227_76 mt228 rfl (Nat.le_of_ble_eq_true rfl) rfl kd_124 rfl rfl (Nat.le_of_ble_eq_true rfl) rfl rfl).trans (wp_congr (fun r w1 => wp_msk lvok227 rfl))))))))))))))))))))
theorem b227_42 {X : Nat × (Nat → Int32)} {d : Nat} {I : Nat → Nat → Int32} {L : Nat → Nat → Int64} {Q : Option Value → XW → Prop} {x1 : Int32} {x2 : Int32}  : wp X (d + 1) m227 42 [some (.ref 124), some (.int x1), some (.int x2), none] [] (K0, R0, I, L) Q ↔ wp X d m228 0 [some (.ref 124), some (.int x1), some (.int x2)] [] (K0, R0, I, L) (fun r w1 => wp X (d + 1) m227 48 [some (.ref 124), some (.int x1), none, none] (r.toList ++ []) w1 Q) := (w_aload_n (pc' := 43) c227_42 rfl rfl).trans ((w_iload_n (pc' := 44) c227_43 rfl rfl).trans ((w_iload_n (pc' := 45) c227_44 rfl rfl).trans ((w_callv (pc' := 48) c227_45 mt228 rfl (Nat.le_of_ble_eq_true rfl) rfl kd_124 rfl rfl (Nat.le_of_ble_eq_true rfl) rfl rfl).trans (wp_congr (fun r w1 => wp_msk lvok227 rfl)))))
theorem b227_79 {X : Nat × (Nat → Int32)} {d : Nat} {I : Nat → Nat → Int32} {L : Nat → Nat → Int64} {Q : Option Value → XW → Prop} {s0 : Int32}  : wp X d m227 79 [none, none, none, none] [(.int s0)] (K0, R0, I, L) Q ↔ Q (some (.int s0)) (K0, R0, I, L) := w_iret c227_79 rfl
theorem b227_64 {X : Nat × (Nat → Int32)} {d : Nat} {I : Nat → Nat → Int32} {L : Nat → Nat → Int64} {Q : Option Value → XW → Prop} {x1 : Int32} {x2 : Int32}  : wp X (d + 1) m227 64 [some (.ref 124), some (.int x1), some (.int x2), none] [] (K0, R0, I, L) Q ↔ wp X d m228 0 [some (.ref 124), some (.int x1), some (.int (x2 - x1))] [] (K0, R0, I, L) (fun r w1 => wp X (d + 1) m227 72 [none, none, none, none] (r.toList ++ []) w1 Q) := (w_aload_n (pc' := 65) c227_64 rfl rfl).trans ((w_iload_n (pc' := 66) c227_65 rfl rfl).trans ((w_iload_n (pc' := 67) c227_66 rfl rfl).trans ((w_iload_n (pc' := 68) c227_67 rfl rfl).trans ((w_isub (pc' := 69) c227_68 rfl).trans ((w_callv (pc' := 72) c227_69 mt228 rfl (Nat.le_of_ble_eq_true rfl) rfl kd_124 rfl rfl (Nat.le_of_ble_eq_true rfl) rfl rfl).trans (wp_congr (fun r w1 => wp_msk lvok227 rfl)))))))
theorem b227_48 {X : Nat × (Nat → Int32)} {d : Nat} {I : Nat → Nat → Int32} {L : Nat → Nat → Int64} {Q : Option Value → XW → Prop} {x1 : Int32} {s0 : Int32}  : wp X (d + 1) m227 48 [some (.ref 124), some (.int x1), none, none] [(.int s0)] (K0, R0, I, L) Q ↔ wp X d m224 0 [some (.ref 124), some (.int x1), some (.int 1), none] [] (K0, R0, I, L) (fun r w1 => wp X (d + 1) m227 56 [none, none, none, none] (r.toList ++ [(.int s0)]) w1 Q) := (w_istore_n (pc' := 49) (ls' := [some (.ref 124), some (.int x1), none, some (.int s0)]) c227_48 (Nat.le_of_ble_eq_true rfl) rfl rfl).trans ((w_iload_n (pc' := 50) c227_49 rfl rfl).trans ((w_aload_n (pc' := 51) c227_50 rfl rfl).trans ((w_iload_n (pc' := 52) c227_51 rfl rfl).trans ((w_iconst (pc' := 53) (v := 1) c227_52 rfl rfl).trans ((w_callv (pc' := 56) c227_53 mt224 rfl (Nat.le_of_ble_eq_true rfl) rfl kd_124 rfl rfl (Nat.le_of_ble_eq_true rfl) rfl rfl).trans (wp_congr (fun r w1 => wp_msk lvok227 rfl)))))))
theorem b227_72 {X : Nat × (Nat → Int32)} {d : Nat} {I : Nat → Nat → Int32} {L : Nat → Nat → Int64} {Q : Option Value → XW → Prop} {s0 : Int32}  : wp X d m227 72 [none, none, none, none] [(.int s0)] (K0, R0, I, L) Q ↔ Q (some (.int s0)) (K0, R0, I, L) := w_iret c227_72 rfl
theorem b227_56 {X : Nat × (Nat → Int32)} {d : Nat} {I : Nat → Nat → Int32} {L : Nat → Nat → Int64} {Q : Option Value → XW → Prop} {s0 : Int32} {s1 : Int32}  : wp X d m227 56 [none, none, none, none] [(.int s1), (.int s0)] (K0, R0, I, L) Q ↔ Q (some (.int (s0 + s1))) (K0, R0, I, L) := (w_iadd (pc' := 57) c227_56 rfl).trans (w_iret c227_57 rfl)
-- LeavesObjectModel.cupTells(II)I
theorem c228_0 : cdx (mC m228) 0 = some (0, .aload_n 0, 1, 0, 0, 0, 0, []) := rfl
theorem c228_1 : cdx (mC m228) 1 = some (1, .bipush 12, 2, 0, 0, 0, 0, []) := rfl
theorem c228_3 : cdx (mC m228) 3 = some (3, .invokevirtual 378, 3, 222, 1, 0, 6169, [(10, 0)]) := rfl
theorem c228_6 : cdx (mC m228) 6 = some (6, .aload_n 0, 1, 0, 0, 0, 0, []) := rfl
theorem c228_7 : cdx (mC m228) 7 = some (7, .iload_n 1, 1, 1, 0, 0, 0, []) := rfl
theorem c228_8 : cdx (mC m228) 8 = some (8, .iload_n 2, 1, 2, 0, 0, 0, []) := rfl
theorem c228_9 : cdx (mC m228) 9 = some (9, .invokevirtual 393, 3, 224, 2, 0, 6177, [(10, 0)]) := rfl
theorem c228_12 : cdx (mC m228) 12 = some (12, .iconst 2, 1, 0, 0, 0, 0, []) := rfl
theorem c228_13 : cdx (mC m228) 13 = some (13, .imul, 1, 0, 0, 0, 0, []) := rfl
theorem c228_14 : cdx (mC m228) 14 = some (14, .ireturn, 1, 0, 0, 0, 0, []) := rfl
def lv228 : List (Nat × List Nat) := [(0, [0, 1, 2]), (1, [0, 1, 2]), (3, [0, 1, 2]), (6, [0, 1, 2]), (7, [1, 2]), (8, [2])]
theorem lvok228 : lvOk (mC m228) lv228 = true := by decide +kernel
theorem b228_0 {X : Nat × (Nat → Int32)} {d : Nat} {I : Nat → Nat → Int32} {L : Nat → Nat → Int64} {Q : Option Value → XW → Prop} {x1 : Int32} {x2 : Int32}  : wp X (d + 1) m228 0 [some (.ref 124), some (.int x1), some (.int x2)] [] (K0, R0, I, L) Q ↔ wp X d m222 0 [some (.ref 124), some (.int 12)] [] (K0, R0, I, L) (fun r w1 => wp X (d + 1) m228 6 [some (.ref 124), some (.int x1), some (.int x2)] (r.toList ++ []) w1 Q) := (w_aload_n (pc' := 1) c228_0 rfl rfl).trans ((w_bipush (pc' := 3) (v := 12) c228_1 rfl rfl).trans ((w_callv (pc' := 6) c228_3 mt222 rfl (Nat.le_of_ble_eq_true rfl) rfl kd_124 rfl rfl (Nat.le_of_ble_eq_true rfl) rfl rfl)))
theorem b228_6 {X : Nat × (Nat → Int32)} {d : Nat} {I : Nat → Nat → Int32} {L : Nat → Nat → Int64} {Q : Option Value → XW → Prop} {x1 : Int32} {x2 : Int32}  : wp X (d + 1) m228 6 [some (.ref 124), some (.int x1), some (.int x2)] [] (K0, R0, I, L) Q ↔ wp X d m224 0 [some (.ref 124), some (.int x1), some (.int x2), none] [] (K0, R0, I, L) (fun r w1 => wp X (d + 1) m228 12 [none, none, none] (r.toList ++ []) w1 Q) := (w_aload_n (pc' := 7) c228_6 rfl rfl).trans ((w_iload_n (pc' := 8) c228_7 rfl rfl).trans ((w_iload_n (pc' := 9) c228_8 rfl rfl).trans ((w_callv (pc' := 12) c228_9 mt224 rfl (Nat.le_of_ble_eq_true rfl) rfl kd_124 rfl rfl (Nat.le_of_ble_eq_true rfl) rfl rfl).trans (wp_congr (fun r w1 => wp_msk lvok228 rfl)))))
theorem b228_12 {X : Nat × (Nat → Int32)} {d : Nat} {I : Nat → Nat → Int32} {L : Nat → Nat → Int64} {Q : Option Value → XW → Prop} {s0 : Int32}  : wp X d m228 12 [none, none, none] [(.int s0)] (K0, R0, I, L) Q ↔ Q (some (.int (s0 * 2))) (K0, R0, I, L) := (w_iconst (pc' := 13) (v := 2) c228_12 rfl rfl).trans ((w_imul (pc' := 14) c228_13 rfl).trans (w_iret c228_14 rfl))
-- LeavesObjectModel.trace(I)I
theorem c229_0 : cdx (mC m229) 0 = some (0, .aload_n 0, 1, 0, 0, 0, 0, []) := rfl
theorem c229_1 : cdx (mC m229) 1 = some (1, .iload_n 1, 1, 1, 0, 0, 0, []) := rfl
theorem c229_2 : cdx (mC m229) 2 = some (2, .iconst 0, 1, 0, 0, 0, 0, []) := rfl
theorem c229_3 : cdx (mC m229) 3 = some (3, .bipush 19, 2, 0, 0, 0, 0, []) := rfl
theorem c229_5 : cdx (mC m229) 5 = some (5, .invokevirtual 213, 3, 142, 3, 0, 5087, [(10, 0)]) := rfl
theorem c229_8 : cdx (mC m229) 8 = some (8, .ifCond .eq 20, 3, 28, 0, 0, 0, []) := rfl
theorem c229_11 : cdx (mC m229) 11 = some (11, .iload_n 1, 1, 1, 0, 0, 0, []) := rfl
theorem c229_12 : cdx (mC m229) 12 = some (12, .aload_n 0, 1, 0, 0, 0, 0, []) := rfl
theorem c229_13 : cdx (mC m229) 13 = some (13, .getfield 190, 3, 10, 59, 0, 4185, []) := rfl
theorem c229_16 : cdx (mC m229) 16 = some (16, .if_icmp .ge 12, 3, 28, 0, 0, 0, []) := rfl
theorem c229_19 : cdx (mC m229) 19 = some (19, .aload_n 0, 1, 0, 0, 0, 0, []) := rfl
theorem c229_20 : cdx (mC m229) 20 = some (20, .getfield 193, 3, 10, 60, 0, 4186, []) := rfl
theorem c229_23 : cdx (mC m229) 23 = some (23, .iload_n 1, 1, 1, 0, 0, 0, []) := rfl
theorem c229_24 : cdx (mC m229) 24 = some (24, .iaload, 1, 0, 0, 0, 0, []) := rfl
theorem c229_25 : cdx (mC m229) 25 = some (25, .goto 4, 3, 29, 0, 0, 0, []) := rfl
theorem c229_28 : cdx (mC m229) 28 = some (28, .iconst (-1), 1, 0, 0, 0, 0, []) := rfl
theorem c229_29 : cdx (mC m229) 29 = some (29, .ireturn, 1, 0, 0, 0, 0, []) := rfl
theorem b229_0 {X : Nat × (Nat → Int32)} {d : Nat} {I : Nat → Nat → Int32} {L : Nat → Nat → Int64} {Q : Option Value → XW → Prop} {x1 : Int32}  : wp X (d + 1) m229 0 [some (.ref 124), some (.int x1)] [] (K0, R0, I, L) Q ↔ wp X d m142 0 [some (.ref 124), some (.int x1), some (.int 0), some (.int 19)] [] (K0, R0, I, L) (fun r w1 => wp X (d + 1) m229 8 [some (.ref 124), some (.int x1)] (r.toList ++ []) w1 Q) := (w_aload_n (pc' := 1) c229_0 rfl rfl).trans ((w_iload_n (pc' := 2) c229_1 rfl rfl).trans ((w_iconst (pc' := 3) (v := 0) c229_2 rfl rfl).trans ((w_bipush (pc' := 5) (v := 19) c229_3 rfl rfl).trans ((w_callv (pc' := 8) c229_5 mt142 rfl (Nat.le_of_ble_eq_true rfl) rfl kd_124 rfl rfl (Nat.le_of_ble_eq_true rfl) rfl rfl)))))
theorem b229_8 {X : Nat × (Nat → Int32)} {d : Nat} {I : Nat → Nat → Int32} {L : Nat → Nat → Int64} {Q : Option Value → XW → Prop} {x1 : Int32} {s0 : Int32}  : wp X d m229 8 [some (.ref 124), some (.int x1)] [(.int s0)] (K0, R0, I, L) Q ↔ (if s0 = 0 then Q (some (.int (-1))) (K0, R0, I, L) else (if x1 < (I 124 59) then (inA x1 20 = true ∧ Q (some (.int (I 162 (Int32.toNatClampNeg x1)))) (K0, R0, I, L)) else Q (some (.int (-1))) (K0, R0, I, L))) := (w_if_eq (pc' := 11) c229_8 rfl).trans (ite_iff ((w_iconst (pc' := 29) (v := (-1)) c229_28 rfl rfl).trans (w_iret c229_29 rfl)) ((w_iload_n (pc' := 12) c229_11 rfl rfl).trans ((w_aload_n (pc' := 13) c229_12 rfl rfl).trans ((w_getIv (pc' := 16) (v := (I 124 59)) c229_13 kd_124 (by decide) rfl (rfl) rfl).trans ((w_icmp_ge (pc' := 19) c229_16 rfl).trans (ite_iff ((w_aload_n (pc' := 20) c229_19 rfl rfl).trans ((w_getR (pc' := 23) (q := 162) c229_20 kd_124 (by decide) rfl rd_124_60 rfl).trans ((w_iload_n (pc' := 24) c229_23 rfl rfl).trans ((w_ialdv (pc' := 25) (v := (I 162 (Int32.toNatClampNeg x1))) c229_24 kd_162 (rfl) rfl).trans (and_congr_right (fun _ => (w_goto c229_25).trans (w_iret c229_29 rfl))))))) ((w_iconst (pc' := 29) (v := (-1)) c229_28 rfl rfl).trans (w_iret c229_29 rfl))))))))
-- LeavesObjectModel.taken(II)I
theorem c230_0 : cdx (mC m230) 0 = some (0, .aload_n 0, 1, 0, 0, 0, 0, []) := rfl
theorem c230_1 : cdx (mC m230) 1 = some (1, .iload_n 2, 1, 2, 0, 0, 0, []) := rfl
theorem c230_2 : cdx (mC m230) 2 = some (2, .iconst 0, 1, 0, 0, 0, 0, []) := rfl
theorem c230_3 : cdx (mC m230) 3 = some (3, .bipush 6, 2, 0, 0, 0, 0, []) := rfl
theorem c230_5 : cdx (mC m230) 5 = some (5, .invokevirtual 213, 3, 142, 3, 0, 5087, [(10, 0)]) := rfl
theorem c230_8 : cdx (mC m230) 8 = some (8, .ifCond .ne 6, 3, 14, 0, 0, 0, []) := rfl
theorem c230_11 : cdx (mC m230) 11 = some (11, .bipush (-2), 2, 0, 0, 0, 0, []) := rfl
theorem c230_13 : cdx (mC m230) 13 = some (13, .ireturn, 1, 0, 0, 0, 0, []) := rfl
theorem c230_14 : cdx (mC m230) 14 = some (14, .aload_n 0, 1, 0, 0, 0, 0, []) := rfl
theorem c230_15 : cdx (mC m230) 15 = some (15, .iload_n 1, 1, 1, 0, 0, 0, []) := rfl
theorem c230_16 : cdx (mC m230) 16 = some (16, .invokevirtual 221, 3, 145, 1, 0, 5099, [(10, 0)]) := rfl
theorem c230_19 : cdx (mC m230) 19 = some (19, .ifCond .ne 6, 3, 25, 0, 0, 0, []) := rfl
theorem c230_22 : cdx (mC m230) 22 = some (22, .bipush (-11), 2, 0, 0, 0, 0, []) := rfl
theorem c230_24 : cdx (mC m230) 24 = some (24, .ireturn, 1, 0, 0, 0, 0, []) := rfl
theorem c230_25 : cdx (mC m230) 25 = some (25, .aload_n 0, 1, 0, 0, 0, 0, []) := rfl
theorem c230_26 : cdx (mC m230) 26 = some (26, .getfield 16, 3, 10, 2, 0, 4128, []) := rfl
theorem c230_29 : cdx (mC m230) 29 = some (29, .iload_n 1, 1, 1, 0, 0, 0, []) := rfl
theorem c230_30 : cdx (mC m230) 30 = some (30, .iaload, 1, 0, 0, 0, 0, []) := rfl
theorem c230_31 : cdx (mC m230) 31 = some (31, .istore_n 3, 1, 3, 0, 0, 0, []) := rfl
theorem c230_32 : cdx (mC m230) 32 = some (32, .iload_n 2, 1, 2, 0, 0, 0, []) := rfl
theorem c230_33 : cdx (mC m230) 33 = some (33, .ifCond .eq 39, 3, 72, 0, 0, 0, []) := rfl
theorem c230_36 : cdx (mC m230) 36 = some (36, .iload_n 3, 1, 3, 0, 0, 0, []) := rfl
theorem c230_37 : cdx (mC m230) 37 = some (37, .iload_n 2, 1, 2, 0, 0, 0, []) := rfl
theorem c230_38 : cdx (mC m230) 38 = some (38, .if_icmp .eq 34, 3, 72, 0, 0, 0, []) := rfl
theorem c230_41 : cdx (mC m230) 41 = some (41, .iload_n 2, 1, 2, 0, 0, 0, []) := rfl
theorem c230_42 : cdx (mC m230) 42 = some (42, .iconst 1, 1, 0, 0, 0, 0, []) := rfl
theorem c230_43 : cdx (mC m230) 43 = some (43, .if_icmp .ne 8, 3, 51, 0, 0, 0, []) := rfl
theorem c230_46 : cdx (mC m230) 46 = some (46, .iload_n 3, 1, 3, 0, 0, 0, []) := rfl
theorem c230_47 : cdx (mC m230) 47 = some (47, .iconst 4, 1, 0, 0, 0, 0, []) := rfl
theorem c230_48 : cdx (mC m230) 48 = some (48, .if_icmp .eq 24, 3, 72, 0, 0, 0, []) := rfl
theorem c230_51 : cdx (mC m230) 51 = some (51, .iload_n 2, 1, 2, 0, 0, 0, []) := rfl
theorem c230_52 : cdx (mC m230) 52 = some (52, .iconst 2, 1, 0, 0, 0, 0, []) := rfl
theorem c230_53 : cdx (mC m230) 53 = some (53, .if_icmp .ne 8, 3, 61, 0, 0, 0, []) := rfl
theorem c230_56 : cdx (mC m230) 56 = some (56, .iload_n 3, 1, 3, 0, 0, 0, []) := rfl
theorem c230_57 : cdx (mC m230) 57 = some (57, .iconst 5, 1, 0, 0, 0, 0, []) := rfl
theorem c230_58 : cdx (mC m230) 58 = some (58, .if_icmp .eq 14, 3, 72, 0, 0, 0, []) := rfl
theorem c230_61 : cdx (mC m230) 61 = some (61, .iload_n 2, 1, 2, 0, 0, 0, []) := rfl
theorem c230_62 : cdx (mC m230) 62 = some (62, .iconst 3, 1, 0, 0, 0, 0, []) := rfl
theorem c230_63 : cdx (mC m230) 63 = some (63, .if_icmp .ne 13, 3, 76, 0, 0, 0, []) := rfl
theorem c230_66 : cdx (mC m230) 66 = some (66, .iload_n 3, 1, 3, 0, 0, 0, []) := rfl
theorem c230_67 : cdx (mC m230) 67 = some (67, .bipush 6, 2, 0, 0, 0, 0, []) := rfl
theorem c230_69 : cdx (mC m230) 69 = some (69, .if_icmp .ne 7, 3, 76, 0, 0, 0, []) := rfl
theorem c230_72 : cdx (mC m230) 72 = some (72, .iload_n 3, 1, 3, 0, 0, 0, []) := rfl
theorem c230_73 : cdx (mC m230) 73 = some (73, .goto 5, 3, 78, 0, 0, 0, []) := rfl
theorem c230_76 : cdx (mC m230) 76 = some (76, .bipush (-12), 2, 0, 0, 0, 0, []) := rfl
theorem c230_78 : cdx (mC m230) 78 = some (78, .ireturn, 1, 0, 0, 0, 0, []) := rfl
def lv230 : List (Nat × List Nat) := [(0, [0, 1, 2]), (1, [0, 1, 2]), (2, [0, 1, 2]), (3, [0, 1, 2]), (5, [0, 1, 2]), (8, [0, 1, 2]), (14, [0, 1, 2]), (15, [0, 1, 2]), (16, [0, 1, 2]), (19, [0, 1, 2]), (25, [0, 1, 2]), (26, [1, 2]), (29, [1, 2]), (30, [2]), (31, [2]), (32, [2, 3]), (33, [2, 3]), (36, [2, 3]), (37, [2, 3]), (38, [2, 3]), (41, [2, 3]), (42, [2, 3]), (43, [2, 3]), (46, [2, 3]), (47, [2, 3]), (48, [2, 3]), (51, [2, 3]), (52, [2, 3]), (53, [2, 3]), (56, [2, 3]), (57, [2, 3]), (58, [2, 3]), (61, [2, 3]), (62, [3]), (63, [3]), (66, [3]), (67, [3]), (69, [3]), (72, [3])]
theorem lvok230 : lvOk (mC m230) lv230 = true := by decide +kernel
theorem b230_0 {X : Nat × (Nat → Int32)} {d : Nat} {I : Nat → Nat → Int32} {L : Nat → Nat → Int64} {Q : Option Value → XW → Prop} {x1 : Int32} {x2 : Int32}  : wp X (d + 1) m230 0 [some (.ref 124), some (.int x1), some (.int x2), none] [] (K0, R0, I, L) Q ↔ wp X d m142 0 [some (.ref 124), some (.int x2), some (.int 0), some (.int 6)] [] (K0, R0, I, L) (fun r w1 => wp X (d + 1) m230 8 [some (.ref 124), some (.int x1), some (.int x2), none] (r.toList ++ []) w1 Q) := (w_aload_n (pc' := 1) c230_0 rfl rfl).trans ((w_iload_n (pc' := 2) c230_1 rfl rfl).trans ((w_iconst (pc' := 3) (v := 0) c230_2 rfl rfl).trans ((w_bipush (pc' := 5) (v := 6) c230_3 rfl rfl).trans ((w_callv (pc' := 8) c230_5 mt142 rfl (Nat.le_of_ble_eq_true rfl) rfl kd_124 rfl rfl (Nat.le_of_ble_eq_true rfl) rfl rfl)))))
theorem b230_8 {X : Nat × (Nat → Int32)} {d : Nat} {I : Nat → Nat → Int32} {L : Nat → Nat → Int64} {Q : Option Value → XW → Prop} {x1 : Int32} {x2 : Int32} {s0 : Int32}  : wp X (d + 1) m230 8 [some (.ref 124), some (.int x1), some (.int x2), none] [(.int s0)] (K0, R0, I, L) Q ↔ (if s0 = 0 then Q (some (.int (-2))) (K0, R0, I, L) else wp X d m145 0 [some (.ref 124), some (.int x1)] [] (K0, R0, I, L) (fun r w1 => wp X (d + 1) m230 19 [some (.ref 124), some (.int x1), some (.int x2), none] (r.toList ++ []) w1 Q)) := (w_if_ne (pc' := 11) c230_8 rfl).trans (ite_iff ((w_bipush (pc' := 13) (v := (-2)) c230_11 rfl rfl).trans (w_iret c230_13 rfl)) ((w_aload_n (pc' := 15) c230_14 rfl rfl).trans ((w_iload_n (pc' := 16) c230_15 rfl rfl).trans ((w_callv (pc' := 19) c230_16 mt145 rfl (Nat.le_of_ble_eq_true rfl) rfl kd_124 rfl rfl (Nat.le_of_ble_eq_true rfl) rfl rfl)))))
theorem b230_19 {X : Nat × (Nat → Int32)} {d : Nat} {I : Nat → Nat → Int32} {L : Nat → Nat → Int64} {Q : Option Value → XW → Prop} {x1 : Int32} {x2 : Int32} {s0 : Int32}  : wp X d m230 19 [some (.ref 124), some (.int x1), some (.int x2), none] [(.int s0)] (K0, R0, I, L) Q ↔ (if s0 = 0 then Q (some (.int (-11))) (K0, R0, I, L) else (inA x1 5 = true ∧ (if x2 = 0 then Q (some (.int (I 125 (Int32.toNatClampNeg x1)))) (K0, R0, I, L) else (if (I 125 (Int32.toNatClampNeg x1)) = x2 then Q (some (.int (I 125 (Int32.toNatClampNeg x1)))) (K0, R0, I, L) else (if x2 = 1 then (if (I 125 (Int32.toNatClampNeg x1)) = 4 then Q (some (.int (I 125 (Int32.toNatClampNeg x1)))) (K0, R0, I, L) else wp X d m230 51 [none, none, some (.int x2), some (.int (I 125 (Int32.toNatClampNeg x1)))] [] (K0, R0, I, L) Q) else wp X d m230 51 [none, none, some (.int x2), some (.int (I 125 (Int32.toNatClampNeg x1)))] [] (K0, R0, I, L) Q))))) := (w_if_ne (pc' := 22) c230_19 rfl).trans (ite_iff ((w_bipush (pc' := 24) (v := (-11)) c230_22 rfl rfl).trans (w_iret c230_24 rfl)) ((w_aload_n (pc' := 26) c230_25 rfl rfl).trans ((w_getR (pc' := 29) (q := 125) c230_26 kd_124 (by decide) rfl rd_124_2 rfl).trans ((w_iload_n (pc' := 30) c230_29 rfl rfl).trans ((w_ialdv (pc' := 31) (v := (I 125 (Int32.toNatClampNeg x1))) c230_30 kd_125 (rfl) rfl).trans (and_congr_right (fun _ => (w_istore_n (pc' := 32) (ls' := [some (.ref 124), some (.int x1), some (.int x2), some (.int (I 125 (Int32.toNatClampNeg x1)))]) c230_31 (Nat.le_of_ble_eq_true rfl) rfl rfl).trans ((w_iload_n (pc' := 33) c230_32 rfl rfl).trans ((w_if_eq (pc' := 36) c230_33 rfl).trans (ite_iff ((w_iload_n (pc' := 73) c230_72 rfl rfl).trans ((w_goto c230_73).trans (w_iret c230_78 rfl))) ((w_iload_n (pc' := 37) c230_36 rfl rfl).trans ((w_iload_n (pc' := 38) c230_37 rfl rfl).trans ((w_icmp_eq (pc' := 41) c230_38 rfl).trans (ite_iff ((w_iload_n (pc' := 73) c230_72 rfl rfl).trans ((w_goto c230_73).trans (w_iret c230_78 rfl))) ((w_iload_n (pc' := 42) c230_41 rfl rfl).trans ((w_iconst (pc' := 43) (v := 1) c230_42 rfl rfl).trans ((w_icmp_ne (pc' := 46) c230_43 rfl).trans (ite_iff ((w_iload_n (pc' := 47) c230_46 rfl rfl).trans ((w_iconst (pc' := 48) (v := 4) c230_47 rfl rfl).trans ((w_icmp_eq (pc' := 51) c230_48 rfl).trans (ite_iff ((w_iload_n (pc' := 73) c230_72 rfl rfl).trans ((w_goto c230_73).trans (w_iret c230_78 rfl))) ((wp_msk lvok230 rfl)))))) ((wp_msk lvok230 rfl))))))))))))))))))))
theorem b230_51 {X : Nat × (Nat → Int32)} {d : Nat} {I : Nat → Nat → Int32} {L : Nat → Nat → Int64} {Q : Option Value → XW → Prop} {x2 : Int32} {x3 : Int32}  : wp X d m230 51 [none, none, some (.int x2), some (.int x3)] [] (K0, R0, I, L) Q ↔ Q (some (.int (if x2 = 2 then (if x3 = 5 then x3 else (if x2 = 3 then (if x3 = 6 then x3 else (-12)) else (-12))) else (if x2 = 3 then (if x3 = 6 then x3 else (-12)) else (-12))))) (K0, R0, I, L) := (w_iload_n (pc' := 52) c230_51 rfl rfl).trans ((w_iconst (pc' := 53) (v := 2) c230_52 rfl rfl).trans ((w_icmp_ne (pc' := 56) c230_53 rfl).trans ((ite_iff ((w_iload_n (pc' := 57) c230_56 rfl rfl).trans ((w_iconst (pc' := 58) (v := 5) c230_57 rfl rfl).trans ((w_icmp_eq (pc' := 61) c230_58 rfl).trans ((ite_iff ((w_iload_n (pc' := 73) c230_72 rfl rfl).trans ((w_goto c230_73).trans (w_iret c230_78 rfl))) ((w_iload_n (pc' := 62) c230_61 rfl rfl).trans ((w_iconst (pc' := 63) (v := 3) c230_62 rfl rfl).trans ((w_icmp_ne (pc' := 66) c230_63 rfl).trans ((ite_iff ((w_iload_n (pc' := 67) c230_66 rfl rfl).trans ((w_bipush (pc' := 69) (v := 6) c230_67 rfl rfl).trans ((w_icmp_ne (pc' := 72) c230_69 rfl).trans ((ite_iff ((w_iload_n (pc' := 73) c230_72 rfl rfl).trans ((w_goto c230_73).trans (w_iret c230_78 rfl))) ((w_bipush (pc' := 78) (v := (-12)) c230_76 rfl rfl).trans (w_iret c230_78 rfl))).trans (ite_val (fun z => Q (some (.int z)) (K0, R0, I, L))))))) ((w_bipush (pc' := 78) (v := (-12)) c230_76 rfl rfl).trans (w_iret c230_78 rfl))).trans (ite_val (fun z => Q (some (.int z)) (K0, R0, I, L)))))))).trans (ite_val (fun z => Q (some (.int z)) (K0, R0, I, L))))))) ((w_iload_n (pc' := 62) c230_61 rfl rfl).trans ((w_iconst (pc' := 63) (v := 3) c230_62 rfl rfl).trans ((w_icmp_ne (pc' := 66) c230_63 rfl).trans ((ite_iff ((w_iload_n (pc' := 67) c230_66 rfl rfl).trans ((w_bipush (pc' := 69) (v := 6) c230_67 rfl rfl).trans ((w_icmp_ne (pc' := 72) c230_69 rfl).trans ((ite_iff ((w_iload_n (pc' := 73) c230_72 rfl rfl).trans ((w_goto c230_73).trans (w_iret c230_78 rfl))) ((w_bipush (pc' := 78) (v := (-12)) c230_76 rfl rfl).trans (w_iret c230_78 rfl))).trans (ite_val (fun z => Q (some (.int z)) (K0, R0, I, L))))))) ((w_bipush (pc' := 78) (v := (-12)) c230_76 rfl rfl).trans (w_iret c230_78 rfl))).trans (ite_val (fun z => Q (some (.int z)) (K0, R0, I, L)))))))).trans (ite_val (fun z => Q (some (.int z)) (K0, R0, I, L))))))
-- LeavesObjectModel.count(I)I
theorem c231_0 : cdx (mC m231) 0 = some (0, .iload_n 1, 1, 1, 0, 0, 0, []) := rfl
theorem c231_1 : cdx (mC m231) 1 = some (1, .tableswitch 78 0 6 #[43, 48, 53, 58, 63, 68, 73], 43, 79, 0, 0, 0, [(0, 44), (1, 49), (2, 54), (3, 59), (4, 64), (5, 69), (6, 74)]) := rfl
theorem c231_44 : cdx (mC m231) 44 = some (44, .aload_n 0, 1, 0, 0, 0, 0, []) := rfl
theorem c231_45 : cdx (mC m231) 45 = some (45, .getfield 7, 3, 10, 0, 0, 4126, []) := rfl
theorem c231_48 : cdx (mC m231) 48 = some (48, .ireturn, 1, 0, 0, 0, 0, []) := rfl
theorem c231_49 : cdx (mC m231) 49 = some (49, .aload_n 0, 1, 0, 0, 0, 0, []) := rfl
theorem c231_50 : cdx (mC m231) 50 = some (50, .getfield 35, 3, 10, 8, 0, 4134, []) := rfl
theorem c231_53 : cdx (mC m231) 53 = some (53, .ireturn, 1, 0, 0, 0, 0, []) := rfl
theorem c231_54 : cdx (mC m231) 54 = some (54, .aload_n 0, 1, 0, 0, 0, 0, []) := rfl
theorem c231_55 : cdx (mC m231) 55 = some (55, .getfield 105, 3, 10, 31, 0, 4157, []) := rfl
theorem c231_58 : cdx (mC m231) 58 = some (58, .ireturn, 1, 0, 0, 0, 0, []) := rfl
theorem c231_59 : cdx (mC m231) 59 = some (59, .aload_n 0, 1, 0, 0, 0, 0, []) := rfl
theorem c231_60 : cdx (mC m231) 60 = some (60, .getfield 114, 3, 10, 34, 0, 4160, []) := rfl
theorem c231_63 : cdx (mC m231) 63 = some (63, .ireturn, 1, 0, 0, 0, 0, []) := rfl
theorem c231_64 : cdx (mC m231) 64 = some (64, .aload_n 0, 1, 0, 0, 0, 0, []) := rfl
theorem c231_65 : cdx (mC m231) 65 = some (65, .getfield 117, 3, 10, 35, 0, 4161, []) := rfl
theorem c231_68 : cdx (mC m231) 68 = some (68, .ireturn, 1, 0, 0, 0, 0, []) := rfl
theorem c231_69 : cdx (mC m231) 69 = some (69, .aload_n 0, 1, 0, 0, 0, 0, []) := rfl
theorem c231_70 : cdx (mC m231) 70 = some (70, .getfield 41, 3, 10, 10, 0, 4136, []) := rfl
theorem c231_73 : cdx (mC m231) 73 = some (73, .ireturn, 1, 0, 0, 0, 0, []) := rfl
theorem c231_74 : cdx (mC m231) 74 = some (74, .aload_n 0, 1, 0, 0, 0, 0, []) := rfl
theorem c231_75 : cdx (mC m231) 75 = some (75, .getfield 190, 3, 10, 59, 0, 4185, []) := rfl
theorem c231_78 : cdx (mC m231) 78 = some (78, .ireturn, 1, 0, 0, 0, 0, []) := rfl
theorem c231_79 : cdx (mC m231) 79 = some (79, .bipush (-2), 2, 0, 0, 0, 0, []) := rfl
theorem c231_81 : cdx (mC m231) 81 = some (81, .ireturn, 1, 0, 0, 0, 0, []) := rfl
theorem b231_0 {X : Nat × (Nat → Int32)} {d : Nat} {I : Nat → Nat → Int32} {L : Nat → Nat → Int64} {Q : Option Value → XW → Prop} {x1 : Int32}  : wp X d m231 0 [some (.ref 124), some (.int x1)] [] (K0, R0, I, L) Q ↔ Q (some (.int (if x1 = 0 then (I 124 0) else (if x1 = 1 then (I 124 8) else (if x1 = 2 then (I 124 31) else (if x1 = 3 then (I 124 34) else (if x1 = 4 then (I 124 35) else (if x1 = 5 then (I 124 10) else (if x1 = 6 then (I 124 59) else (-2)))))))))) (K0, R0, I, L) := (w_iload_n (pc' := 1) c231_0 rfl rfl).trans ((w_tswitch c231_1).trans ((w_swcons (v := 0) rfl).trans ((ite_iff ((w_aload_n (pc' := 45) c231_44 rfl rfl).trans ((w_getIv (pc' := 48) (v := (I 124 0)) c231_45 kd_124 (by decide) rfl (rfl) rfl).trans (w_iret c231_48 rfl))) ((w_swcons (v := 1) rfl).trans ((ite_iff ((w_aload_n (pc' := 50) c231_49 rfl rfl).trans ((w_getIv (pc' := 53) (v := (I 124 8)) c231_50 kd_124 (by decide) rfl (rfl) rfl).trans (w_iret c231_53 rfl))) ((w_swcons (v := 2) rfl).trans ((ite_iff ((w_aload_n (pc' := 55) c231_54 rfl rfl).trans ((w_getIv (pc' := 58) (v := (I 124 31)) c231_55 kd_124 (by decide) rfl (rfl) rfl).trans (w_iret c231_58 rfl))) ((w_swcons (v := 3) rfl).trans ((ite_iff ((w_aload_n (pc' := 60) c231_59 rfl rfl).trans ((w_getIv (pc' := 63) (v := (I 124 34)) c231_60 kd_124 (by decide) rfl (rfl) rfl).trans (w_iret c231_63 rfl))) ((w_swcons (v := 4) rfl).trans ((ite_iff ((w_aload_n (pc' := 65) c231_64 rfl rfl).trans ((w_getIv (pc' := 68) (v := (I 124 35)) c231_65 kd_124 (by decide) rfl (rfl) rfl).trans (w_iret c231_68 rfl))) ((w_swcons (v := 5) rfl).trans ((ite_iff ((w_aload_n (pc' := 70) c231_69 rfl rfl).trans ((w_getIv (pc' := 73) (v := (I 124 10)) c231_70 kd_124 (by decide) rfl (rfl) rfl).trans (w_iret c231_73 rfl))) ((w_swcons (v := 6) rfl).trans ((ite_iff ((w_aload_n (pc' := 75) c231_74 rfl rfl).trans ((w_getIv (pc' := 78) (v := (I 124 59)) c231_75 kd_124 (by decide) rfl (rfl) rfl).trans (w_iret c231_78 rfl))) ((w_swnil).trans ((w_bipush (pc' := 81) (v := (-2)) c231_79 rfl rfl).trans (w_iret c231_81 rfl)))).trans (ite_val (fun z => Q (some (.int z)) (K0, R0, I, L)))))).trans (ite_val (fun z => Q (some (.int z)) (K0, R0, I, L)))))).trans (ite_val (fun z => Q (some (.int z)) (K0, R0, I, L)))))).trans (ite_val (fun z => Q (some (.int z)) (K0, R0, I, L)))))).trans (ite_val (fun z => Q (some (.int z)) (K0, R0, I, L)))))).trans (ite_val (fun z => Q (some (.int z)) (K0, R0, I, L)))))).trans (ite_val (fun z => Q (some (.int z)) (K0, R0, I, L))))))
-- LeavesObjectModel.tape(III)I
theorem c232_0 : cdx (mC m232) 0 = some (0, .aload_n 0, 1, 0, 0, 0, 0, []) := rfl
theorem c232_1 : cdx (mC m232) 1 = some (1, .iload_n 1, 1, 1, 0, 0, 0, []) := rfl
theorem c232_2 : cdx (mC m232) 2 = some (2, .invokevirtual 375, 3, 217, 1, 0, 6149, [(10, 0)]) := rfl
theorem c232_5 : cdx (mC m232) 5 = some (5, .ifCond .ne 5, 3, 10, 0, 0, 0, []) := rfl
theorem c232_8 : cdx (mC m232) 8 = some (8, .iconst (-1), 1, 0, 0, 0, 0, []) := rfl
theorem c232_9 : cdx (mC m232) 9 = some (9, .ireturn, 1, 0, 0, 0, 0, []) := rfl
theorem c232_10 : cdx (mC m232) 10 = some (10, .aload_n 0, 1, 0, 0, 0, 0, []) := rfl
theorem c232_11 : cdx (mC m232) 11 = some (11, .iload_n 2, 1, 2, 0, 0, 0, []) := rfl
theorem c232_12 : cdx (mC m232) 12 = some (12, .iconst (-1), 1, 0, 0, 0, 0, []) := rfl
theorem c232_13 : cdx (mC m232) 13 = some (13, .iconst 4, 1, 0, 0, 0, 0, []) := rfl
theorem c232_14 : cdx (mC m232) 14 = some (14, .invokevirtual 213, 3, 142, 3, 0, 5087, [(10, 0)]) := rfl
theorem c232_17 : cdx (mC m232) 17 = some (17, .ifCond .eq 13, 3, 30, 0, 0, 0, []) := rfl
theorem c232_20 : cdx (mC m232) 20 = some (20, .iload_n 2, 1, 2, 0, 0, 0, []) := rfl
theorem c232_21 : cdx (mC m232) 21 = some (21, .ifCond .lt 12, 3, 33, 0, 0, 0, []) := rfl
theorem c232_24 : cdx (mC m232) 24 = some (24, .iload_n 3, 1, 3, 0, 0, 0, []) := rfl
theorem c232_25 : cdx (mC m232) 25 = some (25, .bipush 60, 2, 0, 0, 0, 0, []) := rfl
theorem c232_27 : cdx (mC m232) 27 = some (27, .if_icmp .le 6, 3, 33, 0, 0, 0, []) := rfl
theorem c232_30 : cdx (mC m232) 30 = some (30, .bipush (-2), 2, 0, 0, 0, 0, []) := rfl
theorem c232_32 : cdx (mC m232) 32 = some (32, .ireturn, 1, 0, 0, 0, 0, []) := rfl
theorem c232_33 : cdx (mC m232) 33 = some (33, .iload_n 2, 1, 2, 0, 0, 0, []) := rfl
theorem c232_34 : cdx (mC m232) 34 = some (34, .ifCond .lt 10, 3, 44, 0, 0, 0, []) := rfl
theorem c232_37 : cdx (mC m232) 37 = some (37, .iload_n 3, 1, 3, 0, 0, 0, []) := rfl
theorem c232_38 : cdx (mC m232) 38 = some (38, .ifCond .ge 6, 3, 44, 0, 0, 0, []) := rfl
theorem c232_41 : cdx (mC m232) 41 = some (41, .bipush (-14), 2, 0, 0, 0, 0, []) := rfl
theorem c232_43 : cdx (mC m232) 43 = some (43, .ireturn, 1, 0, 0, 0, 0, []) := rfl
theorem c232_44 : cdx (mC m232) 44 = some (44, .aload_n 0, 1, 0, 0, 0, 0, []) := rfl
theorem c232_45 : cdx (mC m232) 45 = some (45, .getfield 196, 3, 10, 61, 0, 4187, []) := rfl
theorem c232_48 : cdx (mC m232) 48 = some (48, .iload_n 1, 1, 1, 0, 0, 0, []) := rfl
theorem c232_49 : cdx (mC m232) 49 = some (49, .iload_n 2, 1, 2, 0, 0, 0, []) := rfl
theorem c232_50 : cdx (mC m232) 50 = some (50, .iastore, 1, 0, 0, 0, 0, []) := rfl
theorem c232_51 : cdx (mC m232) 51 = some (51, .aload_n 0, 1, 0, 0, 0, 0, []) := rfl
theorem c232_52 : cdx (mC m232) 52 = some (52, .getfield 199, 3, 10, 62, 0, 4188, []) := rfl
theorem c232_55 : cdx (mC m232) 55 = some (55, .iload_n 1, 1, 1, 0, 0, 0, []) := rfl
theorem c232_56 : cdx (mC m232) 56 = some (56, .iload_n 2, 1, 2, 0, 0, 0, []) := rfl
theorem c232_57 : cdx (mC m232) 57 = some (57, .ifCond .ge 7, 3, 64, 0, 0, 0, []) := rfl
theorem c232_60 : cdx (mC m232) 60 = some (60, .iconst 0, 1, 0, 0, 0, 0, []) := rfl
theorem c232_61 : cdx (mC m232) 61 = some (61, .goto 4, 3, 65, 0, 0, 0, []) := rfl
theorem c232_64 : cdx (mC m232) 64 = some (64, .iload_n 3, 1, 3, 0, 0, 0, []) := rfl
theorem c232_65 : cdx (mC m232) 65 = some (65, .iastore, 1, 0, 0, 0, 0, []) := rfl
theorem c232_66 : cdx (mC m232) 66 = some (66, .iconst 0, 1, 0, 0, 0, 0, []) := rfl
theorem c232_67 : cdx (mC m232) 67 = some (67, .istore 4, 2, 4, 0, 0, 0, []) := rfl
theorem c232_69 : cdx (mC m232) 69 = some (69, .iload 4, 2, 4, 0, 0, 0, []) := rfl
theorem c232_71 : cdx (mC m232) 71 = some (71, .bipush 60, 2, 0, 0, 0, 0, []) := rfl
theorem c232_73 : cdx (mC m232) 73 = some (73, .if_icmp .ge 22, 3, 95, 0, 0, 0, []) := rfl
theorem c232_76 : cdx (mC m232) 76 = some (76, .aload_n 0, 1, 0, 0, 0, 0, []) := rfl
theorem c232_77 : cdx (mC m232) 77 = some (77, .getfield 202, 3, 10, 63, 0, 4189, []) := rfl
theorem c232_80 : cdx (mC m232) 80 = some (80, .bipush 60, 2, 0, 0, 0, 0, []) := rfl
theorem c232_82 : cdx (mC m232) 82 = some (82, .iload_n 1, 1, 1, 0, 0, 0, []) := rfl
theorem c232_83 : cdx (mC m232) 83 = some (83, .imul, 1, 0, 0, 0, 0, []) := rfl
theorem c232_84 : cdx (mC m232) 84 = some (84, .iload 4, 2, 4, 0, 0, 0, []) := rfl
theorem c232_86 : cdx (mC m232) 86 = some (86, .iadd, 1, 0, 0, 0, 0, []) := rfl
theorem c232_87 : cdx (mC m232) 87 = some (87, .lconst 0, 1, 0, 0, 0, 0, []) := rfl
theorem c232_88 : cdx (mC m232) 88 = some (88, .lastore, 1, 0, 0, 0, 0, []) := rfl
theorem c232_89 : cdx (mC m232) 89 = some (89, .iinc 4 1, 3, 4, 0, 0, 0, []) := rfl
theorem c232_92 : cdx (mC m232) 92 = some (92, .goto (-23), 3, 69, 0, 0, 0, []) := rfl
theorem c232_95 : cdx (mC m232) 95 = some (95, .iconst 1, 1, 0, 0, 0, 0, []) := rfl
theorem c232_96 : cdx (mC m232) 96 = some (96, .ireturn, 1, 0, 0, 0, 0, []) := rfl
def lv232 : List (Nat × List Nat) := [(0, [0, 1, 2, 3]), (1, [0, 1, 2, 3]), (2, [0, 1, 2, 3]), (5, [0, 1, 2, 3]), (10, [0, 1, 2, 3]), (11, [0, 1, 2, 3]), (12, [0, 1, 2, 3]), (13, [0, 1, 2, 3]), (14, [0, 1, 2, 3]), (17, [0, 1, 2, 3]), (20, [0, 1, 2, 3]), (21, [0, 1, 2, 3]), (24, [0, 1, 2, 3]), (25, [0, 1, 2, 3]), (27, [0, 1, 2, 3]), (33, [0, 1, 2, 3]), (34, [0, 1, 2, 3]), (37, [0, 1, 2, 3]), (38, [0, 1, 2, 3]), (44, [0, 1, 2, 3]), (45, [0, 1, 2, 3]), (48, [0, 1, 2, 3]), (49, [0, 1, 2, 3]), (50, [0, 1, 2, 3]), (51, [0, 1, 2, 3]), (52, [0, 1, 2, 3]), (55, [0, 1, 2, 3]), (56, [0, 1, 2, 3]), (57, [0, 1, 3]), (60, [0, 1]), (61, [0, 1]), (64, [0, 1, 3]), (65, [0, 1]), (66, [0, 1]), (67, [0, 1]), (69, [0, 1, 4]), (71, [0, 1, 4]), (73, [0, 1, 4]), (76, [0, 1, 4]), (77, [0, 1, 4]), (80, [0, 1, 4]), (82, [0, 1, 4]), (83, [0, 1, 4]), (84, [0, 1, 4]), (86, [0, 1, 4]), (87, [0, 1, 4]), (88, [0, 1, 4]), (89, [0, 1, 4]), (92, [0, 1, 4])]
theorem lvok232 : lvOk (mC m232) lv232 = true := by decide +kernel
theorem b232_0 {X : Nat × (Nat → Int32)} {d : Nat} {I : Nat → Nat → Int32} {L : Nat → Nat → Int64} {Q : Option Value → XW → Prop} {x1 : Int32} {x2 : Int32} {x3 : Int32}  : wp X (d + 1) m232 0 [some (.ref 124), some (.int x1), some (.int x2), some (.int x3), none] [] (K0, R0, I, L) Q ↔ wp X d m217 0 [some (.ref 124), some (.int x1)] [] (K0, R0, I, L) (fun r w1 => wp X (d + 1) m232 5 [some (.ref 124), some (.int x1), some (.int x2), some (.int x3), none] (r.toList ++ []) w1 Q) := (w_aload_n (pc' := 1) c232_0 rfl rfl).trans ((w_iload_n (pc' := 2) c232_1 rfl rfl).trans ((w_callv (pc' := 5) c232_2 mt217 rfl (Nat.le_of_ble_eq_true rfl) rfl kd_124 rfl rfl (Nat.le_of_ble_eq_true rfl) rfl rfl)))
theorem b232_5 {X : Nat × (Nat → Int32)} {d : Nat} {I : Nat → Nat → Int32} {L : Nat → Nat → Int64} {Q : Option Value → XW → Prop} {x1 : Int32} {x2 : Int32} {x3 : Int32} {s0 : Int32}  : wp X (d + 1) m232 5 [some (.ref 124), some (.int x1), some (.int x2), some (.int x3), none] [(.int s0)] (K0, R0, I, L) Q ↔ (if s0 = 0 then Q (some (.int (-1))) (K0, R0, I, L) else wp X d m142 0 [some (.ref 124), some (.int x2), some (.int (-1)), some (.int 4)] [] (K0, R0, I, L) (fun r w1 => wp X (d + 1) m232 17 [some (.ref 124), some (.int x1), some (.int x2), some (.int x3), none] (r.toList ++ []) w1 Q)) := (w_if_ne (pc' := 8) c232_5 rfl).trans (ite_iff ((w_iconst (pc' := 9) (v := (-1)) c232_8 rfl rfl).trans (w_iret c232_9 rfl)) ((w_aload_n (pc' := 11) c232_10 rfl rfl).trans ((w_iload_n (pc' := 12) c232_11 rfl rfl).trans ((w_iconst (pc' := 13) (v := (-1)) c232_12 rfl rfl).trans ((w_iconst (pc' := 14) (v := 4) c232_13 rfl rfl).trans ((w_callv (pc' := 17) c232_14 mt142 rfl (Nat.le_of_ble_eq_true rfl) rfl kd_124 rfl rfl (Nat.le_of_ble_eq_true rfl) rfl rfl)))))))
theorem b232_17 {X : Nat × (Nat → Int32)} {d : Nat} {I : Nat → Nat → Int32} {L : Nat → Nat → Int64} {Q : Option Value → XW → Prop} {x1 : Int32} {x2 : Int32} {x3 : Int32} {s0 : Int32}  : wp X d m232 17 [some (.ref 124), some (.int x1), some (.int x2), some (.int x3), none] [(.int s0)] (K0, R0, I, L) Q ↔ (if s0 = 0 then Q (some (.int (-2))) (K0, R0, I, L) else (if x2 < 0 then (if x2 < 0 then wp X d m232 44 [some (.ref 124), some (.int x1), some (.int x2), some (.int x3), none] [] (K0, R0, I, L) Q else (if x3 < 0 then Q (some (.int (-14))) (K0, R0, I, L) else wp X d m232 44 [some (.ref 124), some (.int x1), some (.int x2), some (.int x3), none] [] (K0, R0, I, L) Q)) else (if 60 < x3 then Q (some (.int (-2))) (K0, R0, I, L) else (if x2 < 0 then wp X d m232 44 [some (.ref 124), some (.int x1), some (.int x2), some (.int x3), none] [] (K0, R0, I, L) Q else (if x3 < 0 then Q (some (.int (-14))) (K0, R0, I, L) else wp X d m232 44 [some (.ref 124), some (.int x1), some (.int x2), some (.int x3), none] [] (K0, R0, I, L) Q))))) := (w_if_eq (pc' := 20) c232_17 rfl).trans (ite_iff ((w_bipush (pc' := 32) (v := (-2)) c232_30 rfl rfl).trans (w_iret c232_32 rfl)) ((w_iload_n (pc' := 21) c232_20 rfl rfl).trans ((w_if_lt (pc' := 24) c232_21 rfl).trans (ite_iff ((w_iload_n (pc' := 34) c232_33 rfl rfl).trans ((w_if_lt (pc' := 37) c232_34 rfl).trans (ite_iff (Iff.rfl) ((w_iload_n (pc' := 38) c232_37 rfl rfl).trans ((w_if_ge (pc' := 41) c232_38 rfl).trans (ite_iff ((w_bipush (pc' := 43) (v := (-14)) c232_41 rfl rfl).trans (w_iret c232_43 rfl)) (Iff.rfl))))))) ((w_iload_n (pc' := 25) c232_24 rfl rfl).trans ((w_bipush (pc' := 27) (v := 60) c232_25 rfl rfl).trans ((w_icmp_le (pc' := 30) c232_27 rfl).trans (ite_iff ((w_bipush (pc' := 32) (v := (-2)) c232_30 rfl rfl).trans (w_iret c232_32 rfl)) ((w_iload_n (pc' := 34) c232_33 rfl rfl).trans ((w_if_lt (pc' := 37) c232_34 rfl).trans (ite_iff (Iff.rfl) ((w_iload_n (pc' := 38) c232_37 rfl rfl).trans ((w_if_ge (pc' := 41) c232_38 rfl).trans (ite_iff ((w_bipush (pc' := 43) (v := (-14)) c232_41 rfl rfl).trans (w_iret c232_43 rfl)) (Iff.rfl)))))))))))))))
theorem b232_44 {X : Nat × (Nat → Int32)} {d : Nat} {I : Nat → Nat → Int32} {L : Nat → Nat → Int64} {Q : Option Value → XW → Prop} {x1 : Int32} {x2 : Int32} {x3 : Int32}  : wp X d m232 44 [some (.ref 124), some (.int x1), some (.int x2), some (.int x3), none] [] (K0, R0, I, L) Q ↔ (inA x1 6 = true ∧ (if x2 < 0 then (inA x1 6 = true ∧ wp X d m232 69 [some (.ref 124), some (.int x1), none, none, some (.int 0)] [] (K0, R0, (updR (updR I 163 (Int32.toNatClampNeg x1) x2) 164 (Int32.toNatClampNeg x1) 0), L) Q) else (inA x1 6 = true ∧ wp X d m232 69 [some (.ref 124), some (.int x1), none, none, some (.int 0)] [] (K0, R0, (updR (updR I 163 (Int32.toNatClampNeg x1) x2) 164 (Int32.toNatClampNeg x1) x3), L) Q))) := (w_aload_n (pc' := 45) c232_44 rfl rfl).trans ((w_getR (pc' := 48) (q := 163) c232_45 kd_124 (by decide) rfl rd_124_61 rfl).trans ((w_iload_n (pc' := 49) c232_48 rfl rfl).trans ((w_iload_n (pc' := 50) c232_49 rfl rfl).trans ((w_iast (pc' := 51) c232_50 kd_163 rfl).trans (and_congr_right (fun _ => (w_aload_n (pc' := 52) c232_51 rfl rfl).trans ((w_getR (pc' := 55) (q := 164) c232_52 kd_124 (by decide) rfl rd_124_62 rfl).trans ((w_iload_n (pc' := 56) c232_55 rfl rfl).trans ((w_iload_n (pc' := 57) c232_56 rfl rfl).trans ((w_if_ge (pc' := 60) c232_57 rfl).trans (ite_iff ((w_iconst (pc' := 61) (v := 0) c232_60 rfl rfl).trans ((w_goto c232_61).trans ((w_iast (pc' := 66) c232_65 kd_164 rfl).trans (and_congr_right (fun _ => (w_iconst (pc' := 67) (v := 0) c232_66 rfl rfl).trans ((w_istore (pc' := 69) (ls' := [some (.ref 124), some (.int x1), some (.int x2), some (.int x3), some (.int 0)]) c232_67 (Nat.le_of_ble_eq_true rfl) rfl rfl).trans ((wp_msk lvok232 rfl)))))))) ((w_iload_n (pc' := 65) c232_64 rfl rfl).trans ((w_iast (pc' := 66) c232_65 kd_164 rfl).trans (and_congr_right (fun _ => (w_iconst (pc' := 67) (v := 0) c232_66 rfl rfl).trans ((w_istore (pc' := 69) (ls' := [some (.ref 124), some (.int x1), some (.int x2), some (.int x3), some (.int 0)]) c232_67 (Nat.le_of_ble_eq_true rfl) rfl rfl).trans ((wp_msk lvok232 rfl))))))))))))))))))
theorem b232_69 {X : Nat × (Nat → Int32)} {d : Nat} {I : Nat → Nat → Int32} {L : Nat → Nat → Int64} {Q : Option Value → XW → Prop} {x1 : Int32} {x4 : Int32}  : wp X d m232 69 [some (.ref 124), some (.int x1), none, none, some (.int x4)] [] (K0, R0, I, L) Q ↔ (if x4 < 60 then (inA ((60 * x1) + x4) 360 = true ∧ wp X d m232 69 [some (.ref 124), some (.int x1), none, none, some (.int (x4 + 1))] [] (K0, R0, I, (updR L 165 (Int32.toNatClampNeg ((60 * x1) + x4)) 0)) Q) else Q (some (.int 1)) (K0, R0, I, L)) := (w_iload (pc' := 71) c232_69 rfl rfl).trans ((w_bipush (pc' := 73) (v := 60) c232_71 rfl rfl).trans ((w_icmp_ge (pc' := 76) c232_73 rfl).trans (ite_iff ((w_aload_n (pc' := 77) c232_76 rfl rfl).trans ((w_getR (pc' := 80) (q := 165) c232_77 kd_124 (by decide) rfl rd_124_63 rfl).trans ((w_bipush (pc' := 82) (v := 60) c232_80 rfl rfl).trans ((w_iload_n (pc' := 83) c232_82 rfl rfl).trans ((w_imul (pc' := 84) c232_83 rfl).trans ((w_iload (pc' := 86) c232_84 rfl rfl).trans ((w_iadd (pc' := 87) c232_86 rfl).trans ((w_lconst (pc' := 88) (v := 0) c232_87 rfl rfl).trans ((w_last (pc' := 89) c232_88 kd_165 rfl).trans (and_congr_right (fun _ => (w_iinc (pc' := 92) (v := (x4 + 1)) (ls' := [some (.ref 124), some (.int x1), none, none, some (.int (x4 + 1))]) c232_89 (Nat.le_of_ble_eq_true rfl) rfl rfl rfl rfl).trans ((w_goto c232_92))))))))))))) ((w_iconst (pc' := 96) (v := 1) c232_95 rfl rfl).trans (w_iret c232_96 rfl)))))
-- LeavesObjectModel.item(IIJ)I
theorem c233_0 : cdx (mC m233) 0 = some (0, .aload_n 0, 1, 0, 0, 0, 0, []) := rfl
theorem c233_1 : cdx (mC m233) 1 = some (1, .iload_n 1, 1, 1, 0, 0, 0, []) := rfl
theorem c233_2 : cdx (mC m233) 2 = some (2, .invokevirtual 375, 3, 217, 1, 0, 6149, [(10, 0)]) := rfl
theorem c233_5 : cdx (mC m233) 5 = some (5, .ifCond .ne 5, 3, 10, 0, 0, 0, []) := rfl
theorem c233_8 : cdx (mC m233) 8 = some (8, .iconst (-1), 1, 0, 0, 0, 0, []) := rfl
theorem c233_9 : cdx (mC m233) 9 = some (9, .ireturn, 1, 0, 0, 0, 0, []) := rfl
theorem c233_10 : cdx (mC m233) 10 = some (10, .aload_n 0, 1, 0, 0, 0, 0, []) := rfl
theorem c233_11 : cdx (mC m233) 11 = some (11, .getfield 196, 3, 10, 61, 0, 4187, []) := rfl
theorem c233_14 : cdx (mC m233) 14 = some (14, .iload_n 1, 1, 1, 0, 0, 0, []) := rfl
theorem c233_15 : cdx (mC m233) 15 = some (15, .iaload, 1, 0, 0, 0, 0, []) := rfl
theorem c233_16 : cdx (mC m233) 16 = some (16, .ifCond .ge 6, 3, 22, 0, 0, 0, []) := rfl
theorem c233_19 : cdx (mC m233) 19 = some (19, .bipush (-11), 2, 0, 0, 0, 0, []) := rfl
theorem c233_21 : cdx (mC m233) 21 = some (21, .ireturn, 1, 0, 0, 0, 0, []) := rfl
theorem c233_22 : cdx (mC m233) 22 = some (22, .aload_n 0, 1, 0, 0, 0, 0, []) := rfl
theorem c233_23 : cdx (mC m233) 23 = some (23, .iload_n 2, 1, 2, 0, 0, 0, []) := rfl
theorem c233_24 : cdx (mC m233) 24 = some (24, .iconst 0, 1, 0, 0, 0, 0, []) := rfl
theorem c233_25 : cdx (mC m233) 25 = some (25, .aload_n 0, 1, 0, 0, 0, 0, []) := rfl
theorem c233_26 : cdx (mC m233) 26 = some (26, .getfield 199, 3, 10, 62, 0, 4188, []) := rfl
theorem c233_29 : cdx (mC m233) 29 = some (29, .iload_n 1, 1, 1, 0, 0, 0, []) := rfl
theorem c233_30 : cdx (mC m233) 30 = some (30, .iaload, 1, 0, 0, 0, 0, []) := rfl
theorem c233_31 : cdx (mC m233) 31 = some (31, .iconst 1, 1, 0, 0, 0, 0, []) := rfl
theorem c233_32 : cdx (mC m233) 32 = some (32, .isub, 1, 0, 0, 0, 0, []) := rfl
theorem c233_33 : cdx (mC m233) 33 = some (33, .invokevirtual 213, 3, 142, 3, 0, 5087, [(10, 0)]) := rfl
theorem c233_36 : cdx (mC m233) 36 = some (36, .ifCond .ne 6, 3, 42, 0, 0, 0, []) := rfl
theorem c233_39 : cdx (mC m233) 39 = some (39, .bipush (-13), 2, 0, 0, 0, 0, []) := rfl
theorem c233_41 : cdx (mC m233) 41 = some (41, .ireturn, 1, 0, 0, 0, 0, []) := rfl
theorem c233_42 : cdx (mC m233) 42 = some (42, .aload_n 0, 1, 0, 0, 0, 0, []) := rfl
theorem c233_43 : cdx (mC m233) 43 = some (43, .getfield 202, 3, 10, 63, 0, 4189, []) := rfl
theorem c233_46 : cdx (mC m233) 46 = some (46, .bipush 60, 2, 0, 0, 0, 0, []) := rfl
theorem c233_48 : cdx (mC m233) 48 = some (48, .iload_n 1, 1, 1, 0, 0, 0, []) := rfl
theorem c233_49 : cdx (mC m233) 49 = some (49, .imul, 1, 0, 0, 0, 0, []) := rfl
theorem c233_50 : cdx (mC m233) 50 = some (50, .iload_n 2, 1, 2, 0, 0, 0, []) := rfl
theorem c233_51 : cdx (mC m233) 51 = some (51, .iadd, 1, 0, 0, 0, 0, []) := rfl
theorem c233_52 : cdx (mC m233) 52 = some (52, .aload_n 0, 1, 0, 0, 0, 0, []) := rfl
theorem c233_53 : cdx (mC m233) 53 = some (53, .aload_n 0, 1, 0, 0, 0, 0, []) := rfl
theorem c233_54 : cdx (mC m233) 54 = some (54, .getfield 196, 3, 10, 61, 0, 4187, []) := rfl
theorem c233_57 : cdx (mC m233) 57 = some (57, .iload_n 1, 1, 1, 0, 0, 0, []) := rfl
theorem c233_58 : cdx (mC m233) 58 = some (58, .iaload, 1, 0, 0, 0, 0, []) := rfl
theorem c233_59 : cdx (mC m233) 59 = some (59, .lload_n 3, 1, 3, 0, 0, 0, []) := rfl
theorem c233_60 : cdx (mC m233) 60 = some (60, .invokevirtual 402, 3, 234, 2, 0, 6217, [(10, 0)]) := rfl
theorem c233_63 : cdx (mC m233) 63 = some (63, .lastore, 1, 0, 0, 0, 0, []) := rfl
theorem c233_64 : cdx (mC m233) 64 = some (64, .iconst 1, 1, 0, 0, 0, 0, []) := rfl
theorem c233_65 : cdx (mC m233) 65 = some (65, .ireturn, 1, 0, 0, 0, 0, []) := rfl
def lv233 : List (Nat × List Nat) := [(0, [0, 1, 2, 3]), (1, [0, 1, 2, 3]), (2, [0, 1, 2, 3]), (5, [0, 1, 2, 3]), (10, [0, 1, 2, 3]), (11, [0, 1, 2, 3]), (14, [0, 1, 2, 3]), (15, [0, 1, 2, 3]), (16, [0, 1, 2, 3]), (22, [0, 1, 2, 3]), (23, [0, 1, 2, 3]), (24, [0, 1, 2, 3]), (25, [0, 1, 2, 3]), (26, [0, 1, 2, 3]), (29, [0, 1, 2, 3]), (30, [0, 1, 2, 3]), (31, [0, 1, 2, 3]), (32, [0, 1, 2, 3]), (33, [0, 1, 2, 3]), (36, [0, 1, 2, 3]), (42, [0, 1, 2, 3]), (43, [0, 1, 2, 3]), (46, [0, 1, 2, 3]), (48, [0, 1, 2, 3]), (49, [0, 1, 2, 3]), (50, [0, 1, 2, 3]), (51, [0, 1, 3]), (52, [0, 1, 3]), (53, [0, 1, 3]), (54, [1, 3]), (57, [1, 3]), (58, [3]), (59, [3])]
theorem lvok233 : lvOk (mC m233) lv233 = true := by decide +kernel
theorem b233_0 {X : Nat × (Nat → Int32)} {d : Nat} {I : Nat → Nat → Int32} {L : Nat → Nat → Int64} {Q : Option Value → XW → Prop} {x1 : Int32} {x2 : Int32} {x3 : Int64}  : wp X (d + 1) m233 0 [some (.ref 124), some (.int x1), some (.int x2), some (.long (x3)), none] [] (K0, R0, I, L) Q ↔ wp X d m217 0 [some (.ref 124), some (.int x1)] [] (K0, R0, I, L) (fun r w1 => wp X (d + 1) m233 5 [some (.ref 124), some (.int x1), some (.int x2), some (.long (x3)), none] (r.toList ++ []) w1 Q) := (w_aload_n (pc' := 1) c233_0 rfl rfl).trans ((w_iload_n (pc' := 2) c233_1 rfl rfl).trans ((w_callv (pc' := 5) c233_2 mt217 rfl (Nat.le_of_ble_eq_true rfl) rfl kd_124 rfl rfl (Nat.le_of_ble_eq_true rfl) rfl rfl)))
theorem b233_5 {X : Nat × (Nat → Int32)} {d : Nat} {I : Nat → Nat → Int32} {L : Nat → Nat → Int64} {Q : Option Value → XW → Prop} {x1 : Int32} {x2 : Int32} {x3 : Int64} {s0 : Int32}  : wp X (d + 1) m233 5 [some (.ref 124), some (.int x1), some (.int x2), some (.long (x3)), none] [(.int s0)] (K0, R0, I, L) Q ↔ (if s0 = 0 then Q (some (.int (-1))) (K0, R0, I, L) else (inA x1 6 = true ∧ (if (I 163 (Int32.toNatClampNeg x1)) < 0 then Q (some (.int (-11))) (K0, R0, I, L) else (inA x1 6 = true ∧ wp X d m142 0 [some (.ref 124), some (.int x2), some (.int 0), some (.int ((I 164 (Int32.toNatClampNeg x1)) - 1))] [] (K0, R0, I, L) (fun r w1 => wp X (d + 1) m233 36 [some (.ref 124), some (.int x1), some (.int x2), some (.long (x3)), none] (r.toList ++ []) w1 Q))))) := (w_if_ne (pc' := 8) c233_5 rfl).trans (ite_iff ((w_iconst (pc' := 9) (v := (-1)) c233_8 rfl rfl).trans (w_iret c233_9 rfl)) ((w_aload_n (pc' := 11) c233_10 rfl rfl).trans ((w_getR (pc' := 14) (q := 163) c233_11 kd_124 (by decide) rfl rd_124_61 rfl).trans ((w_iload_n (pc' := 15) c233_14 rfl rfl).trans ((w_ialdv (pc' := 16) (v := (I 163 (Int32.toNatClampNeg x1))) c233_15 kd_163 (rfl) rfl).trans (and_congr_right (fun _ => (w_if_ge (pc' := 19) c233_16 rfl).trans (ite_iff ((w_bipush (pc' := 21) (v := (-11)) c233_19 rfl rfl).trans (w_iret c233_21 rfl)) ((w_aload_n (pc' := 23) c233_22 rfl rfl).trans ((w_iload_n (pc' := 24) c233_23 rfl rfl).trans ((w_iconst (pc' := 25) (v := 0) c233_24 rfl rfl).trans ((w_aload_n (pc' := 26) c233_25 rfl rfl).trans ((w_getR (pc' := 29) (q := 164) c233_26 kd_124 (by decide) rfl rd_124_62 rfl).trans ((w_iload_n (pc' := 30) c233_29 rfl rfl).trans ((w_ialdv (pc' := 31) (v := (I 164 (Int32.toNatClampNeg x1))) c233_30 kd_164 (rfl) rfl).trans (and_congr_right (fun _ => (w_iconst (pc' := 32) (v := 1) c233_31 rfl rfl).trans ((w_isub (pc' := 33) c233_32 rfl).trans ((w_callv (pc' := 36) c233_33 mt142 rfl (Nat.le_of_ble_eq_true rfl) rfl kd_124 rfl rfl (Nat.le_of_ble_eq_true rfl) rfl rfl))))))))))))))))))))
theorem b233_36 {X : Nat × (Nat → Int32)} {d : Nat} {I : Nat → Nat → Int32} {L : Nat → Nat → Int64} {Q : Option Value → XW → Prop} {x1 : Int32} {x2 : Int32} {x3 : Int64} {s0 : Int32}  : wp X (d + 1) m233 36 [some (.ref 124), some (.int x1), some (.int x2), some (.long (x3)), none] [(.int s0)] (K0, R0, I, L) Q ↔ (if s0 = 0 then Q (some (.int (-13))) (K0, R0, I, L) else (inA x1 6 = true ∧ wp X d m234 0 [some (.ref 124), some (.int (I 163 (Int32.toNatClampNeg x1))), some (.long (x3)), none] [] (K0, R0, I, L) (fun r w1 => wp X (d + 1) m233 63 [none, none, none, none, none] (r.toList ++ [(.int ((60 * x1) + x2)), (.ref 165)]) w1 Q))) := (w_if_ne (pc' := 39) c233_36 rfl).trans (ite_iff ((w_bipush (pc' := 41) (v := (-13)) c233_39 rfl rfl).trans (w_iret c233_41 rfl)) ((w_aload_n (pc' := 43) c233_42 rfl rfl).trans ((w_getR (pc' := 46) (q := 165) c233_43 kd_124 (by decide) rfl rd_124_63 rfl).trans ((w_bipush (pc' := 48) (v := 60) c233_46 rfl rfl).trans ((w_iload_n (pc' := 49) c233_48 rfl rfl).trans ((w_imul (pc' := 50) c233_49 rfl).trans ((w_iload_n (pc' := 51) c233_50 rfl rfl).trans ((w_iadd (pc' := 52) c233_51 rfl).trans ((w_aload_n (pc' := 53) c233_52 rfl rfl).trans ((w_aload_n (pc' := 54) c233_53 rfl rfl).trans ((w_getR (pc' := 57) (q := 163) c233_54 kd_124 (by decide) rfl rd_124_61 rfl).trans ((w_iload_n (pc' := 58) c233_57 rfl rfl).trans ((w_ialdv (pc' := 59) (v := (I 163 (Int32.toNatClampNeg x1))) c233_58 kd_163 (rfl) rfl).trans (and_congr_right (fun _ => (w_lload_n (pc' := 60) c233_59 rfl rfl).trans ((w_callv (pc' := 63) c233_60 mt234 rfl (Nat.le_of_ble_eq_true rfl) rfl kd_124 rfl rfl (Nat.le_of_ble_eq_true rfl) rfl rfl).trans (wp_congr (fun r w1 => wp_msk lvok233 rfl))))))))))))))))))
theorem b233_63 {X : Nat × (Nat → Int32)} {d : Nat} {I : Nat → Nat → Int32} {L : Nat → Nat → Int64} {Q : Option Value → XW → Prop} {s1 : Int32} {s2 : Int64}  : wp X d m233 63 [none, none, none, none, none] [(.long (s2)), (.int s1), (.ref 165)] (K0, R0, I, L) Q ↔ (inA s1 360 = true ∧ Q (some (.int 1)) (K0, R0, I, (updR L 165 (Int32.toNatClampNeg s1) s2))) := (w_last (pc' := 64) c233_63 kd_165 rfl).trans (and_congr_right (fun _ => (w_iconst (pc' := 65) (v := 1) c233_64 rfl rfl).trans (w_iret c233_65 rfl)))
-- LeavesObjectModel.narrow(IJ)J
theorem c234_0 : cdx (mC m234) 0 = some (0, .iload_n 1, 1, 1, 0, 0, 0, []) := rfl
theorem c234_1 : cdx (mC m234) 1 = some (1, .ifCond .ne 10, 3, 11, 0, 0, 0, []) := rfl
theorem c234_4 : cdx (mC m234) 4 = some (4, .lload_n 2, 1, 2, 0, 0, 0, []) := rfl
theorem c234_5 : cdx (mC m234) 5 = some (5, .l2i, 1, 0, 0, 0, 0, []) := rfl
theorem c234_6 : cdx (mC m234) 6 = some (6, .i2b, 1, 0, 0, 0, 0, []) := rfl
theorem c234_7 : cdx (mC m234) 7 = some (7, .i2l, 1, 0, 0, 0, 0, []) := rfl
theorem c234_8 : cdx (mC m234) 8 = some (8, .goto 46, 3, 54, 0, 0, 0, []) := rfl
theorem c234_11 : cdx (mC m234) 11 = some (11, .iload_n 1, 1, 1, 0, 0, 0, []) := rfl
theorem c234_12 : cdx (mC m234) 12 = some (12, .iconst 1, 1, 0, 0, 0, 0, []) := rfl
theorem c234_13 : cdx (mC m234) 13 = some (13, .if_icmp .ne 10, 3, 23, 0, 0, 0, []) := rfl
theorem c234_16 : cdx (mC m234) 16 = some (16, .lload_n 2, 1, 2, 0, 0, 0, []) := rfl
theorem c234_17 : cdx (mC m234) 17 = some (17, .l2i, 1, 0, 0, 0, 0, []) := rfl
theorem c234_18 : cdx (mC m234) 18 = some (18, .i2s, 1, 0, 0, 0, 0, []) := rfl
theorem c234_19 : cdx (mC m234) 19 = some (19, .i2l, 1, 0, 0, 0, 0, []) := rfl
theorem c234_20 : cdx (mC m234) 20 = some (20, .goto 34, 3, 54, 0, 0, 0, []) := rfl
theorem c234_23 : cdx (mC m234) 23 = some (23, .iload_n 1, 1, 1, 0, 0, 0, []) := rfl
theorem c234_24 : cdx (mC m234) 24 = some (24, .iconst 2, 1, 0, 0, 0, 0, []) := rfl
theorem c234_25 : cdx (mC m234) 25 = some (25, .if_icmp .ne 9, 3, 34, 0, 0, 0, []) := rfl
theorem c234_28 : cdx (mC m234) 28 = some (28, .lload_n 2, 1, 2, 0, 0, 0, []) := rfl
theorem c234_29 : cdx (mC m234) 29 = some (29, .l2i, 1, 0, 0, 0, 0, []) := rfl
theorem c234_30 : cdx (mC m234) 30 = some (30, .i2l, 1, 0, 0, 0, 0, []) := rfl
theorem c234_31 : cdx (mC m234) 31 = some (31, .goto 23, 3, 54, 0, 0, 0, []) := rfl
theorem c234_34 : cdx (mC m234) 34 = some (34, .iload_n 1, 1, 1, 0, 0, 0, []) := rfl
theorem c234_35 : cdx (mC m234) 35 = some (35, .iconst 4, 1, 0, 0, 0, 0, []) := rfl
theorem c234_36 : cdx (mC m234) 36 = some (36, .if_icmp .ne 17, 3, 53, 0, 0, 0, []) := rfl
theorem c234_39 : cdx (mC m234) 39 = some (39, .lload_n 2, 1, 2, 0, 0, 0, []) := rfl
theorem c234_40 : cdx (mC m234) 40 = some (40, .lconst 0, 1, 0, 0, 0, 0, []) := rfl
theorem c234_41 : cdx (mC m234) 41 = some (41, .lcmp, 1, 0, 0, 0, 0, []) := rfl
theorem c234_42 : cdx (mC m234) 42 = some (42, .ifCond .eq 7, 3, 49, 0, 0, 0, []) := rfl
theorem c234_45 : cdx (mC m234) 45 = some (45, .lconst 1, 1, 0, 0, 0, 0, []) := rfl
theorem c234_46 : cdx (mC m234) 46 = some (46, .goto 8, 3, 54, 0, 0, 0, []) := rfl
theorem c234_49 : cdx (mC m234) 49 = some (49, .lconst 0, 1, 0, 0, 0, 0, []) := rfl
theorem c234_50 : cdx (mC m234) 50 = some (50, .goto 4, 3, 54, 0, 0, 0, []) := rfl
theorem c234_53 : cdx (mC m234) 53 = some (53, .lload_n 2, 1, 2, 0, 0, 0, []) := rfl
theorem c234_54 : cdx (mC m234) 54 = some (54, .lreturn, 1, 0, 0, 0, 0, []) := rfl
theorem b234_0 {X : Nat × (Nat → Int32)} {d : Nat} {I : Nat → Nat → Int32} {L : Nat → Nat → Int64} {Q : Option Value → XW → Prop} {x1 : Int32} {x2 : Int64}  : wp X d m234 0 [some (.ref 124), some (.int x1), some (.long (x2)), none] [] (K0, R0, I, L) Q ↔ (if x1 = 0 then Q (some (.long ((Int32.toInt64 ((Int32.toInt8 (Int64.toInt32 x2)).toInt32))))) (K0, R0, I, L) else (if x1 = 1 then Q (some (.long ((Int32.toInt64 ((Int32.toInt16 (Int64.toInt32 x2)).toInt32))))) (K0, R0, I, L) else (if x1 = 2 then Q (some (.long ((Int32.toInt64 (Int64.toInt32 x2))))) (K0, R0, I, L) else (if x1 = 4 then (if (lg_cmp x2 0) = 0 then Q (some (.long (0))) (K0, R0, I, L) else Q (some (.long (1))) (K0, R0, I, L)) else Q (some (.long (x2))) (K0, R0, I, L))))) := (w_iload_n (pc' := 1) c234_0 rfl rfl).trans ((w_if_ne (pc' := 4) c234_1 rfl).trans (ite_iff ((w_lload_n (pc' := 5) c234_4 rfl rfl).trans ((w_l2i (pc' := 6) c234_5 rfl).trans ((w_i2b (pc' := 7) c234_6 rfl).trans ((w_i2l (pc' := 8) c234_7 rfl).trans ((w_goto c234_8).trans (w_lret c234_54 rfl)))))) ((w_iload_n (pc' := 12) c234_11 rfl rfl).trans ((w_iconst (pc' := 13) (v := 1) c234_12 rfl rfl).trans ((w_icmp_ne (pc' := 16) c234_13 rfl).trans (ite_iff ((w_lload_n (pc' := 17) c234_16 rfl rfl).trans ((w_l2i (pc' := 18) c234_17 rfl).trans ((w_i2s (pc' := 19) c234_18 rfl).trans ((w_i2l (pc' := 20) c234_19 rfl).trans ((w_goto c234_20).trans (w_lret c234_54 rfl)))))) ((w_iload_n (pc' := 24) c234_23 rfl rfl).trans ((w_iconst (pc' := 25) (v := 2) c234_24 rfl rfl).trans ((w_icmp_ne (pc' := 28) c234_25 rfl).trans (ite_iff ((w_lload_n (pc' := 29) c234_28 rfl rfl).trans ((w_l2i (pc' := 30) c234_29 rfl).trans ((w_i2l (pc' := 31) c234_30 rfl).trans ((w_goto c234_31).trans (w_lret c234_54 rfl))))) ((w_iload_n (pc' := 35) c234_34 rfl rfl).trans ((w_iconst (pc' := 36) (v := 4) c234_35 rfl rfl).trans ((w_icmp_ne (pc' := 39) c234_36 rfl).trans (ite_iff ((w_lload_n (pc' := 40) c234_39 rfl rfl).trans ((w_lconst (pc' := 41) (v := 0) c234_40 rfl rfl).trans ((w_lcmp (pc' := 42) c234_41 rfl).trans ((w_if_eq (pc' := 45) c234_42 rfl).trans (ite_iff ((w_lconst (pc' := 50) (v := 0) c234_49 rfl rfl).trans ((w_goto c234_50).trans (w_lret c234_54 rfl))) ((w_lconst (pc' := 46) (v := 1) c234_45 rfl rfl).trans ((w_goto c234_46).trans (w_lret c234_54 rfl)))))))) ((w_lload_n (pc' := 54) c234_53 rfl rfl).trans (w_lret c234_54 rfl))))))))))))))))
-- LeavesObjectModel.read(II)J
theorem c235_0 : cdx (mC m235) 0 = some (0, .aload_n 0, 1, 0, 0, 0, 0, []) := rfl
theorem c235_1 : cdx (mC m235) 1 = some (1, .iload_n 1, 1, 1, 0, 0, 0, []) := rfl
theorem c235_2 : cdx (mC m235) 2 = some (2, .invokevirtual 375, 3, 217, 1, 0, 6149, [(10, 0)]) := rfl
theorem c235_5 : cdx (mC m235) 5 = some (5, .ifCond .eq 29, 3, 34, 0, 0, 0, []) := rfl
theorem c235_8 : cdx (mC m235) 8 = some (8, .aload_n 0, 1, 0, 0, 0, 0, []) := rfl
theorem c235_9 : cdx (mC m235) 9 = some (9, .getfield 196, 3, 10, 61, 0, 4187, []) := rfl
theorem c235_12 : cdx (mC m235) 12 = some (12, .iload_n 1, 1, 1, 0, 0, 0, []) := rfl
theorem c235_13 : cdx (mC m235) 13 = some (13, .iaload, 1, 0, 0, 0, 0, []) := rfl
theorem c235_14 : cdx (mC m235) 14 = some (14, .ifCond .lt 20, 3, 34, 0, 0, 0, []) := rfl
theorem c235_17 : cdx (mC m235) 17 = some (17, .aload_n 0, 1, 0, 0, 0, 0, []) := rfl
theorem c235_18 : cdx (mC m235) 18 = some (18, .iload_n 2, 1, 2, 0, 0, 0, []) := rfl
theorem c235_19 : cdx (mC m235) 19 = some (19, .iconst 0, 1, 0, 0, 0, 0, []) := rfl
theorem c235_20 : cdx (mC m235) 20 = some (20, .aload_n 0, 1, 0, 0, 0, 0, []) := rfl
theorem c235_21 : cdx (mC m235) 21 = some (21, .getfield 199, 3, 10, 62, 0, 4188, []) := rfl
theorem c235_24 : cdx (mC m235) 24 = some (24, .iload_n 1, 1, 1, 0, 0, 0, []) := rfl
theorem c235_25 : cdx (mC m235) 25 = some (25, .iaload, 1, 0, 0, 0, 0, []) := rfl
theorem c235_26 : cdx (mC m235) 26 = some (26, .iconst 1, 1, 0, 0, 0, 0, []) := rfl
theorem c235_27 : cdx (mC m235) 27 = some (27, .isub, 1, 0, 0, 0, 0, []) := rfl
theorem c235_28 : cdx (mC m235) 28 = some (28, .invokevirtual 213, 3, 142, 3, 0, 5087, [(10, 0)]) := rfl
theorem c235_31 : cdx (mC m235) 31 = some (31, .ifCond .ne 9, 3, 40, 0, 0, 0, []) := rfl
theorem c235_34 : cdx (mC m235) 34 = some (34, .ldc2_w 369, 3, 0, 0, 0, 6116, [((-9223372036854775808), 0)]) := rfl
theorem c235_37 : cdx (mC m235) 37 = some (37, .goto 14, 3, 51, 0, 0, 0, []) := rfl
theorem c235_40 : cdx (mC m235) 40 = some (40, .aload_n 0, 1, 0, 0, 0, 0, []) := rfl
theorem c235_41 : cdx (mC m235) 41 = some (41, .getfield 202, 3, 10, 63, 0, 4189, []) := rfl
theorem c235_44 : cdx (mC m235) 44 = some (44, .bipush 60, 2, 0, 0, 0, 0, []) := rfl
theorem c235_46 : cdx (mC m235) 46 = some (46, .iload_n 1, 1, 1, 0, 0, 0, []) := rfl
theorem c235_47 : cdx (mC m235) 47 = some (47, .imul, 1, 0, 0, 0, 0, []) := rfl
theorem c235_48 : cdx (mC m235) 48 = some (48, .iload_n 2, 1, 2, 0, 0, 0, []) := rfl
theorem c235_49 : cdx (mC m235) 49 = some (49, .iadd, 1, 0, 0, 0, 0, []) := rfl
theorem c235_50 : cdx (mC m235) 50 = some (50, .laload, 1, 0, 0, 0, 0, []) := rfl
theorem c235_51 : cdx (mC m235) 51 = some (51, .lreturn, 1, 0, 0, 0, 0, []) := rfl
theorem b235_0 {X : Nat × (Nat → Int32)} {d : Nat} {I : Nat → Nat → Int32} {L : Nat → Nat → Int64} {Q : Option Value → XW → Prop} {x1 : Int32} {x2 : Int32}  : wp X (d + 1) m235 0 [some (.ref 124), some (.int x1), some (.int x2)] [] (K0, R0, I, L) Q ↔ wp X d m217 0 [some (.ref 124), some (.int x1)] [] (K0, R0, I, L) (fun r w1 => wp X (d + 1) m235 5 [some (.ref 124), some (.int x1), some (.int x2)] (r.toList ++ []) w1 Q) := (w_aload_n (pc' := 1) c235_0 rfl rfl).trans ((w_iload_n (pc' := 2) c235_1 rfl rfl).trans ((w_callv (pc' := 5) c235_2 mt217 rfl (Nat.le_of_ble_eq_true rfl) rfl kd_124 rfl rfl (Nat.le_of_ble_eq_true rfl) rfl rfl)))
theorem b235_5 {X : Nat × (Nat → Int32)} {d : Nat} {I : Nat → Nat → Int32} {L : Nat → Nat → Int64} {Q : Option Value → XW → Prop} {x1 : Int32} {x2 : Int32} {s0 : Int32}  : wp X (d + 1) m235 5 [some (.ref 124), some (.int x1), some (.int x2)] [(.int s0)] (K0, R0, I, L) Q ↔ (if s0 = 0 then Q (some (.long ((-9223372036854775808)))) (K0, R0, I, L) else (inA x1 6 = true ∧ (if (I 163 (Int32.toNatClampNeg x1)) < 0 then Q (some (.long ((-9223372036854775808)))) (K0, R0, I, L) else (inA x1 6 = true ∧ wp X d m142 0 [some (.ref 124), some (.int x2), some (.int 0), some (.int ((I 164 (Int32.toNatClampNeg x1)) - 1))] [] (K0, R0, I, L) (fun r w1 => wp X (d + 1) m235 31 [some (.ref 124), some (.int x1), some (.int x2)] (r.toList ++ []) w1 Q))))) := (w_if_eq (pc' := 8) c235_5 rfl).trans (ite_iff ((w_ldc2_w (pc' := 37) (v := (-9223372036854775808)) c235_34 rfl rfl).trans ((w_goto c235_37).trans (w_lret c235_51 rfl))) ((w_aload_n (pc' := 9) c235_8 rfl rfl).trans ((w_getR (pc' := 12) (q := 163) c235_9 kd_124 (by decide) rfl rd_124_61 rfl).trans ((w_iload_n (pc' := 13) c235_12 rfl rfl).trans ((w_ialdv (pc' := 14) (v := (I 163 (Int32.toNatClampNeg x1))) c235_13 kd_163 (rfl) rfl).trans (and_congr_right (fun _ => (w_if_lt (pc' := 17) c235_14 rfl).trans (ite_iff ((w_ldc2_w (pc' := 37) (v := (-9223372036854775808)) c235_34 rfl rfl).trans ((w_goto c235_37).trans (w_lret c235_51 rfl))) ((w_aload_n (pc' := 18) c235_17 rfl rfl).trans ((w_iload_n (pc' := 19) c235_18 rfl rfl).trans ((w_iconst (pc' := 20) (v := 0) c235_19 rfl rfl).trans ((w_aload_n (pc' := 21) c235_20 rfl rfl).trans ((w_getR (pc' := 24) (q := 164) c235_21 kd_124 (by decide) rfl rd_124_62 rfl).trans ((w_iload_n (pc' := 25) c235_24 rfl rfl).trans ((w_ialdv (pc' := 26) (v := (I 164 (Int32.toNatClampNeg x1))) c235_25 kd_164 (rfl) rfl).trans (and_congr_right (fun _ => (w_iconst (pc' := 27) (v := 1) c235_26 rfl rfl).trans ((w_isub (pc' := 28) c235_27 rfl).trans ((w_callv (pc' := 31) c235_28 mt142 rfl (Nat.le_of_ble_eq_true rfl) rfl kd_124 rfl rfl (Nat.le_of_ble_eq_true rfl) rfl rfl))))))))))))))))))))
theorem b235_31 {X : Nat × (Nat → Int32)} {d : Nat} {I : Nat → Nat → Int32} {L : Nat → Nat → Int64} {Q : Option Value → XW → Prop} {x1 : Int32} {x2 : Int32} {s0 : Int32}  : wp X d m235 31 [some (.ref 124), some (.int x1), some (.int x2)] [(.int s0)] (K0, R0, I, L) Q ↔ (if s0 = 0 then Q (some (.long ((-9223372036854775808)))) (K0, R0, I, L) else (inA ((60 * x1) + x2) 360 = true ∧ Q (some (.long ((L 165 (Int32.toNatClampNeg ((60 * x1) + x2)))))) (K0, R0, I, L))) := (w_if_ne (pc' := 34) c235_31 rfl).trans (ite_iff ((w_ldc2_w (pc' := 37) (v := (-9223372036854775808)) c235_34 rfl rfl).trans ((w_goto c235_37).trans (w_lret c235_51 rfl))) ((w_aload_n (pc' := 41) c235_40 rfl rfl).trans ((w_getR (pc' := 44) (q := 165) c235_41 kd_124 (by decide) rfl rd_124_63 rfl).trans ((w_bipush (pc' := 46) (v := 60) c235_44 rfl rfl).trans ((w_iload_n (pc' := 47) c235_46 rfl rfl).trans ((w_imul (pc' := 48) c235_47 rfl).trans ((w_iload_n (pc' := 49) c235_48 rfl rfl).trans ((w_iadd (pc' := 50) c235_49 rfl).trans ((w_laldv (pc' := 51) (v := (L 165 (Int32.toNatClampNeg ((60 * x1) + x2)))) c235_50 kd_165 (rfl) rfl).trans (and_congr_right (fun _ => w_lret c235_51 rfl)))))))))))
-- LeavesObjectModel.shift(IIIII)I
theorem c236_0 : cdx (mC m236) 0 = some (0, .aload_n 0, 1, 0, 0, 0, 0, []) := rfl
theorem c236_1 : cdx (mC m236) 1 = some (1, .iload_n 1, 1, 1, 0, 0, 0, []) := rfl
theorem c236_2 : cdx (mC m236) 2 = some (2, .invokevirtual 375, 3, 217, 1, 0, 6149, [(10, 0)]) := rfl
theorem c236_5 : cdx (mC m236) 5 = some (5, .ifCond .eq 11, 3, 16, 0, 0, 0, []) := rfl
theorem c236_8 : cdx (mC m236) 8 = some (8, .aload_n 0, 1, 0, 0, 0, 0, []) := rfl
theorem c236_9 : cdx (mC m236) 9 = some (9, .iload_n 3, 1, 3, 0, 0, 0, []) := rfl
theorem c236_10 : cdx (mC m236) 10 = some (10, .invokevirtual 375, 3, 217, 1, 0, 6149, [(10, 0)]) := rfl
theorem c236_13 : cdx (mC m236) 13 = some (13, .ifCond .ne 5, 3, 18, 0, 0, 0, []) := rfl
theorem c236_16 : cdx (mC m236) 16 = some (16, .iconst (-1), 1, 0, 0, 0, 0, []) := rfl
theorem c236_17 : cdx (mC m236) 17 = some (17, .ireturn, 1, 0, 0, 0, 0, []) := rfl
theorem c236_18 : cdx (mC m236) 18 = some (18, .aload_n 0, 1, 0, 0, 0, 0, []) := rfl
theorem c236_19 : cdx (mC m236) 19 = some (19, .getfield 196, 3, 10, 61, 0, 4187, []) := rfl
theorem c236_22 : cdx (mC m236) 22 = some (22, .iload_n 1, 1, 1, 0, 0, 0, []) := rfl
theorem c236_23 : cdx (mC m236) 23 = some (23, .iaload, 1, 0, 0, 0, 0, []) := rfl
theorem c236_24 : cdx (mC m236) 24 = some (24, .ifCond .lt 12, 3, 36, 0, 0, 0, []) := rfl
theorem c236_27 : cdx (mC m236) 27 = some (27, .aload_n 0, 1, 0, 0, 0, 0, []) := rfl
theorem c236_28 : cdx (mC m236) 28 = some (28, .getfield 196, 3, 10, 61, 0, 4187, []) := rfl
theorem c236_31 : cdx (mC m236) 31 = some (31, .iload_n 3, 1, 3, 0, 0, 0, []) := rfl
theorem c236_32 : cdx (mC m236) 32 = some (32, .iaload, 1, 0, 0, 0, 0, []) := rfl
theorem c236_33 : cdx (mC m236) 33 = some (33, .ifCond .ge 6, 3, 39, 0, 0, 0, []) := rfl
theorem c236_36 : cdx (mC m236) 36 = some (36, .bipush (-11), 2, 0, 0, 0, 0, []) := rfl
theorem c236_38 : cdx (mC m236) 38 = some (38, .ireturn, 1, 0, 0, 0, 0, []) := rfl
theorem c236_39 : cdx (mC m236) 39 = some (39, .aload_n 0, 1, 0, 0, 0, 0, []) := rfl
theorem c236_40 : cdx (mC m236) 40 = some (40, .getfield 196, 3, 10, 61, 0, 4187, []) := rfl
theorem c236_43 : cdx (mC m236) 43 = some (43, .iload_n 1, 1, 1, 0, 0, 0, []) := rfl
theorem c236_44 : cdx (mC m236) 44 = some (44, .iaload, 1, 0, 0, 0, 0, []) := rfl
theorem c236_45 : cdx (mC m236) 45 = some (45, .aload_n 0, 1, 0, 0, 0, 0, []) := rfl
theorem c236_46 : cdx (mC m236) 46 = some (46, .getfield 196, 3, 10, 61, 0, 4187, []) := rfl
theorem c236_49 : cdx (mC m236) 49 = some (49, .iload_n 3, 1, 3, 0, 0, 0, []) := rfl
theorem c236_50 : cdx (mC m236) 50 = some (50, .iaload, 1, 0, 0, 0, 0, []) := rfl
theorem c236_51 : cdx (mC m236) 51 = some (51, .if_icmp .eq 6, 3, 57, 0, 0, 0, []) := rfl
theorem c236_54 : cdx (mC m236) 54 = some (54, .bipush (-12), 2, 0, 0, 0, 0, []) := rfl
theorem c236_56 : cdx (mC m236) 56 = some (56, .ireturn, 1, 0, 0, 0, 0, []) := rfl
theorem c236_57 : cdx (mC m236) 57 = some (57, .iload 5, 2, 5, 0, 0, 0, []) := rfl
theorem c236_59 : cdx (mC m236) 59 = some (59, .ifCond .lt 39, 3, 98, 0, 0, 0, []) := rfl
theorem c236_62 : cdx (mC m236) 62 = some (62, .iload_n 2, 1, 2, 0, 0, 0, []) := rfl
theorem c236_63 : cdx (mC m236) 63 = some (63, .ifCond .lt 35, 3, 98, 0, 0, 0, []) := rfl
theorem c236_66 : cdx (mC m236) 66 = some (66, .iload 4, 2, 4, 0, 0, 0, []) := rfl
theorem c236_68 : cdx (mC m236) 68 = some (68, .ifCond .lt 30, 3, 98, 0, 0, 0, []) := rfl
theorem c236_71 : cdx (mC m236) 71 = some (71, .iload_n 2, 1, 2, 0, 0, 0, []) := rfl
theorem c236_72 : cdx (mC m236) 72 = some (72, .aload_n 0, 1, 0, 0, 0, 0, []) := rfl
theorem c236_73 : cdx (mC m236) 73 = some (73, .getfield 199, 3, 10, 62, 0, 4188, []) := rfl
theorem c236_76 : cdx (mC m236) 76 = some (76, .iload_n 1, 1, 1, 0, 0, 0, []) := rfl
theorem c236_77 : cdx (mC m236) 77 = some (77, .iaload, 1, 0, 0, 0, 0, []) := rfl
theorem c236_78 : cdx (mC m236) 78 = some (78, .iload 5, 2, 5, 0, 0, 0, []) := rfl
theorem c236_80 : cdx (mC m236) 80 = some (80, .isub, 1, 0, 0, 0, 0, []) := rfl
theorem c236_81 : cdx (mC m236) 81 = some (81, .if_icmp .gt 17, 3, 98, 0, 0, 0, []) := rfl
theorem c236_84 : cdx (mC m236) 84 = some (84, .iload 4, 2, 4, 0, 0, 0, []) := rfl
theorem c236_86 : cdx (mC m236) 86 = some (86, .aload_n 0, 1, 0, 0, 0, 0, []) := rfl
theorem c236_87 : cdx (mC m236) 87 = some (87, .getfield 199, 3, 10, 62, 0, 4188, []) := rfl
theorem c236_90 : cdx (mC m236) 90 = some (90, .iload_n 3, 1, 3, 0, 0, 0, []) := rfl
theorem c236_91 : cdx (mC m236) 91 = some (91, .iaload, 1, 0, 0, 0, 0, []) := rfl
theorem c236_92 : cdx (mC m236) 92 = some (92, .iload 5, 2, 5, 0, 0, 0, []) := rfl
theorem c236_94 : cdx (mC m236) 94 = some (94, .isub, 1, 0, 0, 0, 0, []) := rfl
theorem c236_95 : cdx (mC m236) 95 = some (95, .if_icmp .le 6, 3, 101, 0, 0, 0, []) := rfl
theorem c236_98 : cdx (mC m236) 98 = some (98, .bipush (-13), 2, 0, 0, 0, 0, []) := rfl
theorem c236_100 : cdx (mC m236) 100 = some (100, .ireturn, 1, 0, 0, 0, 0, []) := rfl
theorem c236_101 : cdx (mC m236) 101 = some (101, .iconst 0, 1, 0, 0, 0, 0, []) := rfl
theorem c236_102 : cdx (mC m236) 102 = some (102, .istore 6, 2, 6, 0, 0, 0, []) := rfl
theorem c236_104 : cdx (mC m236) 104 = some (104, .iload 6, 2, 6, 0, 0, 0, []) := rfl
theorem c236_106 : cdx (mC m236) 106 = some (106, .iload 5, 2, 5, 0, 0, 0, []) := rfl
theorem c236_108 : cdx (mC m236) 108 = some (108, .if_icmp .ge 30, 3, 138, 0, 0, 0, []) := rfl
theorem c236_111 : cdx (mC m236) 111 = some (111, .aload_n 0, 1, 0, 0, 0, 0, []) := rfl
theorem c236_112 : cdx (mC m236) 112 = some (112, .getfield 206, 3, 10, 64, 0, 4190, []) := rfl
theorem c236_115 : cdx (mC m236) 115 = some (115, .iload 6, 2, 6, 0, 0, 0, []) := rfl
theorem c236_117 : cdx (mC m236) 117 = some (117, .aload_n 0, 1, 0, 0, 0, 0, []) := rfl
theorem c236_118 : cdx (mC m236) 118 = some (118, .getfield 202, 3, 10, 63, 0, 4189, []) := rfl
theorem c236_121 : cdx (mC m236) 121 = some (121, .bipush 60, 2, 0, 0, 0, 0, []) := rfl
theorem c236_123 : cdx (mC m236) 123 = some (123, .iload_n 1, 1, 1, 0, 0, 0, []) := rfl
theorem c236_124 : cdx (mC m236) 124 = some (124, .imul, 1, 0, 0, 0, 0, []) := rfl
theorem c236_125 : cdx (mC m236) 125 = some (125, .iload_n 2, 1, 2, 0, 0, 0, []) := rfl
theorem c236_126 : cdx (mC m236) 126 = some (126, .iadd, 1, 0, 0, 0, 0, []) := rfl
theorem c236_127 : cdx (mC m236) 127 = some (127, .iload 6, 2, 6, 0, 0, 0, []) := rfl
theorem c236_129 : cdx (mC m236) 129 = some (129, .iadd, 1, 0, 0, 0, 0, []) := rfl
theorem c236_130 : cdx (mC m236) 130 = some (130, .laload, 1, 0, 0, 0, 0, []) := rfl
theorem c236_131 : cdx (mC m236) 131 = some (131, .lastore, 1, 0, 0, 0, 0, []) := rfl
theorem c236_132 : cdx (mC m236) 132 = some (132, .iinc 6 1, 3, 6, 0, 0, 0, []) := rfl
theorem c236_135 : cdx (mC m236) 135 = some (135, .goto (-31), 3, 104, 0, 0, 0, []) := rfl
theorem c236_138 : cdx (mC m236) 138 = some (138, .iconst 0, 1, 0, 0, 0, 0, []) := rfl
theorem c236_139 : cdx (mC m236) 139 = some (139, .istore 6, 2, 6, 0, 0, 0, []) := rfl
theorem c236_141 : cdx (mC m236) 141 = some (141, .iload 6, 2, 6, 0, 0, 0, []) := rfl
theorem c236_143 : cdx (mC m236) 143 = some (143, .iload 5, 2, 5, 0, 0, 0, []) := rfl
theorem c236_145 : cdx (mC m236) 145 = some (145, .if_icmp .ge 31, 3, 176, 0, 0, 0, []) := rfl
theorem c236_148 : cdx (mC m236) 148 = some (148, .aload_n 0, 1, 0, 0, 0, 0, []) := rfl
theorem c236_149 : cdx (mC m236) 149 = some (149, .getfield 202, 3, 10, 63, 0, 4189, []) := rfl
set_option maxRecDepth 20000 in
theorem c236_152 : cdx (mC m236) 152 = some (152, .bipush 60, 2, 0, 0, 0, 0, []) := rfl
set_option maxRecDepth 20000 in
theorem c236_154 : cdx (mC m236) 154 = some (154, .iload_n 3, 1, 3, 0, 0, 0, []) := rfl
set_option maxRecDepth 20000 in
theorem c236_155 : cdx (mC m236) 155 = some (155, .imul, 1, 0, 0, 0, 0, []) := rfl
set_option maxRecDepth 20000 in
theorem c236_156 : cdx (mC m236) 156 = some (156, .iload 4, 2, 4, 0, 0, 0, []) := rfl
set_option maxRecDepth 20000 in
theorem c236_158 : cdx (mC m236) 158 = some (158, .iadd, 1, 0, 0, 0, 0, []) := rfl
set_option maxRecDepth 20000 in
theorem c236_159 : cdx (mC m236) 159 = some (159, .iload 6, 2, 6, 0, 0, 0, []) := rfl
set_option maxRecDepth 20000 in
theorem c236_161 : cdx (mC m236) 161 = some (161, .iadd, 1, 0, 0, 0, 0, []) := rfl
set_option maxRecDepth 20000 in
theorem c236_162 : cdx (mC m236) 162 = some (162, .aload_n 0, 1, 0, 0, 0, 0, []) := rfl
set_option maxRecDepth 20000 in
theorem c236_163 : cdx (mC m236) 163 = some (163, .getfield 206, 3, 10, 64, 0, 4190, []) := rfl
set_option maxRecDepth 20000 in
theorem c236_166 : cdx (mC m236) 166 = some (166, .iload 6, 2, 6, 0, 0, 0, []) := rfl
set_option maxRecDepth 20000 in
theorem c236_168 : cdx (mC m236) 168 = some (168, .laload, 1, 0, 0, 0, 0, []) := rfl
set_option maxRecDepth 20000 in
theorem c236_169 : cdx (mC m236) 169 = some (169, .lastore, 1, 0, 0, 0, 0, []) := rfl
set_option maxRecDepth 20000 in
theorem c236_170 : cdx (mC m236) 170 = some (170, .iinc 6 1, 3, 6, 0, 0, 0, []) := rfl
set_option maxRecDepth 20000 in
theorem c236_173 : cdx (mC m236) 173 = some (173, .goto (-32), 3, 141, 0, 0, 0, []) := rfl
set_option maxRecDepth 20000 in
theorem c236_176 : cdx (mC m236) 176 = some (176, .iload 5, 2, 5, 0, 0, 0, []) := rfl
set_option maxRecDepth 20000 in
theorem c236_178 : cdx (mC m236) 178 = some (178, .ireturn, 1, 0, 0, 0, 0, []) := rfl
def lv236 : List (Nat × List Nat) := [(0, [0, 1, 2, 3, 4, 5]), (1, [0, 1, 2, 3, 4, 5]), (2, [0, 1, 2, 3, 4, 5]), (5, [0, 1, 2, 3, 4, 5]), (8, [0, 1, 2, 3, 4, 5]), (9, [0, 1, 2, 3, 4, 5]), (10, [0, 1, 2, 3, 4, 5]), (13, [0, 1, 2, 3, 4, 5]), (18, [0, 1, 2, 3, 4, 5]), (19, [0, 1, 2, 3, 4, 5]), (22, [0, 1, 2, 3, 4, 5]), (23, [0, 1, 2, 3, 4, 5]), (24, [0, 1, 2, 3, 4, 5]), (27, [0, 1, 2, 3, 4, 5]), (28, [0, 1, 2, 3, 4, 5]), (31, [0, 1, 2, 3, 4, 5]), (32, [0, 1, 2, 3, 4, 5]), (33, [0, 1, 2, 3, 4, 5]), (39, [0, 1, 2, 3, 4, 5]), (40, [0, 1, 2, 3, 4, 5]), (43, [0, 1, 2, 3, 4, 5]), (44, [0, 1, 2, 3, 4, 5]), (45, [0, 1, 2, 3, 4, 5]), (46, [0, 1, 2, 3, 4, 5]), (49, [0, 1, 2, 3, 4, 5]), (50, [0, 1, 2, 3, 4, 5]), (51, [0, 1, 2, 3, 4, 5]), (57, [0, 1, 2, 3, 4, 5]), (59, [0, 1, 2, 3, 4, 5]), (62, [0, 1, 2, 3, 4, 5]), (63, [0, 1, 2, 3, 4, 5]), (66, [0, 1, 2, 3, 4, 5]), (68, [0, 1, 2, 3, 4, 5]), (71, [0, 1, 2, 3, 4, 5]), (72, [0, 1, 2, 3, 4, 5]), (73, [0, 1, 2, 3, 4, 5]), (76, [0, 1, 2, 3, 4, 5]), (77, [0, 1, 2, 3, 4, 5]), (78, [0, 1, 2, 3, 4, 5]), (80, [0, 1, 2, 3, 4, 5]), (81, [0, 1, 2, 3, 4, 5]), (84, [0, 1, 2, 3, 4, 5]), (86, [0, 1, 2, 3, 4, 5]), (87, [0, 1, 2, 3, 4, 5]), (90, [0, 1, 2, 3, 4, 5]), (91, [0, 1, 2, 3, 4, 5]), (92, [0, 1, 2, 3, 4, 5]), (94, [0, 1, 2, 3, 4, 5]), (95, [0, 1, 2, 3, 4, 5]), (101, [0, 1, 2, 3, 4, 5]), (102, [0, 1, 2, 3, 4, 5]), (104, [0, 1, 2, 3, 4, 5, 6]), (106, [0, 1, 2, 3, 4, 5, 6]), (108, [0, 1, 2, 3, 4, 5, 6]), (111, [0, 1, 2, 3, 4, 5, 6]), (112, [0, 1, 2, 3, 4, 5, 6]), (115, [0, 1, 2, 3, 4, 5, 6]), (117, [0, 1, 2, 3, 4, 5, 6]), (118, [0, 1, 2, 3, 4, 5, 6]), (121, [0, 1, 2, 3, 4, 5, 6]), (123, [0, 1, 2, 3, 4, 5, 6]), (124, [0, 1, 2, 3, 4, 5, 6]), (125, [0, 1, 2, 3, 4, 5, 6]), (126, [0, 1, 2, 3, 4, 5, 6]), (127, [0, 1, 2, 3, 4, 5, 6]), (129, [0, 1, 2, 3, 4, 5, 6]), (130, [0, 1, 2, 3, 4, 5, 6]), (131, [0, 1, 2, 3, 4, 5, 6]), (132, [0, 1, 2, 3, 4, 5, 6]), (135, [0, 1, 2, 3, 4, 5, 6]), (138, [0, 3, 4, 5]), (139, [0, 3, 4, 5]), (141, [0, 3, 4, 5, 6]), (143, [0, 3, 4, 5, 6]), (145, [0, 3, 4, 5, 6]), (148, [0, 3, 4, 5, 6]), (149, [0, 3, 4, 5, 6]), (152, [0, 3, 4, 5, 6]), (154, [0, 3, 4, 5, 6]), (155, [0, 3, 4, 5, 6]), (156, [0, 3, 4, 5, 6]), (158, [0, 3, 4, 5, 6]), (159, [0, 3, 4, 5, 6]), (161, [0, 3, 4, 5, 6]), (162, [0, 3, 4, 5, 6]), (163, [0, 3, 4, 5, 6]), (166, [0, 3, 4, 5, 6]), (168, [0, 3, 4, 5, 6]), (169, [0, 3, 4, 5, 6]), (170, [0, 3, 4, 5, 6]), (173, [0, 3, 4, 5, 6]), (176, [5])]
theorem lvok236 : lvOk (mC m236) lv236 = true := by decide +kernel
theorem b236_0 {X : Nat × (Nat → Int32)} {d : Nat} {I : Nat → Nat → Int32} {L : Nat → Nat → Int64} {Q : Option Value → XW → Prop} {x1 : Int32} {x2 : Int32} {x3 : Int32} {x4 : Int32} {x5 : Int32}  : wp X (d + 1) m236 0 [some (.ref 124), some (.int x1), some (.int x2), some (.int x3), some (.int x4), some (.int x5), none] [] (K0, R0, I, L) Q ↔ wp X d m217 0 [some (.ref 124), some (.int x1)] [] (K0, R0, I, L) (fun r w1 => wp X (d + 1) m236 5 [some (.ref 124), some (.int x1), some (.int x2), some (.int x3), some (.int x4), some (.int x5), none] (r.toList ++ []) w1 Q) := (w_aload_n (pc' := 1) c236_0 rfl rfl).trans ((w_iload_n (pc' := 2) c236_1 rfl rfl).trans ((w_callv (pc' := 5) c236_2 mt217 rfl (Nat.le_of_ble_eq_true rfl) rfl kd_124 rfl rfl (Nat.le_of_ble_eq_true rfl) rfl rfl)))
theorem b236_5 {X : Nat × (Nat → Int32)} {d : Nat} {I : Nat → Nat → Int32} {L : Nat → Nat → Int64} {Q : Option Value → XW → Prop} {x1 : Int32} {x2 : Int32} {x3 : Int32} {x4 : Int32} {x5 : Int32} {s0 : Int32}  : wp X (d + 1) m236 5 [some (.ref 124), some (.int x1), some (.int x2), some (.int x3), some (.int x4), some (.int x5), none] [(.int s0)] (K0, R0, I, L) Q ↔ (if s0 = 0 then Q (some (.int (-1))) (K0, R0, I, L) else wp X d m217 0 [some (.ref 124), some (.int x3)] [] (K0, R0, I, L) (fun r w1 => wp X (d + 1) m236 13 [some (.ref 124), some (.int x1), some (.int x2), some (.int x3), some (.int x4), some (.int x5), none] (r.toList ++ []) w1 Q)) := (w_if_eq (pc' := 8) c236_5 rfl).trans (ite_iff ((w_iconst (pc' := 17) (v := (-1)) c236_16 rfl rfl).trans (w_iret c236_17 rfl)) ((w_aload_n (pc' := 9) c236_8 rfl rfl).trans ((w_iload_n (pc' := 10) c236_9 rfl rfl).trans ((w_callv (pc' := 13) c236_10 mt217 rfl (Nat.le_of_ble_eq_true rfl) rfl kd_124 rfl rfl (Nat.le_of_ble_eq_true rfl) rfl rfl)))))
theorem b236_13 {X : Nat × (Nat → Int32)} {d : Nat} {I : Nat → Nat → Int32} {L : Nat → Nat → Int64} {Q : Option Value → XW → Prop} {x1 : Int32} {x2 : Int32} {x3 : Int32} {x4 : Int32} {x5 : Int32} {s0 : Int32}  : wp X d m236 13 [some (.ref 124), some (.int x1), some (.int x2), some (.int x3), some (.int x4), some (.int x5), none] [(.int s0)] (K0, R0, I, L) Q ↔ (if s0 = 0 then Q (some (.int (-1))) (K0, R0, I, L) else (inA x1 6 = true ∧ (if (I 163 (Int32.toNatClampNeg x1)) < 0 then Q (some (.int (-11))) (K0, R0, I, L) else (inA x3 6 = true ∧ (if (I 163 (Int32.toNatClampNeg x3)) < 0 then Q (some (.int (-11))) (K0, R0, I, L) else (inA x1 6 = true ∧ (inA x3 6 = true ∧ (if (I 163 (Int32.toNatClampNeg x1)) = (I 163 (Int32.toNatClampNeg x3)) then (if x5 < 0 then Q (some (.int (-13))) (K0, R0, I, L) else (if x2 < 0 then Q (some (.int (-13))) (K0, R0, I, L) else (if x4 < 0 then Q (some (.int (-13))) (K0, R0, I, L) else (inA x1 6 = true ∧ (if ((I 164 (Int32.toNatClampNeg x1)) - x5) < x2 then Q (some (.int (-13))) (K0, R0, I, L) else (inA x3 6 = true ∧ (if ((I 164 (Int32.toNatClampNeg x3)) - x5) < x4 then Q (some (.int (-13))) (K0, R0, I, L) else wp X d m236 104 [some (.ref 124), some (.int x1), some (.int x2), some (.int x3), some (.int x4), some (.int x5), some (.int 0)] [] (K0, R0, I, L) Q))))))) else Q (some (.int (-12))) (K0, R0, I, L))))))))) := (w_if_ne (pc' := 16) c236_13 rfl).trans (ite_iff ((w_iconst (pc' := 17) (v := (-1)) c236_16 rfl rfl).trans (w_iret c236_17 rfl)) ((w_aload_n (pc' := 19) c236_18 rfl rfl).trans ((w_getR (pc' := 22) (q := 163) c236_19 kd_124 (by decide) rfl rd_124_61 rfl).trans ((w_iload_n (pc' := 23) c236_22 rfl rfl).trans ((w_ialdv (pc' := 24) (v := (I 163 (Int32.toNatClampNeg x1))) c236_23 kd_163 (rfl) rfl).trans (and_congr_right (fun _ => (w_if_lt (pc' := 27) c236_24 rfl).trans (ite_iff ((w_bipush (pc' := 38) (v := (-11)) c236_36 rfl rfl).trans (w_iret c236_38 rfl)) ((w_aload_n (pc' := 28) c236_27 rfl rfl).trans ((w_getR (pc' := 31) (q := 163) c236_28 kd_124 (by decide) rfl rd_124_61 rfl).trans ((w_iload_n (pc' := 32) c236_31 rfl rfl).trans ((w_ialdv (pc' := 33) (v := (I 163 (Int32.toNatClampNeg x3))) c236_32 kd_163 (rfl) rfl).trans (and_congr_right (fun _ => (w_if_ge (pc' := 36) c236_33 rfl).trans (ite_iff ((w_bipush (pc' := 38) (v := (-11)) c236_36 rfl rfl).trans (w_iret c236_38 rfl)) ((w_aload_n (pc' := 40) c236_39 rfl rfl).trans ((w_getR (pc' := 43) (q := 163) c236_40 kd_124 (by decide) rfl rd_124_61 rfl).trans ((w_iload_n (pc' := 44) c236_43 rfl rfl).trans ((w_ialdv (pc' := 45) (v := (I 163 (Int32.toNatClampNeg x1))) c236_44 kd_163 (rfl) rfl).trans (and_congr_right (fun _ => (w_aload_n (pc' := 46) c236_45 rfl rfl).trans ((w_getR (pc' := 49) (q := 163) c236_46 kd_124 (by decide) rfl rd_124_61 rfl).trans ((w_iload_n (pc' := 50) c236_49 rfl rfl).trans ((w_ialdv (pc' := 51) (v := (I 163 (Int32.toNatClampNeg x3))) c236_50 kd_163 (rfl) rfl).trans (and_congr_right (fun _ => (w_icmp_eq (pc' := 54) c236_51 rfl).trans (ite_iff ((w_iload (pc' := 59) c236_57 rfl rfl).trans ((w_if_lt (pc' := 62) c236_59 rfl).trans (ite_iff ((w_bipush (pc' := 100) (v := (-13)) c236_98 rfl rfl).trans (w_iret c236_100 rfl)) ((w_iload_n (pc' := 63) c236_62 rfl rfl).trans ((w_if_lt (pc' := 66) c236_63 rfl).trans (ite_iff ((w_bipush (pc' := 100) (v := (-13)) c236_98 rfl rfl).trans (w_iret c236_100 rfl)) ((w_iload (pc' := 68) c236_66 rfl rfl).trans ((w_if_lt (pc' := 71) c236_68 rfl).trans (ite_iff ((w_bipush (pc' := 100) (v := (-13)) c236_98 rfl rfl).trans (w_iret c236_100 rfl)) ((w_iload_n (pc' := 72) c236_71 rfl rfl).trans ((w_aload_n (pc' := 73) c236_72 rfl rfl).trans ((w_getR (pc' := 76) (q := 164) c236_73 kd_124 (by decide) rfl rd_124_62 rfl).trans ((w_iload_n (pc' := 77) c236_76 rfl rfl).trans ((w_ialdv (pc' := 78) (v := (I 164 (Int32.toNatClampNeg x1))) c236_77 kd_164 (rfl) rfl).trans (and_congr_right (fun _ => (w_iload (pc' := 80) c236_78 rfl rfl).trans ((w_isub (pc' := 81) c236_80 rfl).trans ((w_icmp_gt (pc' := 84) c236_81 rfl).trans (ite_iff ((w_bipush (pc' := 100) (v := (-13)) c236_98 rfl rfl).trans (w_iret c236_100 rfl)) ((w_iload (pc' := 86) c236_84 rfl rfl).trans ((w_aload_n (pc' := 87) c236_86 rfl rfl).trans ((w_getR (pc' := 90) (q := 164) c236_87 kd_124 (by decide) rfl rd_124_62 rfl).trans ((w_iload_n (pc' := 91) c236_90 rfl rfl).trans ((w_ialdv (pc' := 92) (v := (I 164 (Int32.toNatClampNeg x3))) c236_91 kd_164 (rfl) rfl).trans (and_congr_right (fun _ => (w_iload (pc' := 94) c236_92 rfl rfl).trans ((w_isub (pc' := 95) c236_94 rfl).trans ((w_icmp_le (pc' := 98) c236_95 rfl).trans (ite_iff ((w_bipush (pc' := 100) (v := (-13)) c236_98 rfl rfl).trans (w_iret c236_100 rfl)) ((w_iconst (pc' := 102) (v := 0) c236_101 rfl rfl).trans ((w_istore (pc' := 104) (ls' := [some (.ref 124), some (.int x1), some (.int x2), some (.int x3), some (.int x4), some (.int x5), some (.int 0)]) c236_102 (Nat.le_of_ble_eq_true rfl) rfl rfl)))))))))))))))))))))))))))))))) ((w_bipush (pc' := 56) (v := (-12)) c236_54 rfl rfl).trans (w_iret c236_56 rfl)))))))))))))))))))))))))))))
theorem b236_104 {X : Nat × (Nat → Int32)} {d : Nat} {I : Nat → Nat → Int32} {L : Nat → Nat → Int64} {Q : Option Value → XW → Prop} {x1 : Int32} {x2 : Int32} {x3 : Int32} {x4 : Int32} {x5 : Int32} {x6 : Int32}  : wp X d m236 104 [some (.ref 124), some (.int x1), some (.int x2), some (.int x3), some (.int x4), some (.int x5), some (.int x6)] [] (K0, R0, I, L) Q ↔ (if x6 < x5 then (inA (((60 * x1) + x2) + x6) 360 = true ∧ (inA x6 60 = true ∧ wp X d m236 104 [some (.ref 124), some (.int x1), some (.int x2), some (.int x3), some (.int x4), some (.int x5), some (.int (x6 + 1))] [] (K0, R0, I, (updR L 166 (Int32.toNatClampNeg x6) (L 165 (Int32.toNatClampNeg (((60 * x1) + x2) + x6))))) Q)) else wp X d m236 141 [some (.ref 124), none, none, some (.int x3), some (.int x4), some (.int x5), some (.int 0)] [] (K0, R0, I, L) Q) := (w_iload (pc' := 106) c236_104 rfl rfl).trans ((w_iload (pc' := 108) c236_106 rfl rfl).trans ((w_icmp_ge (pc' := 111) c236_108 rfl).trans (ite_iff ((w_aload_n (pc' := 112) c236_111 rfl rfl).trans ((w_getR (pc' := 115) (q := 166) c236_112 kd_124 (by decide) rfl rd_124_64 rfl).trans ((w_iload (pc' := 117) c236_115 rfl rfl).trans ((w_aload_n (pc' := 118) c236_117 rfl rfl).trans ((w_getR (pc' := 121) (q := 165) c236_118 kd_124 (by decide) rfl rd_124_63 rfl).trans ((w_bipush (pc' := 123) (v := 60) c236_121 rfl rfl).trans ((w_iload_n (pc' := 124) c236_123 rfl rfl).trans ((w_imul (pc' := 125) c236_124 rfl).trans ((w_iload_n (pc' := 126) c236_125 rfl rfl).trans ((w_iadd (pc' := 127) c236_126 rfl).trans ((w_iload (pc' := 129) c236_127 rfl rfl).trans ((w_iadd (pc' := 130) c236_129 rfl).trans ((w_laldv (pc' := 131) (v := (L 165 (Int32.toNatClampNeg (((60 * x1) + x2) + x6)))) c236_130 kd_165 (rfl) rfl).trans (and_congr_right (fun _ => (w_last (pc' := 132) c236_131 kd_166 rfl).trans (and_congr_right (fun _ => (w_iinc (pc' := 135) (v := (x6 + 1)) (ls' := [some (.ref 124), some (.int x1), some (.int x2), some (.int x3), some (.int x4), some (.int x5), some (.int (x6 + 1))]) c236_132 (Nat.le_of_ble_eq_true rfl) rfl rfl rfl rfl).trans ((w_goto c236_135))))))))))))))))))) ((w_iconst (pc' := 139) (v := 0) c236_138 rfl rfl).trans ((w_istore (pc' := 141) (ls' := [some (.ref 124), some (.int x1), some (.int x2), some (.int x3), some (.int x4), some (.int x5), some (.int 0)]) c236_139 (Nat.le_of_ble_eq_true rfl) rfl rfl).trans ((wp_msk lvok236 rfl)))))))
theorem b236_141 {X : Nat × (Nat → Int32)} {d : Nat} {I : Nat → Nat → Int32} {L : Nat → Nat → Int64} {Q : Option Value → XW → Prop} {x3 : Int32} {x4 : Int32} {x5 : Int32} {x6 : Int32}  : wp X d m236 141 [some (.ref 124), none, none, some (.int x3), some (.int x4), some (.int x5), some (.int x6)] [] (K0, R0, I, L) Q ↔ (if x6 < x5 then (inA x6 60 = true ∧ (inA (((60 * x3) + x4) + x6) 360 = true ∧ wp X d m236 141 [some (.ref 124), none, none, some (.int x3), some (.int x4), some (.int x5), some (.int (x6 + 1))] [] (K0, R0, I, (updR L 165 (Int32.toNatClampNeg (((60 * x3) + x4) + x6)) (L 166 (Int32.toNatClampNeg x6)))) Q)) else Q (some (.int x5)) (K0, R0, I, L)) := (w_iload (pc' := 143) c236_141 rfl rfl).trans ((w_iload (pc' := 145) c236_143 rfl rfl).trans ((w_icmp_ge (pc' := 148) c236_145 rfl).trans (ite_iff ((w_aload_n (pc' := 149) c236_148 rfl rfl).trans ((w_getR (pc' := 152) (q := 165) c236_149 kd_124 (by decide) rfl rd_124_63 rfl).trans ((w_bipush (pc' := 154) (v := 60) c236_152 rfl rfl).trans ((w_iload_n (pc' := 155) c236_154 rfl rfl).trans ((w_imul (pc' := 156) c236_155 rfl).trans ((w_iload (pc' := 158) c236_156 rfl rfl).trans ((w_iadd (pc' := 159) c236_158 rfl).trans ((w_iload (pc' := 161) c236_159 rfl rfl).trans ((w_iadd (pc' := 162) c236_161 rfl).trans ((w_aload_n (pc' := 163) c236_162 rfl rfl).trans ((w_getR (pc' := 166) (q := 166) c236_163 kd_124 (by decide) rfl rd_124_64 rfl).trans ((w_iload (pc' := 168) c236_166 rfl rfl).trans ((w_laldv (pc' := 169) (v := (L 166 (Int32.toNatClampNeg x6))) c236_168 kd_166 (rfl) rfl).trans (and_congr_right (fun _ => (w_last (pc' := 170) c236_169 kd_165 rfl).trans (and_congr_right (fun _ => (w_iinc (pc' := 173) (v := (x6 + 1)) (ls' := [some (.ref 124), none, none, some (.int x3), some (.int x4), some (.int x5), some (.int (x6 + 1))]) c236_170 (Nat.le_of_ble_eq_true rfl) rfl rfl rfl rfl).trans ((w_goto c236_173))))))))))))))))))) ((w_iload (pc' := 178) c236_176 rfl rfl).trans (w_iret c236_178 rfl)))))
