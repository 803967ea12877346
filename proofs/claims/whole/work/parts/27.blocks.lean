/-! Block equations of the methods 149 to 177 (printed by a program of ours out of their code). -/
-- LeavesObjectModel.goesText(I)Z
theorem c149_0 : cdx (mC m149) 0 = some (0, .aload_n 0, 1, 0, 0, 0, 0, []) := rfl
theorem c149_1 : cdx (mC m149) 1 = some (1, .iconst 0, 1, 0, 0, 0, 0, []) := rfl
theorem c149_2 : cdx (mC m149) 2 = some (2, .putfield 44, 3, 10, 11, 0, 4137, []) := rfl
theorem c149_5 : cdx (mC m149) 5 = some (5, .aload_n 0, 1, 0, 0, 0, 0, []) := rfl
theorem c149_6 : cdx (mC m149) 6 = some (6, .bipush 100, 2, 0, 0, 0, 0, []) := rfl
theorem c149_8 : cdx (mC m149) 8 = some (8, .iload_n 1, 1, 1, 0, 0, 0, []) := rfl
theorem c149_9 : cdx (mC m149) 9 = some (9, .imul, 1, 0, 0, 0, 0, []) := rfl
theorem c149_10 : cdx (mC m149) 10 = some (10, .putfield 74, 3, 10, 21, 0, 4147, []) := rfl
theorem c149_13 : cdx (mC m149) 13 = some (13, .iconst 0, 1, 0, 0, 0, 0, []) := rfl
theorem c149_14 : cdx (mC m149) 14 = some (14, .istore_n 2, 1, 2, 0, 0, 0, []) := rfl
theorem c149_15 : cdx (mC m149) 15 = some (15, .aload_n 0, 1, 0, 0, 0, 0, []) := rfl
theorem c149_16 : cdx (mC m149) 16 = some (16, .bipush 10, 2, 0, 0, 0, 0, []) := rfl
theorem c149_18 : cdx (mC m149) 18 = some (18, .iload_n 1, 1, 1, 0, 0, 0, []) := rfl
theorem c149_19 : cdx (mC m149) 19 = some (19, .imul, 1, 0, 0, 0, 0, []) := rfl
theorem c149_20 : cdx (mC m149) 20 = some (20, .iload_n 2, 1, 2, 0, 0, 0, []) := rfl
theorem c149_21 : cdx (mC m149) 21 = some (21, .iadd, 1, 0, 0, 0, 0, []) := rfl
theorem c149_22 : cdx (mC m149) 22 = some (22, .invokevirtual 264, 3, 150, 1, 0, 5119, [(10, 0)]) := rfl
theorem c149_25 : cdx (mC m149) 25 = some (25, .ifCond .ne 5, 3, 30, 0, 0, 0, []) := rfl
theorem c149_28 : cdx (mC m149) 28 = some (28, .iconst 0, 1, 0, 0, 0, 0, []) := rfl
theorem c149_29 : cdx (mC m149) 29 = some (29, .ireturn, 1, 0, 0, 0, 0, []) := rfl
theorem c149_30 : cdx (mC m149) 30 = some (30, .iinc 2 1, 3, 2, 0, 0, 0, []) := rfl
theorem c149_33 : cdx (mC m149) 33 = some (33, .aload_n 0, 1, 0, 0, 0, 0, []) := rfl
theorem c149_34 : cdx (mC m149) 34 = some (34, .getfield 53, 3, 10, 14, 0, 4140, []) := rfl
theorem c149_37 : cdx (mC m149) 37 = some (37, .iload_n 1, 1, 1, 0, 0, 0, []) := rfl
theorem c149_38 : cdx (mC m149) 38 = some (38, .iload_n 2, 1, 2, 0, 0, 0, []) := rfl
theorem c149_39 : cdx (mC m149) 39 = some (39, .iastore, 1, 0, 0, 0, 0, []) := rfl
theorem c149_40 : cdx (mC m149) 40 = some (40, .aload_n 0, 1, 0, 0, 0, 0, []) := rfl
theorem c149_41 : cdx (mC m149) 41 = some (41, .getfield 44, 3, 10, 11, 0, 4137, []) := rfl
theorem c149_44 : cdx (mC m149) 44 = some (44, .aload_n 0, 1, 0, 0, 0, 0, []) := rfl
theorem c149_45 : cdx (mC m149) 45 = some (45, .getfield 41, 3, 10, 10, 0, 4136, []) := rfl
theorem c149_48 : cdx (mC m149) 48 = some (48, .if_icmp .ne 5, 3, 53, 0, 0, 0, []) := rfl
theorem c149_51 : cdx (mC m149) 51 = some (51, .iconst 1, 1, 0, 0, 0, 0, []) := rfl
theorem c149_52 : cdx (mC m149) 52 = some (52, .ireturn, 1, 0, 0, 0, 0, []) := rfl
theorem c149_53 : cdx (mC m149) 53 = some (53, .iload_n 2, 1, 2, 0, 0, 0, []) := rfl
theorem c149_54 : cdx (mC m149) 54 = some (54, .bipush 10, 2, 0, 0, 0, 0, []) := rfl
theorem c149_56 : cdx (mC m149) 56 = some (56, .if_icmp .eq 12, 3, 68, 0, 0, 0, []) := rfl
theorem c149_59 : cdx (mC m149) 59 = some (59, .aload_n 0, 1, 0, 0, 0, 0, []) := rfl
theorem c149_60 : cdx (mC m149) 60 = some (60, .bipush 59, 2, 0, 0, 0, 0, []) := rfl
theorem c149_62 : cdx (mC m149) 62 = some (62, .invokevirtual 228, 3, 154, 1, 0, 5135, [(10, 0)]) := rfl
theorem c149_65 : cdx (mC m149) 65 = some (65, .ifCond .ne (-50), 3, 15, 0, 0, 0, []) := rfl
theorem c149_68 : cdx (mC m149) 68 = some (68, .iconst 0, 1, 0, 0, 0, 0, []) := rfl
theorem c149_69 : cdx (mC m149) 69 = some (69, .ireturn, 1, 0, 0, 0, 0, []) := rfl
theorem b149_0 {X : Nat × (Nat → Int32)} {d : Nat} {I : Nat → Nat → Int32} {L : Nat → Nat → Int64} {Q : Option Value → XW → Prop} {x1 : Int32}  : wp X d m149 0 [some (.ref 124), some (.int x1), none] [] (K0, R0, I, L) Q ↔ wp X d m149 15 [some (.ref 124), some (.int x1), some (.int 0)] [] (K0, R0, (updR (updR I 124 11 0) 124 21 (100 * x1)), L) Q := (w_aload_n (pc' := 1) c149_0 rfl rfl).trans ((w_iconst (pc' := 2) (v := 0) c149_1 rfl rfl).trans ((w_putI (pc' := 5) c149_2 kd_124 (by decide) rfl rfl rfl).trans ((w_aload_n (pc' := 6) c149_5 rfl rfl).trans ((w_bipush (pc' := 8) (v := 100) c149_6 rfl rfl).trans ((w_iload_n (pc' := 9) c149_8 rfl rfl).trans ((w_imul (pc' := 10) c149_9 rfl).trans ((w_putI (pc' := 13) c149_10 kd_124 (by decide) rfl rfl rfl).trans ((w_iconst (pc' := 14) (v := 0) c149_13 rfl rfl).trans ((w_istore_n (pc' := 15) (ls' := [some (.ref 124), some (.int x1), some (.int 0)]) c149_14 (Nat.le_of_ble_eq_true rfl) rfl rfl))))))))))
theorem b149_15 {X : Nat × (Nat → Int32)} {d : Nat} {I : Nat → Nat → Int32} {L : Nat → Nat → Int64} {Q : Option Value → XW → Prop} {x1 : Int32} {x2 : Int32}  : wp X (d + 1) m149 15 [some (.ref 124), some (.int x1), some (.int x2)] [] (K0, R0, I, L) Q ↔ wp X d m150 0 [some (.ref 124), some (.int ((10 * x1) + x2))] [] (K0, R0, I, L) (fun r w1 => wp X (d + 1) m149 25 [some (.ref 124), some (.int x1), some (.int x2)] (r.toList ++ []) w1 Q) := (w_aload_n (pc' := 16) c149_15 rfl rfl).trans ((w_bipush (pc' := 18) (v := 10) c149_16 rfl rfl).trans ((w_iload_n (pc' := 19) c149_18 rfl rfl).trans ((w_imul (pc' := 20) c149_19 rfl).trans ((w_iload_n (pc' := 21) c149_20 rfl rfl).trans ((w_iadd (pc' := 22) c149_21 rfl).trans ((w_callv (pc' := 25) c149_22 mt150 rfl (Nat.le_of_ble_eq_true rfl) rfl kd_124 rfl rfl (Nat.le_of_ble_eq_true rfl) rfl rfl)))))))
theorem b149_25 {X : Nat × (Nat → Int32)} {d : Nat} {I : Nat → Nat → Int32} {L : Nat → Nat → Int64} {Q : Option Value → XW → Prop} {x1 : Int32} {x2 : Int32} {s0 : Int32}  : wp X (d + 1) m149 25 [some (.ref 124), some (.int x1), some (.int x2)] [(.int s0)] (K0, R0, I, L) Q ↔ (if s0 = 0 then Q (some (.int 0)) (K0, R0, I, L) else (inA x1 6 = true ∧ (if (I 124 11) = (I 124 10) then Q (some (.int 1)) (K0, R0, (updR I 132 (Int32.toNatClampNeg x1) (x2 + 1)), L) else (if (x2 + 1) = 10 then Q (some (.int 0)) (K0, R0, (updR I 132 (Int32.toNatClampNeg x1) (x2 + 1)), L) else wp X d m154 0 [some (.ref 124), some (.int 59)] [] (K0, R0, (updR I 132 (Int32.toNatClampNeg x1) (x2 + 1)), L) (fun r w1 => wp X (d + 1) m149 65 [some (.ref 124), some (.int x1), some (.int (x2 + 1))] (r.toList ++ []) w1 Q))))) := (w_if_ne (pc' := 28) c149_25 rfl).trans (ite_iff ((w_iconst (pc' := 29) (v := 0) c149_28 rfl rfl).trans ((w_zret (ty := .boolean) c149_29 rfl (by decide)).trans (and_iff_right (by decide)))) ((w_iinc (pc' := 33) (v := (x2 + 1)) (ls' := [some (.ref 124), some (.int x1), some (.int (x2 + 1))]) c149_30 (Nat.le_of_ble_eq_true rfl) rfl rfl rfl rfl).trans ((w_aload_n (pc' := 34) c149_33 rfl rfl).trans ((w_getR (pc' := 37) (q := 132) c149_34 kd_124 (by decide) rfl rd_124_14 rfl).trans ((w_iload_n (pc' := 38) c149_37 rfl rfl).trans ((w_iload_n (pc' := 39) c149_38 rfl rfl).trans ((w_iast (pc' := 40) c149_39 kd_132 rfl).trans (and_congr_right (fun _ => (w_aload_n (pc' := 41) c149_40 rfl rfl).trans ((w_getIv (pc' := 44) (v := (I 124 11)) c149_41 kd_124 (by decide) rfl ((updR_k (by decide)).trans (rfl)) rfl).trans ((w_aload_n (pc' := 45) c149_44 rfl rfl).trans ((w_getIv (pc' := 48) (v := (I 124 10)) c149_45 kd_124 (by decide) rfl ((updR_k (by decide)).trans (rfl)) rfl).trans ((w_icmp_ne (pc' := 51) c149_48 rfl).trans (ite_iff ((w_iconst (pc' := 52) (v := 1) c149_51 rfl rfl).trans ((w_zret (ty := .boolean) c149_52 rfl (by decide)).trans (and_iff_right (by decide)))) ((w_iload_n (pc' := 54) c149_53 rfl rfl).trans ((w_bipush (pc' := 56) (v := 10) c149_54 rfl rfl).trans ((w_icmp_eq (pc' := 59) c149_56 rfl).trans (ite_iff ((w_iconst (pc' := 69) (v := 0) c149_68 rfl rfl).trans ((w_zret (ty := .boolean) c149_69 rfl (by decide)).trans (and_iff_right (by decide)))) ((w_aload_n (pc' := 60) c149_59 rfl rfl).trans ((w_bipush (pc' := 62) (v := 59) c149_60 rfl rfl).trans ((w_callv (pc' := 65) c149_62 mt154 rfl (Nat.le_of_ble_eq_true rfl) rfl kd_124 rfl rfl (Nat.le_of_ble_eq_true rfl) rfl rfl))))))))))))))))))))))
theorem b149_65 {X : Nat × (Nat → Int32)} {d : Nat} {I : Nat → Nat → Int32} {L : Nat → Nat → Int64} {Q : Option Value → XW → Prop} {x1 : Int32} {x2 : Int32} {s0 : Int32}  : wp X d m149 65 [some (.ref 124), some (.int x1), some (.int x2)] [(.int s0)] (K0, R0, I, L) Q ↔ (if s0 = 0 then Q (some (.int 0)) (K0, R0, I, L) else wp X d m149 15 [some (.ref 124), some (.int x1), some (.int x2)] [] (K0, R0, I, L) Q) := (w_if_ne (pc' := 68) c149_65 rfl).trans (ite_iff ((w_iconst (pc' := 69) (v := 0) c149_68 rfl rfl).trans ((w_zret (ty := .boolean) c149_69 rfl (by decide)).trans (and_iff_right (by decide)))) (Iff.rfl))
-- LeavesObjectModel.takesClause(I)Z
theorem c150_0 : cdx (mC m150) 0 = some (0, .aload_n 0, 1, 0, 0, 0, 0, []) := rfl
theorem c150_1 : cdx (mC m150) 1 = some (1, .iload_n 1, 1, 1, 0, 0, 0, []) := rfl
theorem c150_2 : cdx (mC m150) 2 = some (2, .invokevirtual 258, 3, 151, 1, 0, 5123, [(10, 0)]) := rfl
theorem c150_5 : cdx (mC m150) 5 = some (5, .ifCond .eq 10, 3, 15, 0, 0, 0, []) := rfl
theorem c150_8 : cdx (mC m150) 8 = some (8, .aload_n 0, 1, 0, 0, 0, 0, []) := rfl
theorem c150_9 : cdx (mC m150) 9 = some (9, .invokevirtual 243, 3, 155, 0, 0, 5139, [(10, 0)]) := rfl
theorem c150_12 : cdx (mC m150) 12 = some (12, .ifCond .ne 5, 3, 17, 0, 0, 0, []) := rfl
theorem c150_15 : cdx (mC m150) 15 = some (15, .iconst 0, 1, 0, 0, 0, 0, []) := rfl
theorem c150_16 : cdx (mC m150) 16 = some (16, .ireturn, 1, 0, 0, 0, 0, []) := rfl
theorem c150_17 : cdx (mC m150) 17 = some (17, .aload_n 0, 1, 0, 0, 0, 0, []) := rfl
theorem c150_18 : cdx (mC m150) 18 = some (18, .getfield 59, 3, 10, 16, 0, 4142, []) := rfl
theorem c150_21 : cdx (mC m150) 21 = some (21, .iload_n 1, 1, 1, 0, 0, 0, []) := rfl
theorem c150_22 : cdx (mC m150) 22 = some (22, .aload_n 0, 1, 0, 0, 0, 0, []) := rfl
theorem c150_23 : cdx (mC m150) 23 = some (23, .getfield 47, 3, 10, 12, 0, 4138, []) := rfl
theorem c150_26 : cdx (mC m150) 26 = some (26, .iastore, 1, 0, 0, 0, 0, []) := rfl
theorem c150_27 : cdx (mC m150) 27 = some (27, .aload_n 0, 1, 0, 0, 0, 0, []) := rfl
theorem c150_28 : cdx (mC m150) 28 = some (28, .getfield 56, 3, 10, 15, 0, 4141, []) := rfl
theorem c150_31 : cdx (mC m150) 31 = some (31, .iload_n 1, 1, 1, 0, 0, 0, []) := rfl
theorem c150_32 : cdx (mC m150) 32 = some (32, .iaload, 1, 0, 0, 0, 0, []) := rfl
theorem c150_33 : cdx (mC m150) 33 = some (33, .iconst 2, 1, 0, 0, 0, 0, []) := rfl
theorem c150_34 : cdx (mC m150) 34 = some (34, .if_icmp .ge 20, 3, 54, 0, 0, 0, []) := rfl
theorem c150_37 : cdx (mC m150) 37 = some (37, .aload_n 0, 1, 0, 0, 0, 0, []) := rfl
theorem c150_38 : cdx (mC m150) 38 = some (38, .bipush 32, 2, 0, 0, 0, 0, []) := rfl
theorem c150_40 : cdx (mC m150) 40 = some (40, .invokevirtual 228, 3, 154, 1, 0, 5135, [(10, 0)]) := rfl
theorem c150_43 : cdx (mC m150) 43 = some (43, .ifCond .eq 15, 3, 58, 0, 0, 0, []) := rfl
theorem c150_46 : cdx (mC m150) 46 = some (46, .aload_n 0, 1, 0, 0, 0, 0, []) := rfl
theorem c150_47 : cdx (mC m150) 47 = some (47, .iload_n 1, 1, 1, 0, 0, 0, []) := rfl
theorem c150_48 : cdx (mC m150) 48 = some (48, .invokevirtual 261, 3, 157, 1, 0, 5147, [(10, 0)]) := rfl
theorem c150_51 : cdx (mC m150) 51 = some (51, .ifCond .eq 7, 3, 58, 0, 0, 0, []) := rfl
theorem c150_54 : cdx (mC m150) 54 = some (54, .iconst 1, 1, 0, 0, 0, 0, []) := rfl
theorem c150_55 : cdx (mC m150) 55 = some (55, .goto 4, 3, 59, 0, 0, 0, []) := rfl
theorem c150_58 : cdx (mC m150) 58 = some (58, .iconst 0, 1, 0, 0, 0, 0, []) := rfl
theorem c150_59 : cdx (mC m150) 59 = some (59, .ireturn, 1, 0, 0, 0, 0, []) := rfl
def lv150 : List (Nat × List Nat) := [(0, [0, 1]), (1, [0, 1]), (2, [0, 1]), (5, [0, 1]), (8, [0, 1]), (9, [0, 1]), (12, [0, 1]), (17, [0, 1]), (18, [0, 1]), (21, [0, 1]), (22, [0, 1]), (23, [0, 1]), (26, [0, 1]), (27, [0, 1]), (28, [0, 1]), (31, [0, 1]), (32, [0, 1]), (33, [0, 1]), (34, [0, 1]), (37, [0, 1]), (38, [0, 1]), (40, [0, 1]), (43, [0, 1]), (46, [0, 1]), (47, [1])]
theorem lvok150 : lvOk (mC m150) lv150 = true := by decide +kernel
theorem b150_0 {X : Nat × (Nat → Int32)} {d : Nat} {I : Nat → Nat → Int32} {L : Nat → Nat → Int64} {Q : Option Value → XW → Prop} {x1 : Int32}  : wp X (d + 1) m150 0 [some (.ref 124), some (.int x1)] [] (K0, R0, I, L) Q ↔ wp X d m151 0 [some (.ref 124), some (.int x1)] [] (K0, R0, I, L) (fun r w1 => wp X (d + 1) m150 5 [some (.ref 124), some (.int x1)] (r.toList ++ []) w1 Q) := (w_aload_n (pc' := 1) c150_0 rfl rfl).trans ((w_iload_n (pc' := 2) c150_1 rfl rfl).trans ((w_callv (pc' := 5) c150_2 mt151 rfl (Nat.le_of_ble_eq_true rfl) rfl kd_124 rfl rfl (Nat.le_of_ble_eq_true rfl) rfl rfl)))
theorem b150_5 {X : Nat × (Nat → Int32)} {d : Nat} {I : Nat → Nat → Int32} {L : Nat → Nat → Int64} {Q : Option Value → XW → Prop} {x1 : Int32} {s0 : Int32}  : wp X (d + 1) m150 5 [some (.ref 124), some (.int x1)] [(.int s0)] (K0, R0, I, L) Q ↔ (if s0 = 0 then Q (some (.int 0)) (K0, R0, I, L) else wp X d m155 0 [some (.ref 124), none] [] (K0, R0, I, L) (fun r w1 => wp X (d + 1) m150 12 [some (.ref 124), some (.int x1)] (r.toList ++ []) w1 Q)) := (w_if_eq (pc' := 8) c150_5 rfl).trans (ite_iff ((w_iconst (pc' := 16) (v := 0) c150_15 rfl rfl).trans ((w_zret (ty := .boolean) c150_16 rfl (by decide)).trans (and_iff_right (by decide)))) ((w_aload_n (pc' := 9) c150_8 rfl rfl).trans ((w_callv (pc' := 12) c150_9 mt155 rfl (Nat.le_of_ble_eq_true rfl) rfl kd_124 rfl rfl (Nat.le_of_ble_eq_true rfl) rfl rfl))))
theorem b150_12 {X : Nat × (Nat → Int32)} {d : Nat} {I : Nat → Nat → Int32} {L : Nat → Nat → Int64} {Q : Option Value → XW → Prop} {x1 : Int32} {s0 : Int32}  : wp X (d + 1) m150 12 [some (.ref 124), some (.int x1)] [(.int s0)] (K0, R0, I, L) Q ↔ (if s0 = 0 then Q (some (.int 0)) (K0, R0, I, L) else (inA x1 60 = true ∧ (inA x1 60 = true ∧ (if (I 133 (Int32.toNatClampNeg x1)) < 2 then wp X d m154 0 [some (.ref 124), some (.int 32)] [] (K0, R0, (updR I 134 (Int32.toNatClampNeg x1) (I 124 12)), L) (fun r w1 => wp X (d + 1) m150 43 [some (.ref 124), some (.int x1)] (r.toList ++ []) w1 Q) else Q (some (.int 1)) (K0, R0, (updR I 134 (Int32.toNatClampNeg x1) (I 124 12)), L))))) := (w_if_ne (pc' := 15) c150_12 rfl).trans (ite_iff ((w_iconst (pc' := 16) (v := 0) c150_15 rfl rfl).trans ((w_zret (ty := .boolean) c150_16 rfl (by decide)).trans (and_iff_right (by decide)))) ((w_aload_n (pc' := 18) c150_17 rfl rfl).trans ((w_getR (pc' := 21) (q := 134) c150_18 kd_124 (by decide) rfl rd_124_16 rfl).trans ((w_iload_n (pc' := 22) c150_21 rfl rfl).trans ((w_aload_n (pc' := 23) c150_22 rfl rfl).trans ((w_getIv (pc' := 26) (v := (I 124 12)) c150_23 kd_124 (by decide) rfl (rfl) rfl).trans ((w_iast (pc' := 27) c150_26 kd_134 rfl).trans (and_congr_right (fun _ => (w_aload_n (pc' := 28) c150_27 rfl rfl).trans ((w_getR (pc' := 31) (q := 133) c150_28 kd_124 (by decide) rfl rd_124_15 rfl).trans ((w_iload_n (pc' := 32) c150_31 rfl rfl).trans ((w_ialdv (pc' := 33) (v := (I 133 (Int32.toNatClampNeg x1))) c150_32 kd_133 ((updR_k (by decide)).trans (rfl)) rfl).trans (and_congr_right (fun _ => (w_iconst (pc' := 34) (v := 2) c150_33 rfl rfl).trans ((w_icmp_ge (pc' := 37) c150_34 rfl).trans (ite_iff ((w_aload_n (pc' := 38) c150_37 rfl rfl).trans ((w_bipush (pc' := 40) (v := 32) c150_38 rfl rfl).trans ((w_callv (pc' := 43) c150_40 mt154 rfl (Nat.le_of_ble_eq_true rfl) rfl kd_124 rfl rfl (Nat.le_of_ble_eq_true rfl) rfl rfl)))) ((w_iconst (pc' := 55) (v := 1) c150_54 rfl rfl).trans ((w_goto c150_55).trans ((w_zret (ty := .boolean) c150_59 rfl (by decide)).trans (and_iff_right (by decide)))))))))))))))))))))
theorem b150_43 {X : Nat × (Nat → Int32)} {d : Nat} {I : Nat → Nat → Int32} {L : Nat → Nat → Int64} {Q : Option Value → XW → Prop} {x1 : Int32} {s0 : Int32}  : wp X (d + 1) m150 43 [some (.ref 124), some (.int x1)] [(.int s0)] (K0, R0, I, L) Q ↔ (if s0 = 0 then Q (some (.int 0)) (K0, R0, I, L) else wp X d m157 0 [some (.ref 124), some (.int x1), none, none] [] (K0, R0, I, L) (fun r w1 => wp X (d + 1) m150 51 [none, none] (r.toList ++ []) w1 Q)) := (w_if_eq (pc' := 46) c150_43 rfl).trans (ite_iff ((w_iconst (pc' := 59) (v := 0) c150_58 rfl rfl).trans ((w_zret (ty := .boolean) c150_59 rfl (by decide)).trans (and_iff_right (by decide)))) ((w_aload_n (pc' := 47) c150_46 rfl rfl).trans ((w_iload_n (pc' := 48) c150_47 rfl rfl).trans ((w_callv (pc' := 51) c150_48 mt157 rfl (Nat.le_of_ble_eq_true rfl) rfl kd_124 rfl rfl (Nat.le_of_ble_eq_true rfl) rfl rfl).trans (wp_congr (fun r w1 => wp_msk lvok150 rfl))))))
theorem b150_51 {X : Nat × (Nat → Int32)} {d : Nat} {I : Nat → Nat → Int32} {L : Nat → Nat → Int64} {Q : Option Value → XW → Prop} {s0 : Int32}  : wp X d m150 51 [none, none] [(.int s0)] (K0, R0, I, L) Q ↔ Q (some (.int (if s0 = 0 then 0 else 1))) (K0, R0, I, L) := (w_if_eq (pc' := 54) c150_51 rfl).trans ((ite_iff ((w_iconst (pc' := 59) (v := 0) c150_58 rfl rfl).trans ((w_zret (ty := .boolean) c150_59 rfl (by decide)).trans (and_iff_right (by decide)))) ((w_iconst (pc' := 55) (v := 1) c150_54 rfl rfl).trans ((w_goto c150_55).trans ((w_zret (ty := .boolean) c150_59 rfl (by decide)).trans (and_iff_right (by decide)))))).trans (ite_val (fun z => Q (some (.int z)) (K0, R0, I, L))))
-- LeavesObjectModel.takesHead(I)Z
theorem c151_0 : cdx (mC m151) 0 = some (0, .aload_n 0, 1, 0, 0, 0, 0, []) := rfl
theorem c151_1 : cdx (mC m151) 1 = some (1, .invokevirtual 224, 3, 152, 0, 0, 5127, [(10, 0)]) := rfl
theorem c151_4 : cdx (mC m151) 4 = some (4, .lookupswitch 79 #[(98, 50), (114, 64), (119, 36)], 36, 83, 0, 0, 0, [(98, 54), (114, 68), (119, 40)]) := rfl
theorem c151_40 : cdx (mC m151) 40 = some (40, .aload_n 0, 1, 0, 0, 0, 0, []) := rfl
theorem c151_41 : cdx (mC m151) 41 = some (41, .getfield 56, 3, 10, 15, 0, 4141, []) := rfl
theorem c151_44 : cdx (mC m151) 44 = some (44, .iload_n 1, 1, 1, 0, 0, 0, []) := rfl
theorem c151_45 : cdx (mC m151) 45 = some (45, .iconst 0, 1, 0, 0, 0, 0, []) := rfl
theorem c151_46 : cdx (mC m151) 46 = some (46, .iastore, 1, 0, 0, 0, 0, []) := rfl
theorem c151_47 : cdx (mC m151) 47 = some (47, .aload_n 0, 1, 0, 0, 0, 0, []) := rfl
theorem c151_48 : cdx (mC m151) 48 = some (48, .iconst 0, 1, 0, 0, 0, 0, []) := rfl
theorem c151_49 : cdx (mC m151) 49 = some (49, .iconst 4, 1, 0, 0, 0, 0, []) := rfl
theorem c151_50 : cdx (mC m151) 50 = some (50, .invokevirtual 255, 3, 153, 2, 0, 5131, [(10, 0)]) := rfl
theorem c151_53 : cdx (mC m151) 53 = some (53, .ireturn, 1, 0, 0, 0, 0, []) := rfl
theorem c151_54 : cdx (mC m151) 54 = some (54, .aload_n 0, 1, 0, 0, 0, 0, []) := rfl
theorem c151_55 : cdx (mC m151) 55 = some (55, .getfield 56, 3, 10, 15, 0, 4141, []) := rfl
theorem c151_58 : cdx (mC m151) 58 = some (58, .iload_n 1, 1, 1, 0, 0, 0, []) := rfl
theorem c151_59 : cdx (mC m151) 59 = some (59, .iconst 1, 1, 0, 0, 0, 0, []) := rfl
theorem c151_60 : cdx (mC m151) 60 = some (60, .iastore, 1, 0, 0, 0, 0, []) := rfl
theorem c151_61 : cdx (mC m151) 61 = some (61, .aload_n 0, 1, 0, 0, 0, 0, []) := rfl
theorem c151_62 : cdx (mC m151) 62 = some (62, .iconst 4, 1, 0, 0, 0, 0, []) := rfl
theorem c151_63 : cdx (mC m151) 63 = some (63, .iconst 4, 1, 0, 0, 0, 0, []) := rfl
theorem c151_64 : cdx (mC m151) 64 = some (64, .invokevirtual 255, 3, 153, 2, 0, 5131, [(10, 0)]) := rfl
theorem c151_67 : cdx (mC m151) 67 = some (67, .ireturn, 1, 0, 0, 0, 0, []) := rfl
theorem c151_68 : cdx (mC m151) 68 = some (68, .aload_n 0, 1, 0, 0, 0, 0, []) := rfl
theorem c151_69 : cdx (mC m151) 69 = some (69, .getfield 56, 3, 10, 15, 0, 4141, []) := rfl
theorem c151_72 : cdx (mC m151) 72 = some (72, .iload_n 1, 1, 1, 0, 0, 0, []) := rfl
theorem c151_73 : cdx (mC m151) 73 = some (73, .iconst 2, 1, 0, 0, 0, 0, []) := rfl
theorem c151_74 : cdx (mC m151) 74 = some (74, .iastore, 1, 0, 0, 0, 0, []) := rfl
theorem c151_75 : cdx (mC m151) 75 = some (75, .aload_n 0, 1, 0, 0, 0, 0, []) := rfl
theorem c151_76 : cdx (mC m151) 76 = some (76, .bipush 8, 2, 0, 0, 0, 0, []) := rfl
theorem c151_78 : cdx (mC m151) 78 = some (78, .iconst 4, 1, 0, 0, 0, 0, []) := rfl
theorem c151_79 : cdx (mC m151) 79 = some (79, .invokevirtual 255, 3, 153, 2, 0, 5131, [(10, 0)]) := rfl
theorem c151_82 : cdx (mC m151) 82 = some (82, .ireturn, 1, 0, 0, 0, 0, []) := rfl
theorem c151_83 : cdx (mC m151) 83 = some (83, .aload_n 0, 1, 0, 0, 0, 0, []) := rfl
theorem c151_84 : cdx (mC m151) 84 = some (84, .getfield 56, 3, 10, 15, 0, 4141, []) := rfl
theorem c151_87 : cdx (mC m151) 87 = some (87, .iload_n 1, 1, 1, 0, 0, 0, []) := rfl
theorem c151_88 : cdx (mC m151) 88 = some (88, .iconst 3, 1, 0, 0, 0, 0, []) := rfl
theorem c151_89 : cdx (mC m151) 89 = some (89, .iastore, 1, 0, 0, 0, 0, []) := rfl
theorem c151_90 : cdx (mC m151) 90 = some (90, .aload_n 0, 1, 0, 0, 0, 0, []) := rfl
theorem c151_91 : cdx (mC m151) 91 = some (91, .bipush 12, 2, 0, 0, 0, 0, []) := rfl
theorem c151_93 : cdx (mC m151) 93 = some (93, .iconst 4, 1, 0, 0, 0, 0, []) := rfl
theorem c151_94 : cdx (mC m151) 94 = some (94, .invokevirtual 255, 3, 153, 2, 0, 5131, [(10, 0)]) := rfl
theorem c151_97 : cdx (mC m151) 97 = some (97, .ireturn, 1, 0, 0, 0, 0, []) := rfl
def lv151 : List (Nat × List Nat) := [(0, [0, 1]), (1, [0, 1]), (4, [0, 1]), (40, [0, 1]), (41, [0, 1]), (44, [0, 1]), (45, [0]), (46, [0]), (47, [0]), (54, [0, 1]), (55, [0, 1]), (58, [0, 1]), (59, [0]), (60, [0]), (61, [0]), (68, [0, 1]), (69, [0, 1]), (72, [0, 1]), (73, [0]), (74, [0]), (75, [0]), (83, [0, 1]), (84, [0, 1]), (87, [0, 1]), (88, [0]), (89, [0]), (90, [0])]
theorem lvok151 : lvOk (mC m151) lv151 = true := by decide +kernel
theorem b151_0 {X : Nat × (Nat → Int32)} {d : Nat} {I : Nat → Nat → Int32} {L : Nat → Nat → Int64} {Q : Option Value → XW → Prop} {x1 : Int32}  : wp X (d + 1) m151 0 [some (.ref 124), some (.int x1)] [] (K0, R0, I, L) Q ↔ wp X d m152 0 [some (.ref 124)] [] (K0, R0, I, L) (fun r w1 => wp X (d + 1) m151 4 [some (.ref 124), some (.int x1)] (r.toList ++ []) w1 Q) := (w_aload_n (pc' := 1) c151_0 rfl rfl).trans ((w_callv (pc' := 4) c151_1 mt152 rfl (Nat.le_of_ble_eq_true rfl) rfl kd_124 rfl rfl (Nat.le_of_ble_eq_true rfl) rfl rfl))
theorem b151_4 {X : Nat × (Nat → Int32)} {d : Nat} {I : Nat → Nat → Int32} {L : Nat → Nat → Int64} {Q : Option Value → XW → Prop} {x1 : Int32} {s0 : Int32}  : wp X (d + 1) m151 4 [some (.ref 124), some (.int x1)] [(.int s0)] (K0, R0, I, L) Q ↔ (if s0 = 98 then (inA x1 60 = true ∧ wp X d m153 0 [some (.ref 124), some (.int 4), some (.int 4), none] [] (K0, R0, (updR I 133 (Int32.toNatClampNeg x1) 1), L) (fun r w1 => wp X (d + 1) m151 67 [none, none] (r.toList ++ []) w1 Q)) else (if s0 = 114 then (inA x1 60 = true ∧ wp X d m153 0 [some (.ref 124), some (.int 8), some (.int 4), none] [] (K0, R0, (updR I 133 (Int32.toNatClampNeg x1) 2), L) (fun r w1 => wp X (d + 1) m151 82 [none, none] (r.toList ++ []) w1 Q)) else (if s0 = 119 then (inA x1 60 = true ∧ wp X d m153 0 [some (.ref 124), some (.int 0), some (.int 4), none] [] (K0, R0, (updR I 133 (Int32.toNatClampNeg x1) 0), L) (fun r w1 => wp X (d + 1) m151 53 [none, none] (r.toList ++ []) w1 Q)) else (inA x1 60 = true ∧ wp X d m153 0 [some (.ref 124), some (.int 12), some (.int 4), none] [] (K0, R0, (updR I 133 (Int32.toNatClampNeg x1) 3), L) (fun r w1 => wp X (d + 1) m151 97 [none, none] (r.toList ++ []) w1 Q))))) := (w_lswitch c151_4).trans ((w_swcons (v := 98) rfl).trans (ite_iff ((w_aload_n (pc' := 55) c151_54 rfl rfl).trans ((w_getR (pc' := 58) (q := 133) c151_55 kd_124 (by decide) rfl rd_124_15 rfl).trans ((w_iload_n (pc' := 59) c151_58 rfl rfl).trans ((w_iconst (pc' := 60) (v := 1) c151_59 rfl rfl).trans ((w_iast (pc' := 61) c151_60 kd_133 rfl).trans (and_congr_right (fun _ => (w_aload_n (pc' := 62) c151_61 rfl rfl).trans ((w_iconst (pc' := 63) (v := 4) c151_62 rfl rfl).trans ((w_iconst (pc' := 64) (v := 4) c151_63 rfl rfl).trans ((w_callv (pc' := 67) c151_64 mt153 rfl (Nat.le_of_ble_eq_true rfl) rfl kd_124 rfl rfl (Nat.le_of_ble_eq_true rfl) rfl rfl).trans (wp_congr (fun r w1 => wp_msk lvok151 rfl)))))))))))) ((w_swcons (v := 114) rfl).trans (ite_iff ((w_aload_n (pc' := 69) c151_68 rfl rfl).trans ((w_getR (pc' := 72) (q := 133) c151_69 kd_124 (by decide) rfl rd_124_15 rfl).trans ((w_iload_n (pc' := 73) c151_72 rfl rfl).trans ((w_iconst (pc' := 74) (v := 2) c151_73 rfl rfl).trans ((w_iast (pc' := 75) c151_74 kd_133 rfl).trans (and_congr_right (fun _ => (w_aload_n (pc' := 76) c151_75 rfl rfl).trans ((w_bipush (pc' := 78) (v := 8) c151_76 rfl rfl).trans ((w_iconst (pc' := 79) (v := 4) c151_78 rfl rfl).trans ((w_callv (pc' := 82) c151_79 mt153 rfl (Nat.le_of_ble_eq_true rfl) rfl kd_124 rfl rfl (Nat.le_of_ble_eq_true rfl) rfl rfl).trans (wp_congr (fun r w1 => wp_msk lvok151 rfl)))))))))))) ((w_swcons (v := 119) rfl).trans (ite_iff ((w_aload_n (pc' := 41) c151_40 rfl rfl).trans ((w_getR (pc' := 44) (q := 133) c151_41 kd_124 (by decide) rfl rd_124_15 rfl).trans ((w_iload_n (pc' := 45) c151_44 rfl rfl).trans ((w_iconst (pc' := 46) (v := 0) c151_45 rfl rfl).trans ((w_iast (pc' := 47) c151_46 kd_133 rfl).trans (and_congr_right (fun _ => (w_aload_n (pc' := 48) c151_47 rfl rfl).trans ((w_iconst (pc' := 49) (v := 0) c151_48 rfl rfl).trans ((w_iconst (pc' := 50) (v := 4) c151_49 rfl rfl).trans ((w_callv (pc' := 53) c151_50 mt153 rfl (Nat.le_of_ble_eq_true rfl) rfl kd_124 rfl rfl (Nat.le_of_ble_eq_true rfl) rfl rfl).trans (wp_congr (fun r w1 => wp_msk lvok151 rfl)))))))))))) ((w_swnil).trans ((w_aload_n (pc' := 84) c151_83 rfl rfl).trans ((w_getR (pc' := 87) (q := 133) c151_84 kd_124 (by decide) rfl rd_124_15 rfl).trans ((w_iload_n (pc' := 88) c151_87 rfl rfl).trans ((w_iconst (pc' := 89) (v := 3) c151_88 rfl rfl).trans ((w_iast (pc' := 90) c151_89 kd_133 rfl).trans (and_congr_right (fun _ => (w_aload_n (pc' := 91) c151_90 rfl rfl).trans ((w_bipush (pc' := 93) (v := 12) c151_91 rfl rfl).trans ((w_iconst (pc' := 94) (v := 4) c151_93 rfl rfl).trans ((w_callv (pc' := 97) c151_94 mt153 rfl (Nat.le_of_ble_eq_true rfl) rfl kd_124 rfl rfl (Nat.le_of_ble_eq_true rfl) rfl rfl).trans (wp_congr (fun r w1 => wp_msk lvok151 rfl)))))))))))))))))))
theorem b151_67 {X : Nat × (Nat → Int32)} {d : Nat} {I : Nat → Nat → Int32} {L : Nat → Nat → Int64} {Q : Option Value → XW → Prop} {s0 : Int32}  : wp X d m151 67 [none, none] [(.int s0)] (K0, R0, I, L) Q ↔ (fits .boolean (.int s0) = true ∧ Q (some (.int s0)) (K0, R0, I, L)) := w_zret c151_67 rfl (by decide)
theorem b151_82 {X : Nat × (Nat → Int32)} {d : Nat} {I : Nat → Nat → Int32} {L : Nat → Nat → Int64} {Q : Option Value → XW → Prop} {s0 : Int32}  : wp X d m151 82 [none, none] [(.int s0)] (K0, R0, I, L) Q ↔ (fits .boolean (.int s0) = true ∧ Q (some (.int s0)) (K0, R0, I, L)) := w_zret c151_82 rfl (by decide)
theorem b151_53 {X : Nat × (Nat → Int32)} {d : Nat} {I : Nat → Nat → Int32} {L : Nat → Nat → Int64} {Q : Option Value → XW → Prop} {s0 : Int32}  : wp X d m151 53 [none, none] [(.int s0)] (K0, R0, I, L) Q ↔ (fits .boolean (.int s0) = true ∧ Q (some (.int s0)) (K0, R0, I, L)) := w_zret c151_53 rfl (by decide)
theorem b151_97 {X : Nat × (Nat → Int32)} {d : Nat} {I : Nat → Nat → Int32} {L : Nat → Nat → Int64} {Q : Option Value → XW → Prop} {s0 : Int32}  : wp X d m151 97 [none, none] [(.int s0)] (K0, R0, I, L) Q ↔ (fits .boolean (.int s0) = true ∧ Q (some (.int s0)) (K0, R0, I, L)) := w_zret c151_97 rfl (by decide)
-- LeavesObjectModel.peek()I
theorem c152_0 : cdx (mC m152) 0 = some (0, .aload_n 0, 1, 0, 0, 0, 0, []) := rfl
theorem c152_1 : cdx (mC m152) 1 = some (1, .getfield 44, 3, 10, 11, 0, 4137, []) := rfl
theorem c152_4 : cdx (mC m152) 4 = some (4, .aload_n 0, 1, 0, 0, 0, 0, []) := rfl
theorem c152_5 : cdx (mC m152) 5 = some (5, .getfield 41, 3, 10, 10, 0, 4136, []) := rfl
theorem c152_8 : cdx (mC m152) 8 = some (8, .if_icmp .ge 15, 3, 23, 0, 0, 0, []) := rfl
theorem c152_11 : cdx (mC m152) 11 = some (11, .aload_n 0, 1, 0, 0, 0, 0, []) := rfl
theorem c152_12 : cdx (mC m152) 12 = some (12, .getfield 50, 3, 10, 13, 0, 4139, []) := rfl
theorem c152_15 : cdx (mC m152) 15 = some (15, .aload_n 0, 1, 0, 0, 0, 0, []) := rfl
theorem c152_16 : cdx (mC m152) 16 = some (16, .getfield 44, 3, 10, 11, 0, 4137, []) := rfl
theorem c152_19 : cdx (mC m152) 19 = some (19, .iaload, 1, 0, 0, 0, 0, []) := rfl
theorem c152_20 : cdx (mC m152) 20 = some (20, .goto 4, 3, 24, 0, 0, 0, []) := rfl
theorem c152_23 : cdx (mC m152) 23 = some (23, .iconst (-1), 1, 0, 0, 0, 0, []) := rfl
theorem c152_24 : cdx (mC m152) 24 = some (24, .ireturn, 1, 0, 0, 0, 0, []) := rfl
theorem b152_0 {X : Nat × (Nat → Int32)} {d : Nat} {I : Nat → Nat → Int32} {L : Nat → Nat → Int64} {Q : Option Value → XW → Prop}   : wp X d m152 0 [some (.ref 124)] [] (K0, R0, I, L) Q ↔ (if (I 124 11) < (I 124 10) then (inA (I 124 11) 100 = true ∧ Q (some (.int (I 131 (Int32.toNatClampNeg (I 124 11))))) (K0, R0, I, L)) else Q (some (.int (-1))) (K0, R0, I, L)) := (w_aload_n (pc' := 1) c152_0 rfl rfl).trans ((w_getIv (pc' := 4) (v := (I 124 11)) c152_1 kd_124 (by decide) rfl (rfl) rfl).trans ((w_aload_n (pc' := 5) c152_4 rfl rfl).trans ((w_getIv (pc' := 8) (v := (I 124 10)) c152_5 kd_124 (by decide) rfl (rfl) rfl).trans ((w_icmp_ge (pc' := 11) c152_8 rfl).trans (ite_iff ((w_aload_n (pc' := 12) c152_11 rfl rfl).trans ((w_getR (pc' := 15) (q := 131) c152_12 kd_124 (by decide) rfl rd_124_13 rfl).trans ((w_aload_n (pc' := 16) c152_15 rfl rfl).trans ((w_getIv (pc' := 19) (v := (I 124 11)) c152_16 kd_124 (by decide) rfl (rfl) rfl).trans ((w_ialdv (pc' := 20) (v := (I 131 (Int32.toNatClampNeg (I 124 11)))) c152_19 kd_131 (rfl) rfl).trans (and_congr_right (fun _ => (w_goto c152_20).trans (w_iret c152_24 rfl)))))))) ((w_iconst (pc' := 24) (v := (-1)) c152_23 rfl rfl).trans (w_iret c152_24 rfl)))))))
-- LeavesObjectModel.takesWord(II)Z
theorem c153_0 : cdx (mC m153) 0 = some (0, .iconst 0, 1, 0, 0, 0, 0, []) := rfl
theorem c153_1 : cdx (mC m153) 1 = some (1, .istore_n 3, 1, 3, 0, 0, 0, []) := rfl
theorem c153_2 : cdx (mC m153) 2 = some (2, .iload_n 3, 1, 3, 0, 0, 0, []) := rfl
theorem c153_3 : cdx (mC m153) 3 = some (3, .iload_n 2, 1, 2, 0, 0, 0, []) := rfl
theorem c153_4 : cdx (mC m153) 4 = some (4, .if_icmp .ge 26, 3, 30, 0, 0, 0, []) := rfl
theorem c153_7 : cdx (mC m153) 7 = some (7, .aload_n 0, 1, 0, 0, 0, 0, []) := rfl
theorem c153_8 : cdx (mC m153) 8 = some (8, .aload_n 0, 1, 0, 0, 0, 0, []) := rfl
theorem c153_9 : cdx (mC m153) 9 = some (9, .getfield 83, 3, 10, 24, 0, 4150, []) := rfl
theorem c153_12 : cdx (mC m153) 12 = some (12, .iload_n 1, 1, 1, 0, 0, 0, []) := rfl
theorem c153_13 : cdx (mC m153) 13 = some (13, .iload_n 3, 1, 3, 0, 0, 0, []) := rfl
theorem c153_14 : cdx (mC m153) 14 = some (14, .iadd, 1, 0, 0, 0, 0, []) := rfl
theorem c153_15 : cdx (mC m153) 15 = some (15, .iaload, 1, 0, 0, 0, 0, []) := rfl
theorem c153_16 : cdx (mC m153) 16 = some (16, .invokevirtual 228, 3, 154, 1, 0, 5135, [(10, 0)]) := rfl
theorem c153_19 : cdx (mC m153) 19 = some (19, .ifCond .ne 5, 3, 24, 0, 0, 0, []) := rfl
theorem c153_22 : cdx (mC m153) 22 = some (22, .iconst 0, 1, 0, 0, 0, 0, []) := rfl
theorem c153_23 : cdx (mC m153) 23 = some (23, .ireturn, 1, 0, 0, 0, 0, []) := rfl
theorem c153_24 : cdx (mC m153) 24 = some (24, .iinc 3 1, 3, 3, 0, 0, 0, []) := rfl
theorem c153_27 : cdx (mC m153) 27 = some (27, .goto (-25), 3, 2, 0, 0, 0, []) := rfl
theorem c153_30 : cdx (mC m153) 30 = some (30, .aload_n 0, 1, 0, 0, 0, 0, []) := rfl
theorem c153_31 : cdx (mC m153) 31 = some (31, .bipush 32, 2, 0, 0, 0, 0, []) := rfl
theorem c153_33 : cdx (mC m153) 33 = some (33, .invokevirtual 228, 3, 154, 1, 0, 5135, [(10, 0)]) := rfl
theorem c153_36 : cdx (mC m153) 36 = some (36, .ireturn, 1, 0, 0, 0, 0, []) := rfl
def lv153 : List (Nat × List Nat) := [(0, [0, 1, 2]), (1, [0, 1, 2]), (2, [0, 1, 2, 3]), (3, [0, 1, 2, 3]), (4, [0, 1, 2, 3]), (7, [0, 1, 2, 3]), (8, [0, 1, 2, 3]), (9, [0, 1, 2, 3]), (12, [0, 1, 2, 3]), (13, [0, 1, 2, 3]), (14, [0, 1, 2, 3]), (15, [0, 1, 2, 3]), (16, [0, 1, 2, 3]), (19, [0, 1, 2, 3]), (24, [0, 1, 2, 3]), (27, [0, 1, 2, 3]), (30, [0])]
theorem lvok153 : lvOk (mC m153) lv153 = true := by decide +kernel
theorem b153_0 {X : Nat × (Nat → Int32)} {d : Nat} {I : Nat → Nat → Int32} {L : Nat → Nat → Int64} {Q : Option Value → XW → Prop} {x1 : Int32} {x2 : Int32}  : wp X d m153 0 [some (.ref 124), some (.int x1), some (.int x2), none] [] (K0, R0, I, L) Q ↔ wp X d m153 2 [some (.ref 124), some (.int x1), some (.int x2), some (.int 0)] [] (K0, R0, I, L) Q := (w_iconst (pc' := 1) (v := 0) c153_0 rfl rfl).trans ((w_istore_n (pc' := 2) (ls' := [some (.ref 124), some (.int x1), some (.int x2), some (.int 0)]) c153_1 (Nat.le_of_ble_eq_true rfl) rfl rfl))
theorem b153_2 {X : Nat × (Nat → Int32)} {d : Nat} {I : Nat → Nat → Int32} {L : Nat → Nat → Int64} {Q : Option Value → XW → Prop} {x1 : Int32} {x2 : Int32} {x3 : Int32}  : wp X (d + 1) m153 2 [some (.ref 124), some (.int x1), some (.int x2), some (.int x3)] [] (K0, R0, I, L) Q ↔ (if x3 < x2 then (inA (x1 + x3) 16 = true ∧ wp X d m154 0 [some (.ref 124), some (.int (I 139 (Int32.toNatClampNeg (x1 + x3))))] [] (K0, R0, I, L) (fun r w1 => wp X (d + 1) m153 19 [some (.ref 124), some (.int x1), some (.int x2), some (.int x3)] (r.toList ++ []) w1 Q)) else wp X d m154 0 [some (.ref 124), some (.int 32)] [] (K0, R0, I, L) (fun r w1 => wp X (d + 1) m153 36 [none, none, none, none] (r.toList ++ []) w1 Q)) := (w_iload_n (pc' := 3) c153_2 rfl rfl).trans ((w_iload_n (pc' := 4) c153_3 rfl rfl).trans ((w_icmp_ge (pc' := 7) c153_4 rfl).trans (ite_iff ((w_aload_n (pc' := 8) c153_7 rfl rfl).trans ((w_aload_n (pc' := 9) c153_8 rfl rfl).trans ((w_getR (pc' := 12) (q := 139) c153_9 kd_124 (by decide) rfl rd_124_24 rfl).trans ((w_iload_n (pc' := 13) c153_12 rfl rfl).trans ((w_iload_n (pc' := 14) c153_13 rfl rfl).trans ((w_iadd (pc' := 15) c153_14 rfl).trans ((w_ialdv (pc' := 16) (v := (I 139 (Int32.toNatClampNeg (x1 + x3)))) c153_15 kd_139 (rfl) rfl).trans (and_congr_right (fun _ => (w_callv (pc' := 19) c153_16 mt154 rfl (Nat.le_of_ble_eq_true rfl) rfl kd_124 rfl rfl (Nat.le_of_ble_eq_true rfl) rfl rfl)))))))))) ((w_aload_n (pc' := 31) c153_30 rfl rfl).trans ((w_bipush (pc' := 33) (v := 32) c153_31 rfl rfl).trans ((w_callv (pc' := 36) c153_33 mt154 rfl (Nat.le_of_ble_eq_true rfl) rfl kd_124 rfl rfl (Nat.le_of_ble_eq_true rfl) rfl rfl).trans (wp_congr (fun r w1 => wp_msk lvok153 rfl))))))))
theorem b153_19 {X : Nat × (Nat → Int32)} {d : Nat} {I : Nat → Nat → Int32} {L : Nat → Nat → Int64} {Q : Option Value → XW → Prop} {x1 : Int32} {x2 : Int32} {x3 : Int32} {s0 : Int32}  : wp X d m153 19 [some (.ref 124), some (.int x1), some (.int x2), some (.int x3)] [(.int s0)] (K0, R0, I, L) Q ↔ (if s0 = 0 then Q (some (.int 0)) (K0, R0, I, L) else wp X d m153 2 [some (.ref 124), some (.int x1), some (.int x2), some (.int (x3 + 1))] [] (K0, R0, I, L) Q) := (w_if_ne (pc' := 22) c153_19 rfl).trans (ite_iff ((w_iconst (pc' := 23) (v := 0) c153_22 rfl rfl).trans ((w_zret (ty := .boolean) c153_23 rfl (by decide)).trans (and_iff_right (by decide)))) ((w_iinc (pc' := 27) (v := (x3 + 1)) (ls' := [some (.ref 124), some (.int x1), some (.int x2), some (.int (x3 + 1))]) c153_24 (Nat.le_of_ble_eq_true rfl) rfl rfl rfl rfl).trans ((w_goto c153_27))))
theorem b153_36 {X : Nat × (Nat → Int32)} {d : Nat} {I : Nat → Nat → Int32} {L : Nat → Nat → Int64} {Q : Option Value → XW → Prop} {s0 : Int32}  : wp X d m153 36 [none, none, none, none] [(.int s0)] (K0, R0, I, L) Q ↔ (fits .boolean (.int s0) = true ∧ Q (some (.int s0)) (K0, R0, I, L)) := w_zret c153_36 rfl (by decide)
-- LeavesObjectModel.takes(I)Z
theorem c154_0 : cdx (mC m154) 0 = some (0, .aload_n 0, 1, 0, 0, 0, 0, []) := rfl
theorem c154_1 : cdx (mC m154) 1 = some (1, .invokevirtual 224, 3, 152, 0, 0, 5127, [(10, 0)]) := rfl
theorem c154_4 : cdx (mC m154) 4 = some (4, .iload_n 1, 1, 1, 0, 0, 0, []) := rfl
theorem c154_5 : cdx (mC m154) 5 = some (5, .if_icmp .eq 5, 3, 10, 0, 0, 0, []) := rfl
theorem c154_8 : cdx (mC m154) 8 = some (8, .iconst 0, 1, 0, 0, 0, 0, []) := rfl
theorem c154_9 : cdx (mC m154) 9 = some (9, .ireturn, 1, 0, 0, 0, 0, []) := rfl
theorem c154_10 : cdx (mC m154) 10 = some (10, .aload_n 0, 1, 0, 0, 0, 0, []) := rfl
theorem c154_11 : cdx (mC m154) 11 = some (11, .dup, 1, 0, 0, 0, 0, []) := rfl
theorem c154_12 : cdx (mC m154) 12 = some (12, .getfield 44, 3, 10, 11, 0, 4137, []) := rfl
theorem c154_15 : cdx (mC m154) 15 = some (15, .iconst 1, 1, 0, 0, 0, 0, []) := rfl
theorem c154_16 : cdx (mC m154) 16 = some (16, .iadd, 1, 0, 0, 0, 0, []) := rfl
theorem c154_17 : cdx (mC m154) 17 = some (17, .putfield 44, 3, 10, 11, 0, 4137, []) := rfl
theorem c154_20 : cdx (mC m154) 20 = some (20, .iconst 1, 1, 0, 0, 0, 0, []) := rfl
theorem c154_21 : cdx (mC m154) 21 = some (21, .ireturn, 1, 0, 0, 0, 0, []) := rfl
theorem b154_0 {X : Nat × (Nat → Int32)} {d : Nat} {I : Nat → Nat → Int32} {L : Nat → Nat → Int64} {Q : Option Value → XW → Prop} {x1 : Int32}  : wp X (d + 1) m154 0 [some (.ref 124), some (.int x1)] [] (K0, R0, I, L) Q ↔ wp X d m152 0 [some (.ref 124)] [] (K0, R0, I, L) (fun r w1 => wp X (d + 1) m154 4 [some (.ref 124), some (.int x1)] (r.toList ++ []) w1 Q) := (w_aload_n (pc' := 1) c154_0 rfl rfl).trans ((w_callv (pc' := 4) c154_1 mt152 rfl (Nat.le_of_ble_eq_true rfl) rfl kd_124 rfl rfl (Nat.le_of_ble_eq_true rfl) rfl rfl))
theorem b154_4 {X : Nat × (Nat → Int32)} {d : Nat} {I : Nat → Nat → Int32} {L : Nat → Nat → Int64} {Q : Option Value → XW → Prop} {x1 : Int32} {s0 : Int32}  : wp X d m154 4 [some (.ref 124), some (.int x1)] [(.int s0)] (K0, R0, I, L) Q ↔ (if s0 = x1 then Q (some (.int 1)) (K0, R0, (updR I 124 11 ((I 124 11) + 1)), L) else Q (some (.int 0)) (K0, R0, I, L)) := (w_iload_n (pc' := 5) c154_4 rfl rfl).trans ((w_icmp_eq (pc' := 8) c154_5 rfl).trans (ite_iff ((w_aload_n (pc' := 11) c154_10 rfl rfl).trans ((w_dup (pc' := 12) c154_11 rfl rfl).trans ((w_getIv (pc' := 15) (v := (I 124 11)) c154_12 kd_124 (by decide) rfl (rfl) rfl).trans ((w_iconst (pc' := 16) (v := 1) c154_15 rfl rfl).trans ((w_iadd (pc' := 17) c154_16 rfl).trans ((w_putI (pc' := 20) c154_17 kd_124 (by decide) rfl rfl rfl).trans ((w_iconst (pc' := 21) (v := 1) c154_20 rfl rfl).trans ((w_zret (ty := .boolean) c154_21 rfl (by decide)).trans (and_iff_right (by decide)))))))))) ((w_iconst (pc' := 9) (v := 0) c154_8 rfl rfl).trans ((w_zret (ty := .boolean) c154_9 rfl (by decide)).trans (and_iff_right (by decide))))))
-- LeavesObjectModel.takesNumber()Z
theorem c155_0 : cdx (mC m155) 0 = some (0, .aload_n 0, 1, 0, 0, 0, 0, []) := rfl
theorem c155_1 : cdx (mC m155) 1 = some (1, .invokevirtual 231, 3, 156, 0, 0, 5143, [(10, 0)]) := rfl
theorem c155_4 : cdx (mC m155) 4 = some (4, .ifCond .ne 5, 3, 9, 0, 0, 0, []) := rfl
theorem c155_7 : cdx (mC m155) 7 = some (7, .iconst 0, 1, 0, 0, 0, 0, []) := rfl
theorem c155_8 : cdx (mC m155) 8 = some (8, .ireturn, 1, 0, 0, 0, 0, []) := rfl
theorem c155_9 : cdx (mC m155) 9 = some (9, .aload_n 0, 1, 0, 0, 0, 0, []) := rfl
theorem c155_10 : cdx (mC m155) 10 = some (10, .iconst 0, 1, 0, 0, 0, 0, []) := rfl
theorem c155_11 : cdx (mC m155) 11 = some (11, .putfield 47, 3, 10, 12, 0, 4138, []) := rfl
theorem c155_14 : cdx (mC m155) 14 = some (14, .iconst 0, 1, 0, 0, 0, 0, []) := rfl
theorem c155_15 : cdx (mC m155) 15 = some (15, .istore_n 1, 1, 1, 0, 0, 0, []) := rfl
theorem c155_16 : cdx (mC m155) 16 = some (16, .iload_n 1, 1, 1, 0, 0, 0, []) := rfl
theorem c155_17 : cdx (mC m155) 17 = some (17, .iconst 2, 1, 0, 0, 0, 0, []) := rfl
theorem c155_18 : cdx (mC m155) 18 = some (18, .if_icmp .ge 45, 3, 63, 0, 0, 0, []) := rfl
theorem c155_21 : cdx (mC m155) 21 = some (21, .aload_n 0, 1, 0, 0, 0, 0, []) := rfl
theorem c155_22 : cdx (mC m155) 22 = some (22, .invokevirtual 231, 3, 156, 0, 0, 5143, [(10, 0)]) := rfl
theorem c155_25 : cdx (mC m155) 25 = some (25, .ifCond .eq 38, 3, 63, 0, 0, 0, []) := rfl
theorem c155_28 : cdx (mC m155) 28 = some (28, .aload_n 0, 1, 0, 0, 0, 0, []) := rfl
theorem c155_29 : cdx (mC m155) 29 = some (29, .bipush 10, 2, 0, 0, 0, 0, []) := rfl
theorem c155_31 : cdx (mC m155) 31 = some (31, .aload_n 0, 1, 0, 0, 0, 0, []) := rfl
theorem c155_32 : cdx (mC m155) 32 = some (32, .getfield 47, 3, 10, 12, 0, 4138, []) := rfl
theorem c155_35 : cdx (mC m155) 35 = some (35, .imul, 1, 0, 0, 0, 0, []) := rfl
theorem c155_36 : cdx (mC m155) 36 = some (36, .aload_n 0, 1, 0, 0, 0, 0, []) := rfl
theorem c155_37 : cdx (mC m155) 37 = some (37, .invokevirtual 224, 3, 152, 0, 0, 5127, [(10, 0)]) := rfl
theorem c155_40 : cdx (mC m155) 40 = some (40, .iadd, 1, 0, 0, 0, 0, []) := rfl
theorem c155_41 : cdx (mC m155) 41 = some (41, .bipush 48, 2, 0, 0, 0, 0, []) := rfl
theorem c155_43 : cdx (mC m155) 43 = some (43, .isub, 1, 0, 0, 0, 0, []) := rfl
theorem c155_44 : cdx (mC m155) 44 = some (44, .putfield 47, 3, 10, 12, 0, 4138, []) := rfl
theorem c155_47 : cdx (mC m155) 47 = some (47, .aload_n 0, 1, 0, 0, 0, 0, []) := rfl
theorem c155_48 : cdx (mC m155) 48 = some (48, .dup, 1, 0, 0, 0, 0, []) := rfl
theorem c155_49 : cdx (mC m155) 49 = some (49, .getfield 44, 3, 10, 11, 0, 4137, []) := rfl
theorem c155_52 : cdx (mC m155) 52 = some (52, .iconst 1, 1, 0, 0, 0, 0, []) := rfl
theorem c155_53 : cdx (mC m155) 53 = some (53, .iadd, 1, 0, 0, 0, 0, []) := rfl
theorem c155_54 : cdx (mC m155) 54 = some (54, .putfield 44, 3, 10, 11, 0, 4137, []) := rfl
theorem c155_57 : cdx (mC m155) 57 = some (57, .iinc 1 1, 3, 1, 0, 0, 0, []) := rfl
theorem c155_60 : cdx (mC m155) 60 = some (60, .goto (-44), 3, 16, 0, 0, 0, []) := rfl
theorem c155_63 : cdx (mC m155) 63 = some (63, .iconst 1, 1, 0, 0, 0, 0, []) := rfl
theorem c155_64 : cdx (mC m155) 64 = some (64, .ireturn, 1, 0, 0, 0, 0, []) := rfl
theorem b155_0 {X : Nat × (Nat → Int32)} {d : Nat} {I : Nat → Nat → Int32} {L : Nat → Nat → Int64} {Q : Option Value → XW → Prop}   : wp X (d + 1) m155 0 [some (.ref 124), none] [] (K0, R0, I, L) Q ↔ wp X d m156 0 [some (.ref 124)] [] (K0, R0, I, L) (fun r w1 => wp X (d + 1) m155 4 [some (.ref 124), none] (r.toList ++ []) w1 Q) := (w_aload_n (pc' := 1) c155_0 rfl rfl).trans ((w_callv (pc' := 4) c155_1 mt156 rfl (Nat.le_of_ble_eq_true rfl) rfl kd_124 rfl rfl (Nat.le_of_ble_eq_true rfl) rfl rfl))
theorem b155_4 {X : Nat × (Nat → Int32)} {d : Nat} {I : Nat → Nat → Int32} {L : Nat → Nat → Int64} {Q : Option Value → XW → Prop} {s0 : Int32}  : wp X d m155 4 [some (.ref 124), none] [(.int s0)] (K0, R0, I, L) Q ↔ (if s0 = 0 then Q (some (.int 0)) (K0, R0, I, L) else wp X d m155 16 [some (.ref 124), some (.int 0)] [] (K0, R0, (updR I 124 12 0), L) Q) := (w_if_ne (pc' := 7) c155_4 rfl).trans (ite_iff ((w_iconst (pc' := 8) (v := 0) c155_7 rfl rfl).trans ((w_zret (ty := .boolean) c155_8 rfl (by decide)).trans (and_iff_right (by decide)))) ((w_aload_n (pc' := 10) c155_9 rfl rfl).trans ((w_iconst (pc' := 11) (v := 0) c155_10 rfl rfl).trans ((w_putI (pc' := 14) c155_11 kd_124 (by decide) rfl rfl rfl).trans ((w_iconst (pc' := 15) (v := 0) c155_14 rfl rfl).trans ((w_istore_n (pc' := 16) (ls' := [some (.ref 124), some (.int 0)]) c155_15 (Nat.le_of_ble_eq_true rfl) rfl rfl)))))))
theorem b155_16 {X : Nat × (Nat → Int32)} {d : Nat} {I : Nat → Nat → Int32} {L : Nat → Nat → Int64} {Q : Option Value → XW → Prop} {x1 : Int32}  : wp X (d + 1) m155 16 [some (.ref 124), some (.int x1)] [] (K0, R0, I, L) Q ↔ (if x1 < 2 then wp X d m156 0 [some (.ref 124)] [] (K0, R0, I, L) (fun r w1 => wp X (d + 1) m155 25 [some (.ref 124), some (.int x1)] (r.toList ++ []) w1 Q) else Q (some (.int 1)) (K0, R0, I, L)) := (w_iload_n (pc' := 17) c155_16 rfl rfl).trans ((w_iconst (pc' := 18) (v := 2) c155_17 rfl rfl).trans ((w_icmp_ge (pc' := 21) c155_18 rfl).trans (ite_iff ((w_aload_n (pc' := 22) c155_21 rfl rfl).trans ((w_callv (pc' := 25) c155_22 mt156 rfl (Nat.le_of_ble_eq_true rfl) rfl kd_124 rfl rfl (Nat.le_of_ble_eq_true rfl) rfl rfl))) ((w_iconst (pc' := 64) (v := 1) c155_63 rfl rfl).trans ((w_zret (ty := .boolean) c155_64 rfl (by decide)).trans (and_iff_right (by decide)))))))
theorem b155_25 {X : Nat × (Nat → Int32)} {d : Nat} {I : Nat → Nat → Int32} {L : Nat → Nat → Int64} {Q : Option Value → XW → Prop} {x1 : Int32} {s0 : Int32}  : wp X (d + 1) m155 25 [some (.ref 124), some (.int x1)] [(.int s0)] (K0, R0, I, L) Q ↔ (if s0 = 0 then Q (some (.int 1)) (K0, R0, I, L) else wp X d m152 0 [some (.ref 124)] [] (K0, R0, I, L) (fun r w1 => wp X (d + 1) m155 40 [some (.ref 124), some (.int x1)] (r.toList ++ [(.int (10 * (I 124 12))), (.ref 124)]) w1 Q)) := (w_if_eq (pc' := 28) c155_25 rfl).trans (ite_iff ((w_iconst (pc' := 64) (v := 1) c155_63 rfl rfl).trans ((w_zret (ty := .boolean) c155_64 rfl (by decide)).trans (and_iff_right (by decide)))) ((w_aload_n (pc' := 29) c155_28 rfl rfl).trans ((w_bipush (pc' := 31) (v := 10) c155_29 rfl rfl).trans ((w_aload_n (pc' := 32) c155_31 rfl rfl).trans ((w_getIv (pc' := 35) (v := (I 124 12)) c155_32 kd_124 (by decide) rfl (rfl) rfl).trans ((w_imul (pc' := 36) c155_35 rfl).trans ((w_aload_n (pc' := 37) c155_36 rfl rfl).trans ((w_callv (pc' := 40) c155_37 mt152 rfl (Nat.le_of_ble_eq_true rfl) rfl kd_124 rfl rfl (Nat.le_of_ble_eq_true rfl) rfl rfl)))))))))
theorem b155_40 {X : Nat × (Nat → Int32)} {d : Nat} {I : Nat → Nat → Int32} {L : Nat → Nat → Int64} {Q : Option Value → XW → Prop} {x1 : Int32} {s1 : Int32} {s2 : Int32}  : wp X d m155 40 [some (.ref 124), some (.int x1)] [(.int s2), (.int s1), (.ref 124)] (K0, R0, I, L) Q ↔ wp X d m155 16 [some (.ref 124), some (.int (x1 + 1))] [] (K0, R0, (updR (updR I 124 12 ((s1 + s2) - 48)) 124 11 ((I 124 11) + 1)), L) Q := (w_iadd (pc' := 41) c155_40 rfl).trans ((w_bipush (pc' := 43) (v := 48) c155_41 rfl rfl).trans ((w_isub (pc' := 44) c155_43 rfl).trans ((w_putI (pc' := 47) c155_44 kd_124 (by decide) rfl rfl rfl).trans ((w_aload_n (pc' := 48) c155_47 rfl rfl).trans ((w_dup (pc' := 49) c155_48 rfl rfl).trans ((w_getIv (pc' := 52) (v := (I 124 11)) c155_49 kd_124 (by decide) rfl ((updR_j (by decide)).trans (rfl)) rfl).trans ((w_iconst (pc' := 53) (v := 1) c155_52 rfl rfl).trans ((w_iadd (pc' := 54) c155_53 rfl).trans ((w_putI (pc' := 57) c155_54 kd_124 (by decide) rfl rfl rfl).trans ((w_iinc (pc' := 60) (v := (x1 + 1)) (ls' := [some (.ref 124), some (.int (x1 + 1))]) c155_57 (Nat.le_of_ble_eq_true rfl) rfl rfl rfl rfl).trans ((w_goto c155_60))))))))))))
-- LeavesObjectModel.isDigit()Z
theorem c156_0 : cdx (mC m156) 0 = some (0, .aload_n 0, 1, 0, 0, 0, 0, []) := rfl
theorem c156_1 : cdx (mC m156) 1 = some (1, .aload_n 0, 1, 0, 0, 0, 0, []) := rfl
theorem c156_2 : cdx (mC m156) 2 = some (2, .invokevirtual 224, 3, 152, 0, 0, 5127, [(10, 0)]) := rfl
theorem c156_5 : cdx (mC m156) 5 = some (5, .bipush 48, 2, 0, 0, 0, 0, []) := rfl
theorem c156_7 : cdx (mC m156) 7 = some (7, .bipush 57, 2, 0, 0, 0, 0, []) := rfl
theorem c156_9 : cdx (mC m156) 9 = some (9, .invokevirtual 213, 3, 142, 3, 0, 5087, [(10, 0)]) := rfl
theorem c156_12 : cdx (mC m156) 12 = some (12, .ireturn, 1, 0, 0, 0, 0, []) := rfl
def lv156 : List (Nat × List Nat) := [(0, [0]), (1, [0])]
theorem lvok156 : lvOk (mC m156) lv156 = true := by decide +kernel
theorem b156_0 {X : Nat × (Nat → Int32)} {d : Nat} {I : Nat → Nat → Int32} {L : Nat → Nat → Int64} {Q : Option Value → XW → Prop}   : wp X (d + 1) m156 0 [some (.ref 124)] [] (K0, R0, I, L) Q ↔ wp X d m152 0 [some (.ref 124)] [] (K0, R0, I, L) (fun r w1 => wp X (d + 1) m156 5 [none] (r.toList ++ [(.ref 124)]) w1 Q) := (w_aload_n (pc' := 1) c156_0 rfl rfl).trans ((w_aload_n (pc' := 2) c156_1 rfl rfl).trans ((w_callv (pc' := 5) c156_2 mt152 rfl (Nat.le_of_ble_eq_true rfl) rfl kd_124 rfl rfl (Nat.le_of_ble_eq_true rfl) rfl rfl).trans (wp_congr (fun r w1 => wp_msk lvok156 rfl))))
theorem b156_5 {X : Nat × (Nat → Int32)} {d : Nat} {I : Nat → Nat → Int32} {L : Nat → Nat → Int64} {Q : Option Value → XW → Prop} {s1 : Int32}  : wp X (d + 1) m156 5 [none] [(.int s1), (.ref 124)] (K0, R0, I, L) Q ↔ wp X d m142 0 [some (.ref 124), some (.int s1), some (.int 48), some (.int 57)] [] (K0, R0, I, L) (fun r w1 => wp X (d + 1) m156 12 [none] (r.toList ++ []) w1 Q) := (w_bipush (pc' := 7) (v := 48) c156_5 rfl rfl).trans ((w_bipush (pc' := 9) (v := 57) c156_7 rfl rfl).trans ((w_callv (pc' := 12) c156_9 mt142 rfl (Nat.le_of_ble_eq_true rfl) rfl kd_124 rfl rfl (Nat.le_of_ble_eq_true rfl) rfl rfl)))
theorem b156_12 {X : Nat × (Nat → Int32)} {d : Nat} {I : Nat → Nat → Int32} {L : Nat → Nat → Int64} {Q : Option Value → XW → Prop} {s0 : Int32}  : wp X d m156 12 [none] [(.int s0)] (K0, R0, I, L) Q ↔ (fits .boolean (.int s0) = true ∧ Q (some (.int s0)) (K0, R0, I, L)) := w_zret c156_12 rfl (by decide)
-- LeavesObjectModel.takesE(I)Z
theorem c157_0 : cdx (mC m157) 0 = some (0, .aload_n 0, 1, 0, 0, 0, 0, []) := rfl
theorem c157_1 : cdx (mC m157) 1 = some (1, .iconst 0, 1, 0, 0, 0, 0, []) := rfl
theorem c157_2 : cdx (mC m157) 2 = some (2, .putfield 77, 3, 10, 22, 0, 4148, []) := rfl
theorem c157_5 : cdx (mC m157) 5 = some (5, .aload_n 0, 1, 0, 0, 0, 0, []) := rfl
theorem c157_6 : cdx (mC m157) 6 = some (6, .iconst 0, 1, 0, 0, 0, 0, []) := rfl
theorem c157_7 : cdx (mC m157) 7 = some (7, .putfield 80, 3, 10, 23, 0, 4149, []) := rfl
theorem c157_10 : cdx (mC m157) 10 = some (10, .aload_n 0, 1, 0, 0, 0, 0, []) := rfl
theorem c157_11 : cdx (mC m157) 11 = some (11, .getfield 62, 3, 10, 17, 0, 4143, []) := rfl
theorem c157_14 : cdx (mC m157) 14 = some (14, .iload_n 1, 1, 1, 0, 0, 0, []) := rfl
theorem c157_15 : cdx (mC m157) 15 = some (15, .aload_n 0, 1, 0, 0, 0, 0, []) := rfl
theorem c157_16 : cdx (mC m157) 16 = some (16, .getfield 74, 3, 10, 21, 0, 4147, []) := rfl
theorem c157_19 : cdx (mC m157) 19 = some (19, .iastore, 1, 0, 0, 0, 0, []) := rfl
theorem c157_20 : cdx (mC m157) 20 = some (20, .iconst 1, 1, 0, 0, 0, 0, []) := rfl
theorem c157_21 : cdx (mC m157) 21 = some (21, .istore_n 2, 1, 2, 0, 0, 0, []) := rfl
theorem c157_22 : cdx (mC m157) 22 = some (22, .aload_n 0, 1, 0, 0, 0, 0, []) := rfl
theorem c157_23 : cdx (mC m157) 23 = some (23, .invokevirtual 224, 3, 152, 0, 0, 5127, [(10, 0)]) := rfl
theorem c157_26 : cdx (mC m157) 26 = some (26, .istore_n 3, 1, 3, 0, 0, 0, []) := rfl
theorem c157_27 : cdx (mC m157) 27 = some (27, .iload_n 2, 1, 2, 0, 0, 0, []) := rfl
theorem c157_28 : cdx (mC m157) 28 = some (28, .ifCond .eq 82, 3, 110, 0, 0, 0, []) := rfl
theorem c157_31 : cdx (mC m157) 31 = some (31, .iload_n 3, 1, 3, 0, 0, 0, []) := rfl
theorem c157_32 : cdx (mC m157) 32 = some (32, .bipush 33, 2, 0, 0, 0, 0, []) := rfl
theorem c157_34 : cdx (mC m157) 34 = some (34, .if_icmp .eq 9, 3, 43, 0, 0, 0, []) := rfl
theorem c157_37 : cdx (mC m157) 37 = some (37, .iload_n 3, 1, 3, 0, 0, 0, []) := rfl
theorem c157_38 : cdx (mC m157) 38 = some (38, .bipush 40, 2, 0, 0, 0, 0, []) := rfl
theorem c157_40 : cdx (mC m157) 40 = some (40, .if_icmp .ne 56, 3, 96, 0, 0, 0, []) := rfl
theorem c157_43 : cdx (mC m157) 43 = some (43, .aload_n 0, 1, 0, 0, 0, 0, []) := rfl
theorem c157_44 : cdx (mC m157) 44 = some (44, .getfield 80, 3, 10, 23, 0, 4149, []) := rfl
theorem c157_47 : cdx (mC m157) 47 = some (47, .iconst 4, 1, 0, 0, 0, 0, []) := rfl
theorem c157_48 : cdx (mC m157) 48 = some (48, .if_icmp .ne 5, 3, 53, 0, 0, 0, []) := rfl
theorem c157_51 : cdx (mC m157) 51 = some (51, .iconst 0, 1, 0, 0, 0, 0, []) := rfl
theorem c157_52 : cdx (mC m157) 52 = some (52, .ireturn, 1, 0, 0, 0, 0, []) := rfl
theorem c157_53 : cdx (mC m157) 53 = some (53, .aload_n 0, 1, 0, 0, 0, 0, []) := rfl
theorem c157_54 : cdx (mC m157) 54 = some (54, .dup, 1, 0, 0, 0, 0, []) := rfl
theorem c157_55 : cdx (mC m157) 55 = some (55, .getfield 80, 3, 10, 23, 0, 4149, []) := rfl
theorem c157_58 : cdx (mC m157) 58 = some (58, .iconst 1, 1, 0, 0, 0, 0, []) := rfl
theorem c157_59 : cdx (mC m157) 59 = some (59, .iadd, 1, 0, 0, 0, 0, []) := rfl
theorem c157_60 : cdx (mC m157) 60 = some (60, .putfield 80, 3, 10, 23, 0, 4149, []) := rfl
theorem c157_63 : cdx (mC m157) 63 = some (63, .aload_n 0, 1, 0, 0, 0, 0, []) := rfl
theorem c157_64 : cdx (mC m157) 64 = some (64, .getfield 71, 3, 10, 20, 0, 4146, []) := rfl
theorem c157_67 : cdx (mC m157) 67 = some (67, .aload_n 0, 1, 0, 0, 0, 0, []) := rfl
theorem c157_68 : cdx (mC m157) 68 = some (68, .getfield 77, 3, 10, 22, 0, 4148, []) := rfl
theorem c157_71 : cdx (mC m157) 71 = some (71, .iload_n 3, 1, 3, 0, 0, 0, []) := rfl
theorem c157_72 : cdx (mC m157) 72 = some (72, .iastore, 1, 0, 0, 0, 0, []) := rfl
theorem c157_73 : cdx (mC m157) 73 = some (73, .aload_n 0, 1, 0, 0, 0, 0, []) := rfl
theorem c157_74 : cdx (mC m157) 74 = some (74, .dup, 1, 0, 0, 0, 0, []) := rfl
theorem c157_75 : cdx (mC m157) 75 = some (75, .getfield 77, 3, 10, 22, 0, 4148, []) := rfl
theorem c157_78 : cdx (mC m157) 78 = some (78, .iconst 1, 1, 0, 0, 0, 0, []) := rfl
theorem c157_79 : cdx (mC m157) 79 = some (79, .iadd, 1, 0, 0, 0, 0, []) := rfl
theorem c157_80 : cdx (mC m157) 80 = some (80, .putfield 77, 3, 10, 22, 0, 4148, []) := rfl
theorem c157_83 : cdx (mC m157) 83 = some (83, .aload_n 0, 1, 0, 0, 0, 0, []) := rfl
theorem c157_84 : cdx (mC m157) 84 = some (84, .dup, 1, 0, 0, 0, 0, []) := rfl
theorem c157_85 : cdx (mC m157) 85 = some (85, .getfield 44, 3, 10, 11, 0, 4137, []) := rfl
theorem c157_88 : cdx (mC m157) 88 = some (88, .iconst 1, 1, 0, 0, 0, 0, []) := rfl
theorem c157_89 : cdx (mC m157) 89 = some (89, .iadd, 1, 0, 0, 0, 0, []) := rfl
theorem c157_90 : cdx (mC m157) 90 = some (90, .putfield 44, 3, 10, 11, 0, 4137, []) := rfl
theorem c157_93 : cdx (mC m157) 93 = some (93, .goto (-71), 3, 22, 0, 0, 0, []) := rfl
theorem c157_96 : cdx (mC m157) 96 = some (96, .aload_n 0, 1, 0, 0, 0, 0, []) := rfl
theorem c157_97 : cdx (mC m157) 97 = some (97, .invokevirtual 249, 3, 158, 0, 0, 5151, [(10, 0)]) := rfl
theorem c157_100 : cdx (mC m157) 100 = some (100, .ifCond .eq 8, 3, 108, 0, 0, 0, []) := rfl
theorem c157_103 : cdx (mC m157) 103 = some (103, .iconst 0, 1, 0, 0, 0, 0, []) := rfl
theorem c157_104 : cdx (mC m157) 104 = some (104, .istore_n 2, 1, 2, 0, 0, 0, []) := rfl
theorem c157_105 : cdx (mC m157) 105 = some (105, .goto (-83), 3, 22, 0, 0, 0, []) := rfl
theorem c157_108 : cdx (mC m157) 108 = some (108, .iconst 0, 1, 0, 0, 0, 0, []) := rfl
theorem c157_109 : cdx (mC m157) 109 = some (109, .ireturn, 1, 0, 0, 0, 0, []) := rfl
theorem c157_110 : cdx (mC m157) 110 = some (110, .iload_n 3, 1, 3, 0, 0, 0, []) := rfl
theorem c157_111 : cdx (mC m157) 111 = some (111, .bipush 38, 2, 0, 0, 0, 0, []) := rfl
theorem c157_113 : cdx (mC m157) 113 = some (113, .if_icmp .eq 9, 3, 122, 0, 0, 0, []) := rfl
theorem c157_116 : cdx (mC m157) 116 = some (116, .iload_n 3, 1, 3, 0, 0, 0, []) := rfl
theorem c157_117 : cdx (mC m157) 117 = some (117, .bipush 124, 2, 0, 0, 0, 0, []) := rfl
theorem c157_119 : cdx (mC m157) 119 = some (119, .if_icmp .ne 43, 3, 162, 0, 0, 0, []) := rfl
theorem c157_122 : cdx (mC m157) 122 = some (122, .aload_n 0, 1, 0, 0, 0, 0, []) := rfl
theorem c157_123 : cdx (mC m157) 123 = some (123, .iload_n 3, 1, 3, 0, 0, 0, []) := rfl
theorem c157_124 : cdx (mC m157) 124 = some (124, .invokevirtual 252, 3, 162, 1, 0, 5167, [(10, 0)]) := rfl
theorem c157_127 : cdx (mC m157) 127 = some (127, .aload_n 0, 1, 0, 0, 0, 0, []) := rfl
theorem c157_128 : cdx (mC m157) 128 = some (128, .getfield 71, 3, 10, 20, 0, 4146, []) := rfl
theorem c157_131 : cdx (mC m157) 131 = some (131, .aload_n 0, 1, 0, 0, 0, 0, []) := rfl
theorem c157_132 : cdx (mC m157) 132 = some (132, .getfield 77, 3, 10, 22, 0, 4148, []) := rfl
theorem c157_135 : cdx (mC m157) 135 = some (135, .iload_n 3, 1, 3, 0, 0, 0, []) := rfl
theorem c157_136 : cdx (mC m157) 136 = some (136, .iastore, 1, 0, 0, 0, 0, []) := rfl
theorem c157_137 : cdx (mC m157) 137 = some (137, .aload_n 0, 1, 0, 0, 0, 0, []) := rfl
theorem c157_138 : cdx (mC m157) 138 = some (138, .dup, 1, 0, 0, 0, 0, []) := rfl
theorem c157_139 : cdx (mC m157) 139 = some (139, .getfield 77, 3, 10, 22, 0, 4148, []) := rfl
theorem c157_142 : cdx (mC m157) 142 = some (142, .iconst 1, 1, 0, 0, 0, 0, []) := rfl
theorem c157_143 : cdx (mC m157) 143 = some (143, .iadd, 1, 0, 0, 0, 0, []) := rfl
theorem c157_144 : cdx (mC m157) 144 = some (144, .putfield 77, 3, 10, 22, 0, 4148, []) := rfl
theorem c157_147 : cdx (mC m157) 147 = some (147, .iconst 1, 1, 0, 0, 0, 0, []) := rfl
theorem c157_148 : cdx (mC m157) 148 = some (148, .istore_n 2, 1, 2, 0, 0, 0, []) := rfl
theorem c157_149 : cdx (mC m157) 149 = some (149, .aload_n 0, 1, 0, 0, 0, 0, []) := rfl
theorem c157_150 : cdx (mC m157) 150 = some (150, .dup, 1, 0, 0, 0, 0, []) := rfl
set_option maxRecDepth 20000 in
theorem c157_151 : cdx (mC m157) 151 = some (151, .getfield 44, 3, 10, 11, 0, 4137, []) := rfl
set_option maxRecDepth 20000 in
theorem c157_154 : cdx (mC m157) 154 = some (154, .iconst 1, 1, 0, 0, 0, 0, []) := rfl
set_option maxRecDepth 20000 in
theorem c157_155 : cdx (mC m157) 155 = some (155, .iadd, 1, 0, 0, 0, 0, []) := rfl
set_option maxRecDepth 20000 in
theorem c157_156 : cdx (mC m157) 156 = some (156, .putfield 44, 3, 10, 11, 0, 4137, []) := rfl
set_option maxRecDepth 20000 in
theorem c157_159 : cdx (mC m157) 159 = some (159, .goto (-137), 3, 22, 0, 0, 0, []) := rfl
set_option maxRecDepth 20000 in
theorem c157_162 : cdx (mC m157) 162 = some (162, .aload_n 0, 1, 0, 0, 0, 0, []) := rfl
set_option maxRecDepth 20000 in
theorem c157_163 : cdx (mC m157) 163 = some (163, .bipush 124, 2, 0, 0, 0, 0, []) := rfl
set_option maxRecDepth 20000 in
theorem c157_165 : cdx (mC m157) 165 = some (165, .invokevirtual 252, 3, 162, 1, 0, 5167, [(10, 0)]) := rfl
set_option maxRecDepth 20000 in
theorem c157_168 : cdx (mC m157) 168 = some (168, .aload_n 0, 1, 0, 0, 0, 0, []) := rfl
set_option maxRecDepth 20000 in
theorem c157_169 : cdx (mC m157) 169 = some (169, .getfield 65, 3, 10, 18, 0, 4144, []) := rfl
set_option maxRecDepth 20000 in
theorem c157_172 : cdx (mC m157) 172 = some (172, .iload_n 1, 1, 1, 0, 0, 0, []) := rfl
set_option maxRecDepth 20000 in
theorem c157_173 : cdx (mC m157) 173 = some (173, .aload_n 0, 1, 0, 0, 0, 0, []) := rfl
set_option maxRecDepth 20000 in
theorem c157_174 : cdx (mC m157) 174 = some (174, .getfield 74, 3, 10, 21, 0, 4147, []) := rfl
set_option maxRecDepth 20000 in
theorem c157_177 : cdx (mC m157) 177 = some (177, .iastore, 1, 0, 0, 0, 0, []) := rfl
set_option maxRecDepth 20000 in
theorem c157_178 : cdx (mC m157) 178 = some (178, .aload_n 0, 1, 0, 0, 0, 0, []) := rfl
set_option maxRecDepth 20000 in
theorem c157_179 : cdx (mC m157) 179 = some (179, .getfield 77, 3, 10, 22, 0, 4148, []) := rfl
set_option maxRecDepth 20000 in
theorem c157_182 : cdx (mC m157) 182 = some (182, .ifCond .ne 5, 3, 187, 0, 0, 0, []) := rfl
set_option maxRecDepth 20000 in
theorem c157_185 : cdx (mC m157) 185 = some (185, .iconst 1, 1, 0, 0, 0, 0, []) := rfl
set_option maxRecDepth 20000 in
theorem c157_186 : cdx (mC m157) 186 = some (186, .ireturn, 1, 0, 0, 0, 0, []) := rfl
set_option maxRecDepth 20000 in
theorem c157_187 : cdx (mC m157) 187 = some (187, .iload_n 3, 1, 3, 0, 0, 0, []) := rfl
set_option maxRecDepth 20000 in
theorem c157_188 : cdx (mC m157) 188 = some (188, .bipush 41, 2, 0, 0, 0, 0, []) := rfl
set_option maxRecDepth 20000 in
theorem c157_190 : cdx (mC m157) 190 = some (190, .if_icmp .eq 5, 3, 195, 0, 0, 0, []) := rfl
set_option maxRecDepth 20000 in
theorem c157_193 : cdx (mC m157) 193 = some (193, .iconst 0, 1, 0, 0, 0, 0, []) := rfl
set_option maxRecDepth 20000 in
theorem c157_194 : cdx (mC m157) 194 = some (194, .ireturn, 1, 0, 0, 0, 0, []) := rfl
set_option maxRecDepth 20000 in
theorem c157_195 : cdx (mC m157) 195 = some (195, .aload_n 0, 1, 0, 0, 0, 0, []) := rfl
set_option maxRecDepth 20000 in
theorem c157_196 : cdx (mC m157) 196 = some (196, .dup, 1, 0, 0, 0, 0, []) := rfl
set_option maxRecDepth 20000 in
theorem c157_197 : cdx (mC m157) 197 = some (197, .getfield 77, 3, 10, 22, 0, 4148, []) := rfl
set_option maxRecDepth 20000 in
theorem c157_200 : cdx (mC m157) 200 = some (200, .iconst 1, 1, 0, 0, 0, 0, []) := rfl
set_option maxRecDepth 20000 in
theorem c157_201 : cdx (mC m157) 201 = some (201, .isub, 1, 0, 0, 0, 0, []) := rfl
set_option maxRecDepth 20000 in
theorem c157_202 : cdx (mC m157) 202 = some (202, .putfield 77, 3, 10, 22, 0, 4148, []) := rfl
set_option maxRecDepth 20000 in
theorem c157_205 : cdx (mC m157) 205 = some (205, .aload_n 0, 1, 0, 0, 0, 0, []) := rfl
set_option maxRecDepth 20000 in
theorem c157_206 : cdx (mC m157) 206 = some (206, .dup, 1, 0, 0, 0, 0, []) := rfl
set_option maxRecDepth 20000 in
theorem c157_207 : cdx (mC m157) 207 = some (207, .getfield 80, 3, 10, 23, 0, 4149, []) := rfl
set_option maxRecDepth 20000 in
theorem c157_210 : cdx (mC m157) 210 = some (210, .iconst 1, 1, 0, 0, 0, 0, []) := rfl
set_option maxRecDepth 20000 in
theorem c157_211 : cdx (mC m157) 211 = some (211, .isub, 1, 0, 0, 0, 0, []) := rfl
set_option maxRecDepth 20000 in
theorem c157_212 : cdx (mC m157) 212 = some (212, .putfield 80, 3, 10, 23, 0, 4149, []) := rfl
set_option maxRecDepth 20000 in
theorem c157_215 : cdx (mC m157) 215 = some (215, .aload_n 0, 1, 0, 0, 0, 0, []) := rfl
set_option maxRecDepth 20000 in
theorem c157_216 : cdx (mC m157) 216 = some (216, .dup, 1, 0, 0, 0, 0, []) := rfl
set_option maxRecDepth 20000 in
theorem c157_217 : cdx (mC m157) 217 = some (217, .getfield 44, 3, 10, 11, 0, 4137, []) := rfl
set_option maxRecDepth 20000 in
theorem c157_220 : cdx (mC m157) 220 = some (220, .iconst 1, 1, 0, 0, 0, 0, []) := rfl
set_option maxRecDepth 20000 in
theorem c157_221 : cdx (mC m157) 221 = some (221, .iadd, 1, 0, 0, 0, 0, []) := rfl
set_option maxRecDepth 20000 in
theorem c157_222 : cdx (mC m157) 222 = some (222, .putfield 44, 3, 10, 11, 0, 4137, []) := rfl
set_option maxRecDepth 20000 in
theorem c157_225 : cdx (mC m157) 225 = some (225, .aload_n 0, 1, 0, 0, 0, 0, []) := rfl
set_option maxRecDepth 20000 in
theorem c157_226 : cdx (mC m157) 226 = some (226, .invokevirtual 246, 3, 161, 0, 0, 5163, [(10, 0)]) := rfl
set_option maxRecDepth 20000 in
theorem c157_229 : cdx (mC m157) 229 = some (229, .goto (-207), 3, 22, 0, 0, 0, []) := rfl
def lv157 : List (Nat × List Nat) := [(0, [0, 1]), (1, [0, 1]), (2, [0, 1]), (5, [0, 1]), (6, [0, 1]), (7, [0, 1]), (10, [0, 1]), (11, [0, 1]), (14, [0, 1]), (15, [0, 1]), (16, [0, 1]), (19, [0, 1]), (20, [0, 1]), (21, [0, 1]), (22, [0, 1, 2]), (23, [0, 1, 2]), (26, [0, 1, 2]), (27, [0, 1, 2, 3]), (28, [0, 1, 2, 3]), (31, [0, 1, 2, 3]), (32, [0, 1, 2, 3]), (34, [0, 1, 2, 3]), (37, [0, 1, 2, 3]), (38, [0, 1, 2, 3]), (40, [0, 1, 2, 3]), (43, [0, 1, 2, 3]), (44, [0, 1, 2, 3]), (47, [0, 1, 2, 3]), (48, [0, 1, 2, 3]), (53, [0, 1, 2, 3]), (54, [0, 1, 2, 3]), (55, [0, 1, 2, 3]), (58, [0, 1, 2, 3]), (59, [0, 1, 2, 3]), (60, [0, 1, 2, 3]), (63, [0, 1, 2, 3]), (64, [0, 1, 2, 3]), (67, [0, 1, 2, 3]), (68, [0, 1, 2, 3]), (71, [0, 1, 2, 3]), (72, [0, 1, 2]), (73, [0, 1, 2]), (74, [0, 1, 2]), (75, [0, 1, 2]), (78, [0, 1, 2]), (79, [0, 1, 2]), (80, [0, 1, 2]), (83, [0, 1, 2]), (84, [0, 1, 2]), (85, [0, 1, 2]), (88, [0, 1, 2]), (89, [0, 1, 2]), (90, [0, 1, 2]), (93, [0, 1, 2]), (96, [0, 1]), (97, [0, 1]), (100, [0, 1]), (103, [0, 1]), (104, [0, 1]), (105, [0, 1, 2]), (110, [0, 1, 2, 3]), (111, [0, 1, 2, 3]), (113, [0, 1, 2, 3]), (116, [0, 1, 2, 3]), (117, [0, 1, 2, 3]), (119, [0, 1, 2, 3]), (122, [0, 1, 3]), (123, [0, 1, 3]), (124, [0, 1, 3]), (127, [0, 1, 3]), (128, [0, 1, 3]), (131, [0, 1, 3]), (132, [0, 1, 3]), (135, [0, 1, 3]), (136, [0, 1]), (137, [0, 1]), (138, [0, 1]), (139, [0, 1]), (142, [0, 1]), (143, [0, 1]), (144, [0, 1]), (147, [0, 1]), (148, [0, 1]), (149, [0, 1, 2]), (150, [0, 1, 2]), (151, [0, 1, 2]), (154, [0, 1, 2]), (155, [0, 1, 2]), (156, [0, 1, 2]), (159, [0, 1, 2]), (162, [0, 1, 2, 3]), (163, [0, 1, 2, 3]), (165, [0, 1, 2, 3]), (168, [0, 1, 2, 3]), (169, [0, 1, 2, 3]), (172, [0, 1, 2, 3]), (173, [0, 1, 2, 3]), (174, [0, 1, 2, 3]), (177, [0, 1, 2, 3]), (178, [0, 1, 2, 3]), (179, [0, 1, 2, 3]), (182, [0, 1, 2, 3]), (187, [0, 1, 2, 3]), (188, [0, 1, 2]), (190, [0, 1, 2]), (195, [0, 1, 2]), (196, [0, 1, 2]), (197, [0, 1, 2]), (200, [0, 1, 2]), (201, [0, 1, 2]), (202, [0, 1, 2]), (205, [0, 1, 2]), (206, [0, 1, 2]), (207, [0, 1, 2]), (210, [0, 1, 2]), (211, [0, 1, 2]), (212, [0, 1, 2]), (215, [0, 1, 2]), (216, [0, 1, 2]), (217, [0, 1, 2]), (220, [0, 1, 2]), (221, [0, 1, 2]), (222, [0, 1, 2]), (225, [0, 1, 2]), (226, [0, 1, 2]), (229, [0, 1, 2])]
theorem lvok157 : lvOk (mC m157) lv157 = true := by decide +kernel
theorem b157_0 {X : Nat × (Nat → Int32)} {d : Nat} {I : Nat → Nat → Int32} {L : Nat → Nat → Int64} {Q : Option Value → XW → Prop} {x1 : Int32}  : wp X d m157 0 [some (.ref 124), some (.int x1), none, none] [] (K0, R0, I, L) Q ↔ (inA x1 60 = true ∧ wp X d m157 22 [some (.ref 124), some (.int x1), some (.int 1), none] [] (K0, R0, (updR (updR (updR I 124 22 0) 124 23 0) 135 (Int32.toNatClampNeg x1) (I 124 21)), L) Q) := (w_aload_n (pc' := 1) c157_0 rfl rfl).trans ((w_iconst (pc' := 2) (v := 0) c157_1 rfl rfl).trans ((w_putI (pc' := 5) c157_2 kd_124 (by decide) rfl rfl rfl).trans ((w_aload_n (pc' := 6) c157_5 rfl rfl).trans ((w_iconst (pc' := 7) (v := 0) c157_6 rfl rfl).trans ((w_putI (pc' := 10) c157_7 kd_124 (by decide) rfl rfl rfl).trans ((w_aload_n (pc' := 11) c157_10 rfl rfl).trans ((w_getR (pc' := 14) (q := 135) c157_11 kd_124 (by decide) rfl rd_124_17 rfl).trans ((w_iload_n (pc' := 15) c157_14 rfl rfl).trans ((w_aload_n (pc' := 16) c157_15 rfl rfl).trans ((w_getIv (pc' := 19) (v := (I 124 21)) c157_16 kd_124 (by decide) rfl ((updR_j (by decide)).trans ((updR_j (by decide)).trans (rfl))) rfl).trans ((w_iast (pc' := 20) c157_19 kd_135 rfl).trans (and_congr_right (fun _ => (w_iconst (pc' := 21) (v := 1) c157_20 rfl rfl).trans ((w_istore_n (pc' := 22) (ls' := [some (.ref 124), some (.int x1), some (.int 1), none]) c157_21 (Nat.le_of_ble_eq_true rfl) rfl rfl)))))))))))))))
theorem b157_22 {X : Nat × (Nat → Int32)} {d : Nat} {I : Nat → Nat → Int32} {L : Nat → Nat → Int64} {Q : Option Value → XW → Prop} {x1 : Int32} {x2 : Int32}  : wp X (d + 1) m157 22 [some (.ref 124), some (.int x1), some (.int x2), none] [] (K0, R0, I, L) Q ↔ wp X d m152 0 [some (.ref 124)] [] (K0, R0, I, L) (fun r w1 => wp X (d + 1) m157 26 [some (.ref 124), some (.int x1), some (.int x2), none] (r.toList ++ []) w1 Q) := (w_aload_n (pc' := 23) c157_22 rfl rfl).trans ((w_callv (pc' := 26) c157_23 mt152 rfl (Nat.le_of_ble_eq_true rfl) rfl kd_124 rfl rfl (Nat.le_of_ble_eq_true rfl) rfl rfl))
theorem b157_26 {X : Nat × (Nat → Int32)} {d : Nat} {I : Nat → Nat → Int32} {L : Nat → Nat → Int64} {Q : Option Value → XW → Prop} {x1 : Int32} {x2 : Int32} {s0 : Int32}  : wp X (d + 1) m157 26 [some (.ref 124), some (.int x1), some (.int x2), none] [(.int s0)] (K0, R0, I, L) Q ↔ (if x2 = 0 then (if s0 = 38 then wp X d m162 0 [some (.ref 124), some (.int s0)] [] (K0, R0, I, L) (fun r w1 => wp X (d + 1) m157 127 [some (.ref 124), some (.int x1), none, some (.int s0)] (r.toList ++ []) w1 Q) else (if s0 = 124 then wp X d m162 0 [some (.ref 124), some (.int s0)] [] (K0, R0, I, L) (fun r w1 => wp X (d + 1) m157 127 [some (.ref 124), some (.int x1), none, some (.int s0)] (r.toList ++ []) w1 Q) else wp X d m162 0 [some (.ref 124), some (.int 124)] [] (K0, R0, I, L) (fun r w1 => wp X (d + 1) m157 168 [some (.ref 124), some (.int x1), some (.int x2), some (.int s0)] (r.toList ++ []) w1 Q))) else (if s0 = 33 then wp X (d + 1) m157 43 [some (.ref 124), some (.int x1), some (.int x2), some (.int s0)] [] (K0, R0, I, L) Q else (if s0 = 40 then wp X (d + 1) m157 43 [some (.ref 124), some (.int x1), some (.int x2), some (.int s0)] [] (K0, R0, I, L) Q else wp X d m158 0 [some (.ref 124), none, none] [] (K0, R0, I, L) (fun r w1 => wp X (d + 1) m157 100 [some (.ref 124), some (.int x1), none, none] (r.toList ++ []) w1 Q)))) := (w_istore_n (pc' := 27) (ls' := [some (.ref 124), some (.int x1), some (.int x2), some (.int s0)]) c157_26 (Nat.le_of_ble_eq_true rfl) rfl rfl).trans ((w_iload_n (pc' := 28) c157_27 rfl rfl).trans ((w_if_eq (pc' := 31) c157_28 rfl).trans (ite_iff ((w_iload_n (pc' := 111) c157_110 rfl rfl).trans ((w_bipush (pc' := 113) (v := 38) c157_111 rfl rfl).trans ((w_icmp_eq (pc' := 116) c157_113 rfl).trans (ite_iff ((w_aload_n (pc' := 123) c157_122 rfl rfl).trans ((w_iload_n (pc' := 124) c157_123 rfl rfl).trans ((w_callv (pc' := 127) c157_124 mt162 rfl (Nat.le_of_ble_eq_true rfl) rfl kd_124 rfl rfl (Nat.le_of_ble_eq_true rfl) rfl rfl).trans (wp_congr (fun r w1 => wp_msk lvok157 rfl))))) ((w_iload_n (pc' := 117) c157_116 rfl rfl).trans ((w_bipush (pc' := 119) (v := 124) c157_117 rfl rfl).trans ((w_icmp_ne (pc' := 122) c157_119 rfl).trans (ite_iff ((w_aload_n (pc' := 123) c157_122 rfl rfl).trans ((w_iload_n (pc' := 124) c157_123 rfl rfl).trans ((w_callv (pc' := 127) c157_124 mt162 rfl (Nat.le_of_ble_eq_true rfl) rfl kd_124 rfl rfl (Nat.le_of_ble_eq_true rfl) rfl rfl).trans (wp_congr (fun r w1 => wp_msk lvok157 rfl))))) ((w_aload_n (pc' := 163) c157_162 rfl rfl).trans ((w_bipush (pc' := 165) (v := 124) c157_163 rfl rfl).trans ((w_callv (pc' := 168) c157_165 mt162 rfl (Nat.le_of_ble_eq_true rfl) rfl kd_124 rfl rfl (Nat.le_of_ble_eq_true rfl) rfl rfl)))))))))))) ((w_iload_n (pc' := 32) c157_31 rfl rfl).trans ((w_bipush (pc' := 34) (v := 33) c157_32 rfl rfl).trans ((w_icmp_eq (pc' := 37) c157_34 rfl).trans (ite_iff (Iff.rfl) ((w_iload_n (pc' := 38) c157_37 rfl rfl).trans ((w_bipush (pc' := 40) (v := 40) c157_38 rfl rfl).trans ((w_icmp_ne (pc' := 43) c157_40 rfl).trans (ite_iff (Iff.rfl) ((w_aload_n (pc' := 97) c157_96 rfl rfl).trans ((w_callv (pc' := 100) c157_97 mt158 rfl (Nat.le_of_ble_eq_true rfl) rfl kd_124 rfl rfl (Nat.le_of_ble_eq_true rfl) rfl rfl).trans (wp_congr (fun r w1 => wp_msk lvok157 rfl)))))))))))))))
theorem b157_127 {X : Nat × (Nat → Int32)} {d : Nat} {I : Nat → Nat → Int32} {L : Nat → Nat → Int64} {Q : Option Value → XW → Prop} {x1 : Int32} {x3 : Int32}  : wp X d m157 127 [some (.ref 124), some (.int x1), none, some (.int x3)] [] (K0, R0, I, L) Q ↔ (inA (I 124 22) 101 = true ∧ wp X d m157 22 [some (.ref 124), some (.int x1), some (.int 1), none] [] (K0, R0, (updR (updR (updR I 138 (Int32.toNatClampNeg (I 124 22)) x3) 124 22 ((I 124 22) + 1)) 124 11 ((I 124 11) + 1)), L) Q) := (w_aload_n (pc' := 128) c157_127 rfl rfl).trans ((w_getR (pc' := 131) (q := 138) c157_128 kd_124 (by decide) rfl rd_124_20 rfl).trans ((w_aload_n (pc' := 132) c157_131 rfl rfl).trans ((w_getIv (pc' := 135) (v := (I 124 22)) c157_132 kd_124 (by decide) rfl (rfl) rfl).trans ((w_iload_n (pc' := 136) c157_135 rfl rfl).trans ((w_iast (pc' := 137) c157_136 kd_138 rfl).trans (and_congr_right (fun _ => (w_aload_n (pc' := 138) c157_137 rfl rfl).trans ((w_dup (pc' := 139) c157_138 rfl rfl).trans ((w_getIv (pc' := 142) (v := (I 124 22)) c157_139 kd_124 (by decide) rfl ((updR_k (by decide)).trans (rfl)) rfl).trans ((w_iconst (pc' := 143) (v := 1) c157_142 rfl rfl).trans ((w_iadd (pc' := 144) c157_143 rfl).trans ((w_putI (pc' := 147) c157_144 kd_124 (by decide) rfl rfl rfl).trans ((w_iconst (pc' := 148) (v := 1) c157_147 rfl rfl).trans ((w_istore_n (pc' := 149) (ls' := [some (.ref 124), some (.int x1), some (.int 1), some (.int x3)]) c157_148 (Nat.le_of_ble_eq_true rfl) rfl rfl).trans ((w_aload_n (pc' := 150) c157_149 rfl rfl).trans ((w_dup (pc' := 151) c157_150 rfl rfl).trans ((w_getIv (pc' := 154) (v := (I 124 11)) c157_151 kd_124 (by decide) rfl ((updR_j (by decide)).trans ((updR_k (by decide)).trans (rfl))) rfl).trans ((w_iconst (pc' := 155) (v := 1) c157_154 rfl rfl).trans ((w_iadd (pc' := 156) c157_155 rfl).trans ((w_putI (pc' := 159) c157_156 kd_124 (by decide) rfl rfl rfl).trans ((w_goto c157_159).trans ((wp_msk lvok157 rfl)))))))))))))))))))))))
theorem b157_168 {X : Nat × (Nat → Int32)} {d : Nat} {I : Nat → Nat → Int32} {L : Nat → Nat → Int64} {Q : Option Value → XW → Prop} {x1 : Int32} {x2 : Int32} {x3 : Int32}  : wp X (d + 1) m157 168 [some (.ref 124), some (.int x1), some (.int x2), some (.int x3)] [] (K0, R0, I, L) Q ↔ (inA x1 60 = true ∧ (if (I 124 22) = 0 then Q (some (.int 1)) (K0, R0, (updR I 136 (Int32.toNatClampNeg x1) (I 124 21)), L) else (if x3 = 41 then wp X d m161 0 [some (.ref 124)] [] (K0, R0, (updR (updR (updR (updR I 136 (Int32.toNatClampNeg x1) (I 124 21)) 124 22 ((I 124 22) - 1)) 124 23 ((I 124 23) - 1)) 124 11 ((I 124 11) + 1)), L) (fun r w1 => wp X (d + 1) m157 229 [some (.ref 124), some (.int x1), some (.int x2), none] (r.toList ++ []) w1 Q) else Q (some (.int 0)) (K0, R0, (updR I 136 (Int32.toNatClampNeg x1) (I 124 21)), L)))) := (w_aload_n (pc' := 169) c157_168 rfl rfl).trans ((w_getR (pc' := 172) (q := 136) c157_169 kd_124 (by decide) rfl rd_124_18 rfl).trans ((w_iload_n (pc' := 173) c157_172 rfl rfl).trans ((w_aload_n (pc' := 174) c157_173 rfl rfl).trans ((w_getIv (pc' := 177) (v := (I 124 21)) c157_174 kd_124 (by decide) rfl (rfl) rfl).trans ((w_iast (pc' := 178) c157_177 kd_136 rfl).trans (and_congr_right (fun _ => (w_aload_n (pc' := 179) c157_178 rfl rfl).trans ((w_getIv (pc' := 182) (v := (I 124 22)) c157_179 kd_124 (by decide) rfl ((updR_k (by decide)).trans (rfl)) rfl).trans ((w_if_ne (pc' := 185) c157_182 rfl).trans (ite_iff ((w_iconst (pc' := 186) (v := 1) c157_185 rfl rfl).trans ((w_zret (ty := .boolean) c157_186 rfl (by decide)).trans (and_iff_right (by decide)))) ((w_iload_n (pc' := 188) c157_187 rfl rfl).trans ((w_bipush (pc' := 190) (v := 41) c157_188 rfl rfl).trans ((w_icmp_eq (pc' := 193) c157_190 rfl).trans (ite_iff ((w_aload_n (pc' := 196) c157_195 rfl rfl).trans ((w_dup (pc' := 197) c157_196 rfl rfl).trans ((w_getIv (pc' := 200) (v := (I 124 22)) c157_197 kd_124 (by decide) rfl ((updR_k (by decide)).trans (rfl)) rfl).trans ((w_iconst (pc' := 201) (v := 1) c157_200 rfl rfl).trans ((w_isub (pc' := 202) c157_201 rfl).trans ((w_putI (pc' := 205) c157_202 kd_124 (by decide) rfl rfl rfl).trans ((w_aload_n (pc' := 206) c157_205 rfl rfl).trans ((w_dup (pc' := 207) c157_206 rfl rfl).trans ((w_getIv (pc' := 210) (v := (I 124 23)) c157_207 kd_124 (by decide) rfl ((updR_j (by decide)).trans ((updR_k (by decide)).trans (rfl))) rfl).trans ((w_iconst (pc' := 211) (v := 1) c157_210 rfl rfl).trans ((w_isub (pc' := 212) c157_211 rfl).trans ((w_putI (pc' := 215) c157_212 kd_124 (by decide) rfl rfl rfl).trans ((w_aload_n (pc' := 216) c157_215 rfl rfl).trans ((w_dup (pc' := 217) c157_216 rfl rfl).trans ((w_getIv (pc' := 220) (v := (I 124 11)) c157_217 kd_124 (by decide) rfl ((updR_j (by decide)).trans ((updR_j (by decide)).trans ((updR_k (by decide)).trans (rfl)))) rfl).trans ((w_iconst (pc' := 221) (v := 1) c157_220 rfl rfl).trans ((w_iadd (pc' := 222) c157_221 rfl).trans ((w_putI (pc' := 225) c157_222 kd_124 (by decide) rfl rfl rfl).trans ((w_aload_n (pc' := 226) c157_225 rfl rfl).trans ((w_callv (pc' := 229) c157_226 mt161 rfl (Nat.le_of_ble_eq_true rfl) rfl kd_124 rfl rfl (Nat.le_of_ble_eq_true rfl) rfl rfl).trans (wp_congr (fun r w1 => wp_msk lvok157 rfl)))))))))))))))))))))) ((w_iconst (pc' := 194) (v := 0) c157_193 rfl rfl).trans ((w_zret (ty := .boolean) c157_194 rfl (by decide)).trans (and_iff_right (by decide))))))))))))))))))
theorem b157_43 {X : Nat × (Nat → Int32)} {d : Nat} {I : Nat → Nat → Int32} {L : Nat → Nat → Int64} {Q : Option Value → XW → Prop} {x1 : Int32} {x2 : Int32} {x3 : Int32}  : wp X d m157 43 [some (.ref 124), some (.int x1), some (.int x2), some (.int x3)] [] (K0, R0, I, L) Q ↔ (if (I 124 23) = 4 then Q (some (.int 0)) (K0, R0, I, L) else (inA (I 124 22) 101 = true ∧ wp X d m157 22 [some (.ref 124), some (.int x1), some (.int x2), none] [] (K0, R0, (updR (updR (updR (updR I 124 23 ((I 124 23) + 1)) 138 (Int32.toNatClampNeg (I 124 22)) x3) 124 22 ((I 124 22) + 1)) 124 11 ((I 124 11) + 1)), L) Q)) := (w_aload_n (pc' := 44) c157_43 rfl rfl).trans ((w_getIv (pc' := 47) (v := (I 124 23)) c157_44 kd_124 (by decide) rfl (rfl) rfl).trans ((w_iconst (pc' := 48) (v := 4) c157_47 rfl rfl).trans ((w_icmp_ne (pc' := 51) c157_48 rfl).trans (ite_iff ((w_iconst (pc' := 52) (v := 0) c157_51 rfl rfl).trans ((w_zret (ty := .boolean) c157_52 rfl (by decide)).trans (and_iff_right (by decide)))) ((w_aload_n (pc' := 54) c157_53 rfl rfl).trans ((w_dup (pc' := 55) c157_54 rfl rfl).trans ((w_getIv (pc' := 58) (v := (I 124 23)) c157_55 kd_124 (by decide) rfl (rfl) rfl).trans ((w_iconst (pc' := 59) (v := 1) c157_58 rfl rfl).trans ((w_iadd (pc' := 60) c157_59 rfl).trans ((w_putI (pc' := 63) c157_60 kd_124 (by decide) rfl rfl rfl).trans ((w_aload_n (pc' := 64) c157_63 rfl rfl).trans ((w_getR (pc' := 67) (q := 138) c157_64 kd_124 (by decide) rfl rd_124_20 rfl).trans ((w_aload_n (pc' := 68) c157_67 rfl rfl).trans ((w_getIv (pc' := 71) (v := (I 124 22)) c157_68 kd_124 (by decide) rfl ((updR_j (by decide)).trans (rfl)) rfl).trans ((w_iload_n (pc' := 72) c157_71 rfl rfl).trans ((w_iast (pc' := 73) c157_72 kd_138 rfl).trans (and_congr_right (fun _ => (w_aload_n (pc' := 74) c157_73 rfl rfl).trans ((w_dup (pc' := 75) c157_74 rfl rfl).trans ((w_getIv (pc' := 78) (v := (I 124 22)) c157_75 kd_124 (by decide) rfl ((updR_k (by decide)).trans ((updR_j (by decide)).trans (rfl))) rfl).trans ((w_iconst (pc' := 79) (v := 1) c157_78 rfl rfl).trans ((w_iadd (pc' := 80) c157_79 rfl).trans ((w_putI (pc' := 83) c157_80 kd_124 (by decide) rfl rfl rfl).trans ((w_aload_n (pc' := 84) c157_83 rfl rfl).trans ((w_dup (pc' := 85) c157_84 rfl rfl).trans ((w_getIv (pc' := 88) (v := (I 124 11)) c157_85 kd_124 (by decide) rfl ((updR_j (by decide)).trans ((updR_k (by decide)).trans ((updR_j (by decide)).trans (rfl)))) rfl).trans ((w_iconst (pc' := 89) (v := 1) c157_88 rfl rfl).trans ((w_iadd (pc' := 90) c157_89 rfl).trans ((w_putI (pc' := 93) c157_90 kd_124 (by decide) rfl rfl rfl).trans ((w_goto c157_93).trans ((wp_msk lvok157 rfl))))))))))))))))))))))))))))))))
theorem b157_100 {X : Nat × (Nat → Int32)} {d : Nat} {I : Nat → Nat → Int32} {L : Nat → Nat → Int64} {Q : Option Value → XW → Prop} {x1 : Int32} {s0 : Int32}  : wp X d m157 100 [some (.ref 124), some (.int x1), none, none] [(.int s0)] (K0, R0, I, L) Q ↔ (if s0 = 0 then Q (some (.int 0)) (K0, R0, I, L) else wp X d m157 22 [some (.ref 124), some (.int x1), some (.int 0), none] [] (K0, R0, I, L) Q) := (w_if_eq (pc' := 103) c157_100 rfl).trans (ite_iff ((w_iconst (pc' := 109) (v := 0) c157_108 rfl rfl).trans ((w_zret (ty := .boolean) c157_109 rfl (by decide)).trans (and_iff_right (by decide)))) ((w_iconst (pc' := 104) (v := 0) c157_103 rfl rfl).trans ((w_istore_n (pc' := 105) (ls' := [some (.ref 124), some (.int x1), some (.int 0), none]) c157_104 (Nat.le_of_ble_eq_true rfl) rfl rfl).trans ((w_goto c157_105)))))
theorem b157_229 {X : Nat × (Nat → Int32)} {d : Nat} {I : Nat → Nat → Int32} {L : Nat → Nat → Int64} {Q : Option Value → XW → Prop} {x1 : Int32} {x2 : Int32}  : wp X d m157 229 [some (.ref 124), some (.int x1), some (.int x2), none] [] (K0, R0, I, L) Q ↔ wp X d m157 22 [some (.ref 124), some (.int x1), some (.int x2), none] [] (K0, R0, I, L) Q := (w_goto c157_229)
-- LeavesObjectModel.takesTest()Z
theorem c158_0 : cdx (mC m158) 0 = some (0, .aload_n 0, 1, 0, 0, 0, 0, []) := rfl
theorem c158_1 : cdx (mC m158) 1 = some (1, .aload_n 0, 1, 0, 0, 0, 0, []) := rfl
theorem c158_2 : cdx (mC m158) 2 = some (2, .invokevirtual 224, 3, 152, 0, 0, 5127, [(10, 0)]) := rfl
theorem c158_5 : cdx (mC m158) 5 = some (5, .invokevirtual 239, 3, 159, 1, 0, 5155, [(10, 0)]) := rfl
theorem c158_8 : cdx (mC m158) 8 = some (8, .istore_n 1, 1, 1, 0, 0, 0, []) := rfl
theorem c158_9 : cdx (mC m158) 9 = some (9, .iload_n 1, 1, 1, 0, 0, 0, []) := rfl
theorem c158_10 : cdx (mC m158) 10 = some (10, .ifCond .ge 5, 3, 15, 0, 0, 0, []) := rfl
theorem c158_13 : cdx (mC m158) 13 = some (13, .iconst 0, 1, 0, 0, 0, 0, []) := rfl
theorem c158_14 : cdx (mC m158) 14 = some (14, .ireturn, 1, 0, 0, 0, 0, []) := rfl
theorem c158_15 : cdx (mC m158) 15 = some (15, .aload_n 0, 1, 0, 0, 0, 0, []) := rfl
theorem c158_16 : cdx (mC m158) 16 = some (16, .dup, 1, 0, 0, 0, 0, []) := rfl
theorem c158_17 : cdx (mC m158) 17 = some (17, .getfield 44, 3, 10, 11, 0, 4137, []) := rfl
theorem c158_20 : cdx (mC m158) 20 = some (20, .iconst 1, 1, 0, 0, 0, 0, []) := rfl
theorem c158_21 : cdx (mC m158) 21 = some (21, .iadd, 1, 0, 0, 0, 0, []) := rfl
theorem c158_22 : cdx (mC m158) 22 = some (22, .putfield 44, 3, 10, 11, 0, 4137, []) := rfl
theorem c158_25 : cdx (mC m158) 25 = some (25, .aload_n 0, 1, 0, 0, 0, 0, []) := rfl
theorem c158_26 : cdx (mC m158) 26 = some (26, .invokevirtual 224, 3, 152, 0, 0, 5127, [(10, 0)]) := rfl
theorem c158_29 : cdx (mC m158) 29 = some (29, .istore_n 2, 1, 2, 0, 0, 0, []) := rfl
theorem c158_30 : cdx (mC m158) 30 = some (30, .aload_n 0, 1, 0, 0, 0, 0, []) := rfl
theorem c158_31 : cdx (mC m158) 31 = some (31, .iload_n 2, 1, 2, 0, 0, 0, []) := rfl
theorem c158_32 : cdx (mC m158) 32 = some (32, .bipush 60, 2, 0, 0, 0, 0, []) := rfl
theorem c158_34 : cdx (mC m158) 34 = some (34, .bipush 62, 2, 0, 0, 0, 0, []) := rfl
theorem c158_36 : cdx (mC m158) 36 = some (36, .invokevirtual 213, 3, 142, 3, 0, 5087, [(10, 0)]) := rfl
theorem c158_39 : cdx (mC m158) 39 = some (39, .ifCond .ne 5, 3, 44, 0, 0, 0, []) := rfl
theorem c158_42 : cdx (mC m158) 42 = some (42, .iconst 0, 1, 0, 0, 0, 0, []) := rfl
theorem c158_43 : cdx (mC m158) 43 = some (43, .ireturn, 1, 0, 0, 0, 0, []) := rfl
theorem c158_44 : cdx (mC m158) 44 = some (44, .aload_n 0, 1, 0, 0, 0, 0, []) := rfl
theorem c158_45 : cdx (mC m158) 45 = some (45, .dup, 1, 0, 0, 0, 0, []) := rfl
theorem c158_46 : cdx (mC m158) 46 = some (46, .getfield 44, 3, 10, 11, 0, 4137, []) := rfl
theorem c158_49 : cdx (mC m158) 49 = some (49, .iconst 1, 1, 0, 0, 0, 0, []) := rfl
theorem c158_50 : cdx (mC m158) 50 = some (50, .iadd, 1, 0, 0, 0, 0, []) := rfl
theorem c158_51 : cdx (mC m158) 51 = some (51, .putfield 44, 3, 10, 11, 0, 4137, []) := rfl
theorem c158_54 : cdx (mC m158) 54 = some (54, .aload_n 0, 1, 0, 0, 0, 0, []) := rfl
theorem c158_55 : cdx (mC m158) 55 = some (55, .invokevirtual 243, 3, 155, 0, 0, 5139, [(10, 0)]) := rfl
theorem c158_58 : cdx (mC m158) 58 = some (58, .ifCond .ne 5, 3, 63, 0, 0, 0, []) := rfl
theorem c158_61 : cdx (mC m158) 61 = some (61, .iconst 0, 1, 0, 0, 0, 0, []) := rfl
theorem c158_62 : cdx (mC m158) 62 = some (62, .ireturn, 1, 0, 0, 0, 0, []) := rfl
theorem c158_63 : cdx (mC m158) 63 = some (63, .aload_n 0, 1, 0, 0, 0, 0, []) := rfl
theorem c158_64 : cdx (mC m158) 64 = some (64, .sipush 1000, 3, 0, 0, 0, 0, []) := rfl
theorem c158_67 : cdx (mC m158) 67 = some (67, .iload_n 1, 1, 1, 0, 0, 0, []) := rfl
theorem c158_68 : cdx (mC m158) 68 = some (68, .imul, 1, 0, 0, 0, 0, []) := rfl
theorem c158_69 : cdx (mC m158) 69 = some (69, .bipush 100, 2, 0, 0, 0, 0, []) := rfl
theorem c158_71 : cdx (mC m158) 71 = some (71, .iload_n 2, 1, 2, 0, 0, 0, []) := rfl
theorem c158_72 : cdx (mC m158) 72 = some (72, .bipush 60, 2, 0, 0, 0, 0, []) := rfl
theorem c158_74 : cdx (mC m158) 74 = some (74, .isub, 1, 0, 0, 0, 0, []) := rfl
theorem c158_75 : cdx (mC m158) 75 = some (75, .imul, 1, 0, 0, 0, 0, []) := rfl
theorem c158_76 : cdx (mC m158) 76 = some (76, .iadd, 1, 0, 0, 0, 0, []) := rfl
theorem c158_77 : cdx (mC m158) 77 = some (77, .aload_n 0, 1, 0, 0, 0, 0, []) := rfl
theorem c158_78 : cdx (mC m158) 78 = some (78, .getfield 47, 3, 10, 12, 0, 4138, []) := rfl
theorem c158_81 : cdx (mC m158) 81 = some (81, .iadd, 1, 0, 0, 0, 0, []) := rfl
theorem c158_82 : cdx (mC m158) 82 = some (82, .invokevirtual 235, 3, 160, 1, 0, 5159, [(10, 0)]) := rfl
theorem c158_85 : cdx (mC m158) 85 = some (85, .aload_n 0, 1, 0, 0, 0, 0, []) := rfl
theorem c158_86 : cdx (mC m158) 86 = some (86, .invokevirtual 246, 3, 161, 0, 0, 5163, [(10, 0)]) := rfl
theorem c158_89 : cdx (mC m158) 89 = some (89, .iconst 1, 1, 0, 0, 0, 0, []) := rfl
theorem c158_90 : cdx (mC m158) 90 = some (90, .ireturn, 1, 0, 0, 0, 0, []) := rfl
def lv158 : List (Nat × List Nat) := [(0, [0]), (1, [0]), (2, [0]), (5, [0]), (8, [0]), (9, [0, 1]), (10, [0, 1]), (15, [0, 1]), (16, [0, 1]), (17, [0, 1]), (20, [0, 1]), (21, [0, 1]), (22, [0, 1]), (25, [0, 1]), (26, [0, 1]), (29, [0, 1]), (30, [0, 1, 2]), (31, [0, 1, 2]), (32, [0, 1, 2]), (34, [0, 1, 2]), (36, [0, 1, 2]), (39, [0, 1, 2]), (44, [0, 1, 2]), (45, [0, 1, 2]), (46, [0, 1, 2]), (49, [0, 1, 2]), (50, [0, 1, 2]), (51, [0, 1, 2]), (54, [0, 1, 2]), (55, [0, 1, 2]), (58, [0, 1, 2]), (63, [0, 1, 2]), (64, [0, 1, 2]), (67, [0, 1, 2]), (68, [0, 2]), (69, [0, 2]), (71, [0, 2]), (72, [0]), (74, [0]), (75, [0]), (76, [0]), (77, [0]), (78, [0]), (81, [0]), (82, [0]), (85, [0])]
theorem lvok158 : lvOk (mC m158) lv158 = true := by decide +kernel
theorem b158_0 {X : Nat × (Nat → Int32)} {d : Nat} {I : Nat → Nat → Int32} {L : Nat → Nat → Int64} {Q : Option Value → XW → Prop}   : wp X (d + 1) m158 0 [some (.ref 124), none, none] [] (K0, R0, I, L) Q ↔ wp X d m152 0 [some (.ref 124)] [] (K0, R0, I, L) (fun r w1 => wp X (d + 1) m158 5 [some (.ref 124), none, none] (r.toList ++ [(.ref 124)]) w1 Q) := (w_aload_n (pc' := 1) c158_0 rfl rfl).trans ((w_aload_n (pc' := 2) c158_1 rfl rfl).trans ((w_callv (pc' := 5) c158_2 mt152 rfl (Nat.le_of_ble_eq_true rfl) rfl kd_124 rfl rfl (Nat.le_of_ble_eq_true rfl) rfl rfl)))
theorem b158_5 {X : Nat × (Nat → Int32)} {d : Nat} {I : Nat → Nat → Int32} {L : Nat → Nat → Int64} {Q : Option Value → XW → Prop} {s1 : Int32}  : wp X (d + 1) m158 5 [some (.ref 124), none, none] [(.int s1), (.ref 124)] (K0, R0, I, L) Q ↔ wp X d m159 0 [some (.ref 124), some (.int s1)] [] (K0, R0, I, L) (fun r w1 => wp X (d + 1) m158 8 [some (.ref 124), none, none] (r.toList ++ []) w1 Q) := (w_callv (pc' := 8) c158_5 mt159 rfl (Nat.le_of_ble_eq_true rfl) rfl kd_124 rfl rfl (Nat.le_of_ble_eq_true rfl) rfl rfl)
theorem b158_8 {X : Nat × (Nat → Int32)} {d : Nat} {I : Nat → Nat → Int32} {L : Nat → Nat → Int64} {Q : Option Value → XW → Prop} {s0 : Int32}  : wp X (d + 1) m158 8 [some (.ref 124), none, none] [(.int s0)] (K0, R0, I, L) Q ↔ (if s0 < 0 then Q (some (.int 0)) (K0, R0, I, L) else wp X d m152 0 [some (.ref 124)] [] (K0, R0, (updR I 124 11 ((I 124 11) + 1)), L) (fun r w1 => wp X (d + 1) m158 29 [some (.ref 124), some (.int s0), none] (r.toList ++ []) w1 Q)) := (w_istore_n (pc' := 9) (ls' := [some (.ref 124), some (.int s0), none]) c158_8 (Nat.le_of_ble_eq_true rfl) rfl rfl).trans ((w_iload_n (pc' := 10) c158_9 rfl rfl).trans ((w_if_ge (pc' := 13) c158_10 rfl).trans (ite_iff ((w_iconst (pc' := 14) (v := 0) c158_13 rfl rfl).trans ((w_zret (ty := .boolean) c158_14 rfl (by decide)).trans (and_iff_right (by decide)))) ((w_aload_n (pc' := 16) c158_15 rfl rfl).trans ((w_dup (pc' := 17) c158_16 rfl rfl).trans ((w_getIv (pc' := 20) (v := (I 124 11)) c158_17 kd_124 (by decide) rfl (rfl) rfl).trans ((w_iconst (pc' := 21) (v := 1) c158_20 rfl rfl).trans ((w_iadd (pc' := 22) c158_21 rfl).trans ((w_putI (pc' := 25) c158_22 kd_124 (by decide) rfl rfl rfl).trans ((w_aload_n (pc' := 26) c158_25 rfl rfl).trans ((w_callv (pc' := 29) c158_26 mt152 rfl (Nat.le_of_ble_eq_true rfl) rfl kd_124 rfl rfl (Nat.le_of_ble_eq_true rfl) rfl rfl))))))))))))
theorem b158_29 {X : Nat × (Nat → Int32)} {d : Nat} {I : Nat → Nat → Int32} {L : Nat → Nat → Int64} {Q : Option Value → XW → Prop} {x1 : Int32} {s0 : Int32}  : wp X (d + 1) m158 29 [some (.ref 124), some (.int x1), none] [(.int s0)] (K0, R0, I, L) Q ↔ wp X d m142 0 [some (.ref 124), some (.int s0), some (.int 60), some (.int 62)] [] (K0, R0, I, L) (fun r w1 => wp X (d + 1) m158 39 [some (.ref 124), some (.int x1), some (.int s0)] (r.toList ++ []) w1 Q) := (w_istore_n (pc' := 30) (ls' := [some (.ref 124), some (.int x1), some (.int s0)]) c158_29 (Nat.le_of_ble_eq_true rfl) rfl rfl).trans ((w_aload_n (pc' := 31) c158_30 rfl rfl).trans ((w_iload_n (pc' := 32) c158_31 rfl rfl).trans ((w_bipush (pc' := 34) (v := 60) c158_32 rfl rfl).trans ((w_bipush (pc' := 36) (v := 62) c158_34 rfl rfl).trans ((w_callv (pc' := 39) c158_36 mt142 rfl (Nat.le_of_ble_eq_true rfl) rfl kd_124 rfl rfl (Nat.le_of_ble_eq_true rfl) rfl rfl))))))
theorem b158_39 {X : Nat × (Nat → Int32)} {d : Nat} {I : Nat → Nat → Int32} {L : Nat → Nat → Int64} {Q : Option Value → XW → Prop} {x1 : Int32} {x2 : Int32} {s0 : Int32}  : wp X (d + 1) m158 39 [some (.ref 124), some (.int x1), some (.int x2)] [(.int s0)] (K0, R0, I, L) Q ↔ (if s0 = 0 then Q (some (.int 0)) (K0, R0, I, L) else wp X d m155 0 [some (.ref 124), none] [] (K0, R0, (updR I 124 11 ((I 124 11) + 1)), L) (fun r w1 => wp X (d + 1) m158 58 [some (.ref 124), some (.int x1), some (.int x2)] (r.toList ++ []) w1 Q)) := (w_if_ne (pc' := 42) c158_39 rfl).trans (ite_iff ((w_iconst (pc' := 43) (v := 0) c158_42 rfl rfl).trans ((w_zret (ty := .boolean) c158_43 rfl (by decide)).trans (and_iff_right (by decide)))) ((w_aload_n (pc' := 45) c158_44 rfl rfl).trans ((w_dup (pc' := 46) c158_45 rfl rfl).trans ((w_getIv (pc' := 49) (v := (I 124 11)) c158_46 kd_124 (by decide) rfl (rfl) rfl).trans ((w_iconst (pc' := 50) (v := 1) c158_49 rfl rfl).trans ((w_iadd (pc' := 51) c158_50 rfl).trans ((w_putI (pc' := 54) c158_51 kd_124 (by decide) rfl rfl rfl).trans ((w_aload_n (pc' := 55) c158_54 rfl rfl).trans ((w_callv (pc' := 58) c158_55 mt155 rfl (Nat.le_of_ble_eq_true rfl) rfl kd_124 rfl rfl (Nat.le_of_ble_eq_true rfl) rfl rfl))))))))))
theorem b158_58 {X : Nat × (Nat → Int32)} {d : Nat} {I : Nat → Nat → Int32} {L : Nat → Nat → Int64} {Q : Option Value → XW → Prop} {x1 : Int32} {x2 : Int32} {s0 : Int32}  : wp X (d + 1) m158 58 [some (.ref 124), some (.int x1), some (.int x2)] [(.int s0)] (K0, R0, I, L) Q ↔ (if s0 = 0 then Q (some (.int 0)) (K0, R0, I, L) else wp X d m160 0 [some (.ref 124), some (.int (((1000 * x1) + (100 * (x2 - 60))) + (I 124 12)))] [] (K0, R0, I, L) (fun r w1 => wp X (d + 1) m158 85 [some (.ref 124), none, none] (r.toList ++ []) w1 Q)) := (w_if_ne (pc' := 61) c158_58 rfl).trans (ite_iff ((w_iconst (pc' := 62) (v := 0) c158_61 rfl rfl).trans ((w_zret (ty := .boolean) c158_62 rfl (by decide)).trans (and_iff_right (by decide)))) ((w_aload_n (pc' := 64) c158_63 rfl rfl).trans ((w_sipush (pc' := 67) (v := 1000) c158_64 rfl rfl).trans ((w_iload_n (pc' := 68) c158_67 rfl rfl).trans ((w_imul (pc' := 69) c158_68 rfl).trans ((w_bipush (pc' := 71) (v := 100) c158_69 rfl rfl).trans ((w_iload_n (pc' := 72) c158_71 rfl rfl).trans ((w_bipush (pc' := 74) (v := 60) c158_72 rfl rfl).trans ((w_isub (pc' := 75) c158_74 rfl).trans ((w_imul (pc' := 76) c158_75 rfl).trans ((w_iadd (pc' := 77) c158_76 rfl).trans ((w_aload_n (pc' := 78) c158_77 rfl rfl).trans ((w_getIv (pc' := 81) (v := (I 124 12)) c158_78 kd_124 (by decide) rfl (rfl) rfl).trans ((w_iadd (pc' := 82) c158_81 rfl).trans ((w_callv (pc' := 85) c158_82 mt160 rfl (Nat.le_of_ble_eq_true rfl) rfl kd_124 rfl rfl (Nat.le_of_ble_eq_true rfl) rfl rfl).trans (wp_congr (fun r w1 => wp_msk lvok158 rfl)))))))))))))))))
theorem b158_85 {X : Nat × (Nat → Int32)} {d : Nat} {I : Nat → Nat → Int32} {L : Nat → Nat → Int64} {Q : Option Value → XW → Prop}   : wp X (d + 1) m158 85 [some (.ref 124), none, none] [] (K0, R0, I, L) Q ↔ wp X d m161 0 [some (.ref 124)] [] (K0, R0, I, L) (fun r w1 => wp X (d + 1) m158 89 [none, none, none] (r.toList ++ []) w1 Q) := (w_aload_n (pc' := 86) c158_85 rfl rfl).trans ((w_callv (pc' := 89) c158_86 mt161 rfl (Nat.le_of_ble_eq_true rfl) rfl kd_124 rfl rfl (Nat.le_of_ble_eq_true rfl) rfl rfl).trans (wp_congr (fun r w1 => wp_msk lvok158 rfl)))
theorem b158_89 {X : Nat × (Nat → Int32)} {d : Nat} {I : Nat → Nat → Int32} {L : Nat → Nat → Int64} {Q : Option Value → XW → Prop}   : wp X d m158 89 [none, none, none] [] (K0, R0, I, L) Q ↔ Q (some (.int 1)) (K0, R0, I, L) := (w_iconst (pc' := 90) (v := 1) c158_89 rfl rfl).trans ((w_zret (ty := .boolean) c158_90 rfl (by decide)).trans (and_iff_right (by decide)))
-- LeavesObjectModel.place(I)I
theorem c159_0 : cdx (mC m159) 0 = some (0, .iload_n 1, 1, 1, 0, 0, 0, []) := rfl
theorem c159_1 : cdx (mC m159) 1 = some (1, .lookupswitch 71 #[(99, 59), (107, 63), (108, 67), (110, 69), (118, 65), (119, 61)], 59, 72, 0, 0, 0, [(99, 60), (107, 64), (108, 68), (110, 70), (118, 66), (119, 62)]) := rfl
theorem c159_60 : cdx (mC m159) 60 = some (60, .iconst 0, 1, 0, 0, 0, 0, []) := rfl
theorem c159_61 : cdx (mC m159) 61 = some (61, .ireturn, 1, 0, 0, 0, 0, []) := rfl
theorem c159_62 : cdx (mC m159) 62 = some (62, .iconst 1, 1, 0, 0, 0, 0, []) := rfl
theorem c159_63 : cdx (mC m159) 63 = some (63, .ireturn, 1, 0, 0, 0, 0, []) := rfl
theorem c159_64 : cdx (mC m159) 64 = some (64, .iconst 2, 1, 0, 0, 0, 0, []) := rfl
theorem c159_65 : cdx (mC m159) 65 = some (65, .ireturn, 1, 0, 0, 0, 0, []) := rfl
theorem c159_66 : cdx (mC m159) 66 = some (66, .iconst 3, 1, 0, 0, 0, 0, []) := rfl
theorem c159_67 : cdx (mC m159) 67 = some (67, .ireturn, 1, 0, 0, 0, 0, []) := rfl
theorem c159_68 : cdx (mC m159) 68 = some (68, .iconst 4, 1, 0, 0, 0, 0, []) := rfl
theorem c159_69 : cdx (mC m159) 69 = some (69, .ireturn, 1, 0, 0, 0, 0, []) := rfl
theorem c159_70 : cdx (mC m159) 70 = some (70, .iconst 5, 1, 0, 0, 0, 0, []) := rfl
theorem c159_71 : cdx (mC m159) 71 = some (71, .ireturn, 1, 0, 0, 0, 0, []) := rfl
theorem c159_72 : cdx (mC m159) 72 = some (72, .iconst (-1), 1, 0, 0, 0, 0, []) := rfl
theorem c159_73 : cdx (mC m159) 73 = some (73, .ireturn, 1, 0, 0, 0, 0, []) := rfl
theorem b159_0 {X : Nat × (Nat → Int32)} {d : Nat} {I : Nat → Nat → Int32} {L : Nat → Nat → Int64} {Q : Option Value → XW → Prop} {x1 : Int32}  : wp X d m159 0 [some (.ref 124), some (.int x1)] [] (K0, R0, I, L) Q ↔ Q (some (.int (if x1 = 99 then 0 else (if x1 = 107 then 2 else (if x1 = 108 then 4 else (if x1 = 110 then 5 else (if x1 = 118 then 3 else (if x1 = 119 then 1 else (-1))))))))) (K0, R0, I, L) := (w_iload_n (pc' := 1) c159_0 rfl rfl).trans ((w_lswitch c159_1).trans ((w_swcons (v := 99) rfl).trans ((ite_iff ((w_iconst (pc' := 61) (v := 0) c159_60 rfl rfl).trans (w_iret c159_61 rfl)) ((w_swcons (v := 107) rfl).trans ((ite_iff ((w_iconst (pc' := 65) (v := 2) c159_64 rfl rfl).trans (w_iret c159_65 rfl)) ((w_swcons (v := 108) rfl).trans ((ite_iff ((w_iconst (pc' := 69) (v := 4) c159_68 rfl rfl).trans (w_iret c159_69 rfl)) ((w_swcons (v := 110) rfl).trans ((ite_iff ((w_iconst (pc' := 71) (v := 5) c159_70 rfl rfl).trans (w_iret c159_71 rfl)) ((w_swcons (v := 118) rfl).trans ((ite_iff ((w_iconst (pc' := 67) (v := 3) c159_66 rfl rfl).trans (w_iret c159_67 rfl)) ((w_swcons (v := 119) rfl).trans ((ite_iff ((w_iconst (pc' := 63) (v := 1) c159_62 rfl rfl).trans (w_iret c159_63 rfl)) ((w_swnil).trans ((w_iconst (pc' := 73) (v := (-1)) c159_72 rfl rfl).trans (w_iret c159_73 rfl)))).trans (ite_val (fun z => Q (some (.int z)) (K0, R0, I, L)))))).trans (ite_val (fun z => Q (some (.int z)) (K0, R0, I, L)))))).trans (ite_val (fun z => Q (some (.int z)) (K0, R0, I, L)))))).trans (ite_val (fun z => Q (some (.int z)) (K0, R0, I, L)))))).trans (ite_val (fun z => Q (some (.int z)) (K0, R0, I, L)))))).trans (ite_val (fun z => Q (some (.int z)) (K0, R0, I, L))))))
-- LeavesObjectModel.emits(I)V
theorem c160_0 : cdx (mC m160) 0 = some (0, .aload_n 0, 1, 0, 0, 0, 0, []) := rfl
theorem c160_1 : cdx (mC m160) 1 = some (1, .getfield 68, 3, 10, 19, 0, 4145, []) := rfl
theorem c160_4 : cdx (mC m160) 4 = some (4, .aload_n 0, 1, 0, 0, 0, 0, []) := rfl
theorem c160_5 : cdx (mC m160) 5 = some (5, .getfield 74, 3, 10, 21, 0, 4147, []) := rfl
theorem c160_8 : cdx (mC m160) 8 = some (8, .iload_n 1, 1, 1, 0, 0, 0, []) := rfl
theorem c160_9 : cdx (mC m160) 9 = some (9, .iastore, 1, 0, 0, 0, 0, []) := rfl
theorem c160_10 : cdx (mC m160) 10 = some (10, .aload_n 0, 1, 0, 0, 0, 0, []) := rfl
theorem c160_11 : cdx (mC m160) 11 = some (11, .dup, 1, 0, 0, 0, 0, []) := rfl
theorem c160_12 : cdx (mC m160) 12 = some (12, .getfield 74, 3, 10, 21, 0, 4147, []) := rfl
theorem c160_15 : cdx (mC m160) 15 = some (15, .iconst 1, 1, 0, 0, 0, 0, []) := rfl
theorem c160_16 : cdx (mC m160) 16 = some (16, .iadd, 1, 0, 0, 0, 0, []) := rfl
theorem c160_17 : cdx (mC m160) 17 = some (17, .putfield 74, 3, 10, 21, 0, 4147, []) := rfl
theorem c160_20 : cdx (mC m160) 20 = some (20, .return_, 1, 0, 0, 0, 0, []) := rfl
theorem b160_0 {X : Nat × (Nat → Int32)} {d : Nat} {I : Nat → Nat → Int32} {L : Nat → Nat → Int64} {Q : Option Value → XW → Prop} {x1 : Int32}  : wp X d m160 0 [some (.ref 124), some (.int x1)] [] (K0, R0, I, L) Q ↔ (inA (I 124 21) 600 = true ∧ Q none (K0, R0, (updR (updR I 137 (Int32.toNatClampNeg (I 124 21)) x1) 124 21 ((I 124 21) + 1)), L)) := (w_aload_n (pc' := 1) c160_0 rfl rfl).trans ((w_getR (pc' := 4) (q := 137) c160_1 kd_124 (by decide) rfl rd_124_19 rfl).trans ((w_aload_n (pc' := 5) c160_4 rfl rfl).trans ((w_getIv (pc' := 8) (v := (I 124 21)) c160_5 kd_124 (by decide) rfl (rfl) rfl).trans ((w_iload_n (pc' := 9) c160_8 rfl rfl).trans ((w_iast (pc' := 10) c160_9 kd_137 rfl).trans (and_congr_right (fun _ => (w_aload_n (pc' := 11) c160_10 rfl rfl).trans ((w_dup (pc' := 12) c160_11 rfl rfl).trans ((w_getIv (pc' := 15) (v := (I 124 21)) c160_12 kd_124 (by decide) rfl ((updR_k (by decide)).trans (rfl)) rfl).trans ((w_iconst (pc' := 16) (v := 1) c160_15 rfl rfl).trans ((w_iadd (pc' := 17) c160_16 rfl).trans ((w_putI (pc' := 20) c160_17 kd_124 (by decide) rfl rfl rfl).trans (w_vret c160_20 rfl)))))))))))))
-- LeavesObjectModel.whole()V
theorem c161_0 : cdx (mC m161) 0 = some (0, .aload_n 0, 1, 0, 0, 0, 0, []) := rfl
theorem c161_1 : cdx (mC m161) 1 = some (1, .getfield 77, 3, 10, 22, 0, 4148, []) := rfl
theorem c161_4 : cdx (mC m161) 4 = some (4, .ifCond .le 48, 3, 52, 0, 0, 0, []) := rfl
theorem c161_7 : cdx (mC m161) 7 = some (7, .aload_n 0, 1, 0, 0, 0, 0, []) := rfl
theorem c161_8 : cdx (mC m161) 8 = some (8, .getfield 71, 3, 10, 20, 0, 4146, []) := rfl
theorem c161_11 : cdx (mC m161) 11 = some (11, .aload_n 0, 1, 0, 0, 0, 0, []) := rfl
theorem c161_12 : cdx (mC m161) 12 = some (12, .getfield 77, 3, 10, 22, 0, 4148, []) := rfl
theorem c161_15 : cdx (mC m161) 15 = some (15, .iconst 1, 1, 0, 0, 0, 0, []) := rfl
theorem c161_16 : cdx (mC m161) 16 = some (16, .isub, 1, 0, 0, 0, 0, []) := rfl
theorem c161_17 : cdx (mC m161) 17 = some (17, .iaload, 1, 0, 0, 0, 0, []) := rfl
theorem c161_18 : cdx (mC m161) 18 = some (18, .bipush 33, 2, 0, 0, 0, 0, []) := rfl
theorem c161_20 : cdx (mC m161) 20 = some (20, .if_icmp .ne 32, 3, 52, 0, 0, 0, []) := rfl
theorem c161_23 : cdx (mC m161) 23 = some (23, .aload_n 0, 1, 0, 0, 0, 0, []) := rfl
theorem c161_24 : cdx (mC m161) 24 = some (24, .bipush (-33), 2, 0, 0, 0, 0, []) := rfl
theorem c161_26 : cdx (mC m161) 26 = some (26, .invokevirtual 235, 3, 160, 1, 0, 5159, [(10, 0)]) := rfl
theorem c161_29 : cdx (mC m161) 29 = some (29, .aload_n 0, 1, 0, 0, 0, 0, []) := rfl
theorem c161_30 : cdx (mC m161) 30 = some (30, .dup, 1, 0, 0, 0, 0, []) := rfl
theorem c161_31 : cdx (mC m161) 31 = some (31, .getfield 77, 3, 10, 22, 0, 4148, []) := rfl
theorem c161_34 : cdx (mC m161) 34 = some (34, .iconst 1, 1, 0, 0, 0, 0, []) := rfl
theorem c161_35 : cdx (mC m161) 35 = some (35, .isub, 1, 0, 0, 0, 0, []) := rfl
theorem c161_36 : cdx (mC m161) 36 = some (36, .putfield 77, 3, 10, 22, 0, 4148, []) := rfl
theorem c161_39 : cdx (mC m161) 39 = some (39, .aload_n 0, 1, 0, 0, 0, 0, []) := rfl
theorem c161_40 : cdx (mC m161) 40 = some (40, .dup, 1, 0, 0, 0, 0, []) := rfl
theorem c161_41 : cdx (mC m161) 41 = some (41, .getfield 80, 3, 10, 23, 0, 4149, []) := rfl
theorem c161_44 : cdx (mC m161) 44 = some (44, .iconst 1, 1, 0, 0, 0, 0, []) := rfl
theorem c161_45 : cdx (mC m161) 45 = some (45, .isub, 1, 0, 0, 0, 0, []) := rfl
theorem c161_46 : cdx (mC m161) 46 = some (46, .putfield 80, 3, 10, 23, 0, 4149, []) := rfl
theorem c161_49 : cdx (mC m161) 49 = some (49, .goto (-49), 3, 0, 0, 0, 0, []) := rfl
theorem c161_52 : cdx (mC m161) 52 = some (52, .return_, 1, 0, 0, 0, 0, []) := rfl
theorem b161_0 {X : Nat × (Nat → Int32)} {d : Nat} {I : Nat → Nat → Int32} {L : Nat → Nat → Int64} {Q : Option Value → XW → Prop}   : wp X (d + 1) m161 0 [some (.ref 124)] [] (K0, R0, I, L) Q ↔ (if 0 < (I 124 22) then (inA ((I 124 22) - 1) 101 = true ∧ (if (I 138 (Int32.toNatClampNeg ((I 124 22) - 1))) = 33 then wp X d m160 0 [some (.ref 124), some (.int (-33))] [] (K0, R0, I, L) (fun r w1 => wp X (d + 1) m161 29 [some (.ref 124)] (r.toList ++ []) w1 Q) else Q none (K0, R0, I, L))) else Q none (K0, R0, I, L)) := (w_aload_n (pc' := 1) c161_0 rfl rfl).trans ((w_getIv (pc' := 4) (v := (I 124 22)) c161_1 kd_124 (by decide) rfl (rfl) rfl).trans ((w_if_le (pc' := 7) c161_4 rfl).trans (ite_iff ((w_aload_n (pc' := 8) c161_7 rfl rfl).trans ((w_getR (pc' := 11) (q := 138) c161_8 kd_124 (by decide) rfl rd_124_20 rfl).trans ((w_aload_n (pc' := 12) c161_11 rfl rfl).trans ((w_getIv (pc' := 15) (v := (I 124 22)) c161_12 kd_124 (by decide) rfl (rfl) rfl).trans ((w_iconst (pc' := 16) (v := 1) c161_15 rfl rfl).trans ((w_isub (pc' := 17) c161_16 rfl).trans ((w_ialdv (pc' := 18) (v := (I 138 (Int32.toNatClampNeg ((I 124 22) - 1)))) c161_17 kd_138 (rfl) rfl).trans (and_congr_right (fun _ => (w_bipush (pc' := 20) (v := 33) c161_18 rfl rfl).trans ((w_icmp_ne (pc' := 23) c161_20 rfl).trans (ite_iff ((w_aload_n (pc' := 24) c161_23 rfl rfl).trans ((w_bipush (pc' := 26) (v := (-33)) c161_24 rfl rfl).trans ((w_callv (pc' := 29) c161_26 mt160 rfl (Nat.le_of_ble_eq_true rfl) rfl kd_124 rfl rfl (Nat.le_of_ble_eq_true rfl) rfl rfl)))) (w_vret c161_52 rfl)))))))))))) (w_vret c161_52 rfl))))
theorem b161_29 {X : Nat × (Nat → Int32)} {d : Nat} {I : Nat → Nat → Int32} {L : Nat → Nat → Int64} {Q : Option Value → XW → Prop}   : wp X d m161 29 [some (.ref 124)] [] (K0, R0, I, L) Q ↔ wp X d m161 0 [some (.ref 124)] [] (K0, R0, (updR (updR I 124 22 ((I 124 22) - 1)) 124 23 ((I 124 23) - 1)), L) Q := (w_aload_n (pc' := 30) c161_29 rfl rfl).trans ((w_dup (pc' := 31) c161_30 rfl rfl).trans ((w_getIv (pc' := 34) (v := (I 124 22)) c161_31 kd_124 (by decide) rfl (rfl) rfl).trans ((w_iconst (pc' := 35) (v := 1) c161_34 rfl rfl).trans ((w_isub (pc' := 36) c161_35 rfl).trans ((w_putI (pc' := 39) c161_36 kd_124 (by decide) rfl rfl rfl).trans ((w_aload_n (pc' := 40) c161_39 rfl rfl).trans ((w_dup (pc' := 41) c161_40 rfl rfl).trans ((w_getIv (pc' := 44) (v := (I 124 23)) c161_41 kd_124 (by decide) rfl ((updR_j (by decide)).trans (rfl)) rfl).trans ((w_iconst (pc' := 45) (v := 1) c161_44 rfl rfl).trans ((w_isub (pc' := 46) c161_45 rfl).trans ((w_putI (pc' := 49) c161_46 kd_124 (by decide) rfl rfl rfl).trans ((w_goto c161_49)))))))))))))
-- LeavesObjectModel.settle(I)V
theorem c162_0 : cdx (mC m162) 0 = some (0, .aload_n 0, 1, 0, 0, 0, 0, []) := rfl
theorem c162_1 : cdx (mC m162) 1 = some (1, .getfield 77, 3, 10, 22, 0, 4148, []) := rfl
theorem c162_4 : cdx (mC m162) 4 = some (4, .ifCond .le 68, 3, 72, 0, 0, 0, []) := rfl
theorem c162_7 : cdx (mC m162) 7 = some (7, .aload_n 0, 1, 0, 0, 0, 0, []) := rfl
theorem c162_8 : cdx (mC m162) 8 = some (8, .getfield 71, 3, 10, 20, 0, 4146, []) := rfl
theorem c162_11 : cdx (mC m162) 11 = some (11, .aload_n 0, 1, 0, 0, 0, 0, []) := rfl
theorem c162_12 : cdx (mC m162) 12 = some (12, .getfield 77, 3, 10, 22, 0, 4148, []) := rfl
theorem c162_15 : cdx (mC m162) 15 = some (15, .iconst 1, 1, 0, 0, 0, 0, []) := rfl
theorem c162_16 : cdx (mC m162) 16 = some (16, .isub, 1, 0, 0, 0, 0, []) := rfl
theorem c162_17 : cdx (mC m162) 17 = some (17, .iaload, 1, 0, 0, 0, 0, []) := rfl
theorem c162_18 : cdx (mC m162) 18 = some (18, .bipush 38, 2, 0, 0, 0, 0, []) := rfl
theorem c162_20 : cdx (mC m162) 20 = some (20, .if_icmp .eq 25, 3, 45, 0, 0, 0, []) := rfl
theorem c162_23 : cdx (mC m162) 23 = some (23, .aload_n 0, 1, 0, 0, 0, 0, []) := rfl
theorem c162_24 : cdx (mC m162) 24 = some (24, .getfield 71, 3, 10, 20, 0, 4146, []) := rfl
theorem c162_27 : cdx (mC m162) 27 = some (27, .aload_n 0, 1, 0, 0, 0, 0, []) := rfl
theorem c162_28 : cdx (mC m162) 28 = some (28, .getfield 77, 3, 10, 22, 0, 4148, []) := rfl
theorem c162_31 : cdx (mC m162) 31 = some (31, .iconst 1, 1, 0, 0, 0, 0, []) := rfl
theorem c162_32 : cdx (mC m162) 32 = some (32, .isub, 1, 0, 0, 0, 0, []) := rfl
theorem c162_33 : cdx (mC m162) 33 = some (33, .iaload, 1, 0, 0, 0, 0, []) := rfl
theorem c162_34 : cdx (mC m162) 34 = some (34, .bipush 124, 2, 0, 0, 0, 0, []) := rfl
theorem c162_36 : cdx (mC m162) 36 = some (36, .if_icmp .ne 36, 3, 72, 0, 0, 0, []) := rfl
theorem c162_39 : cdx (mC m162) 39 = some (39, .iload_n 1, 1, 1, 0, 0, 0, []) := rfl
theorem c162_40 : cdx (mC m162) 40 = some (40, .bipush 38, 2, 0, 0, 0, 0, []) := rfl
theorem c162_42 : cdx (mC m162) 42 = some (42, .if_icmp .eq 30, 3, 72, 0, 0, 0, []) := rfl
theorem c162_45 : cdx (mC m162) 45 = some (45, .aload_n 0, 1, 0, 0, 0, 0, []) := rfl
theorem c162_46 : cdx (mC m162) 46 = some (46, .dup, 1, 0, 0, 0, 0, []) := rfl
theorem c162_47 : cdx (mC m162) 47 = some (47, .getfield 77, 3, 10, 22, 0, 4148, []) := rfl
theorem c162_50 : cdx (mC m162) 50 = some (50, .iconst 1, 1, 0, 0, 0, 0, []) := rfl
theorem c162_51 : cdx (mC m162) 51 = some (51, .isub, 1, 0, 0, 0, 0, []) := rfl
theorem c162_52 : cdx (mC m162) 52 = some (52, .putfield 77, 3, 10, 22, 0, 4148, []) := rfl
theorem c162_55 : cdx (mC m162) 55 = some (55, .aload_n 0, 1, 0, 0, 0, 0, []) := rfl
theorem c162_56 : cdx (mC m162) 56 = some (56, .aload_n 0, 1, 0, 0, 0, 0, []) := rfl
theorem c162_57 : cdx (mC m162) 57 = some (57, .getfield 71, 3, 10, 20, 0, 4146, []) := rfl
theorem c162_60 : cdx (mC m162) 60 = some (60, .aload_n 0, 1, 0, 0, 0, 0, []) := rfl
theorem c162_61 : cdx (mC m162) 61 = some (61, .getfield 77, 3, 10, 22, 0, 4148, []) := rfl
theorem c162_64 : cdx (mC m162) 64 = some (64, .iaload, 1, 0, 0, 0, 0, []) := rfl
theorem c162_65 : cdx (mC m162) 65 = some (65, .ineg, 1, 0, 0, 0, 0, []) := rfl
theorem c162_66 : cdx (mC m162) 66 = some (66, .invokevirtual 235, 3, 160, 1, 0, 5159, [(10, 0)]) := rfl
theorem c162_69 : cdx (mC m162) 69 = some (69, .goto (-69), 3, 0, 0, 0, 0, []) := rfl
theorem c162_72 : cdx (mC m162) 72 = some (72, .return_, 1, 0, 0, 0, 0, []) := rfl
theorem b162_0 {X : Nat × (Nat → Int32)} {d : Nat} {I : Nat → Nat → Int32} {L : Nat → Nat → Int64} {Q : Option Value → XW → Prop} {x1 : Int32}  : wp X d m162 0 [some (.ref 124), some (.int x1)] [] (K0, R0, I, L) Q ↔ (if 0 < (I 124 22) then (inA ((I 124 22) - 1) 101 = true ∧ (if (I 138 (Int32.toNatClampNeg ((I 124 22) - 1))) = 38 then wp X d m162 45 [some (.ref 124), some (.int x1)] [] (K0, R0, I, L) Q else (inA ((I 124 22) - 1) 101 = true ∧ (if (I 138 (Int32.toNatClampNeg ((I 124 22) - 1))) = 124 then (if x1 = 38 then Q none (K0, R0, I, L) else wp X d m162 45 [some (.ref 124), some (.int x1)] [] (K0, R0, I, L) Q) else Q none (K0, R0, I, L))))) else Q none (K0, R0, I, L)) := (w_aload_n (pc' := 1) c162_0 rfl rfl).trans ((w_getIv (pc' := 4) (v := (I 124 22)) c162_1 kd_124 (by decide) rfl (rfl) rfl).trans ((w_if_le (pc' := 7) c162_4 rfl).trans (ite_iff ((w_aload_n (pc' := 8) c162_7 rfl rfl).trans ((w_getR (pc' := 11) (q := 138) c162_8 kd_124 (by decide) rfl rd_124_20 rfl).trans ((w_aload_n (pc' := 12) c162_11 rfl rfl).trans ((w_getIv (pc' := 15) (v := (I 124 22)) c162_12 kd_124 (by decide) rfl (rfl) rfl).trans ((w_iconst (pc' := 16) (v := 1) c162_15 rfl rfl).trans ((w_isub (pc' := 17) c162_16 rfl).trans ((w_ialdv (pc' := 18) (v := (I 138 (Int32.toNatClampNeg ((I 124 22) - 1)))) c162_17 kd_138 (rfl) rfl).trans (and_congr_right (fun _ => (w_bipush (pc' := 20) (v := 38) c162_18 rfl rfl).trans ((w_icmp_eq (pc' := 23) c162_20 rfl).trans (ite_iff (Iff.rfl) ((w_aload_n (pc' := 24) c162_23 rfl rfl).trans ((w_getR (pc' := 27) (q := 138) c162_24 kd_124 (by decide) rfl rd_124_20 rfl).trans ((w_aload_n (pc' := 28) c162_27 rfl rfl).trans ((w_getIv (pc' := 31) (v := (I 124 22)) c162_28 kd_124 (by decide) rfl (rfl) rfl).trans ((w_iconst (pc' := 32) (v := 1) c162_31 rfl rfl).trans ((w_isub (pc' := 33) c162_32 rfl).trans ((w_ialdv (pc' := 34) (v := (I 138 (Int32.toNatClampNeg ((I 124 22) - 1)))) c162_33 kd_138 (rfl) rfl).trans (and_congr_right (fun _ => (w_bipush (pc' := 36) (v := 124) c162_34 rfl rfl).trans ((w_icmp_ne (pc' := 39) c162_36 rfl).trans (ite_iff ((w_iload_n (pc' := 40) c162_39 rfl rfl).trans ((w_bipush (pc' := 42) (v := 38) c162_40 rfl rfl).trans ((w_icmp_eq (pc' := 45) c162_42 rfl).trans (ite_iff (w_vret c162_72 rfl) (Iff.rfl))))) (w_vret c162_72 rfl))))))))))))))))))))))) (w_vret c162_72 rfl))))
theorem b162_45 {X : Nat × (Nat → Int32)} {d : Nat} {I : Nat → Nat → Int32} {L : Nat → Nat → Int64} {Q : Option Value → XW → Prop} {x1 : Int32}  : wp X (d + 1) m162 45 [some (.ref 124), some (.int x1)] [] (K0, R0, I, L) Q ↔ (inA ((I 124 22) - 1) 101 = true ∧ wp X d m160 0 [some (.ref 124), some (.int (-(I 138 (Int32.toNatClampNeg ((I 124 22) - 1)))))] [] (K0, R0, (updR I 124 22 ((I 124 22) - 1)), L) (fun r w1 => wp X (d + 1) m162 69 [some (.ref 124), some (.int x1)] (r.toList ++ []) w1 Q)) := (w_aload_n (pc' := 46) c162_45 rfl rfl).trans ((w_dup (pc' := 47) c162_46 rfl rfl).trans ((w_getIv (pc' := 50) (v := (I 124 22)) c162_47 kd_124 (by decide) rfl (rfl) rfl).trans ((w_iconst (pc' := 51) (v := 1) c162_50 rfl rfl).trans ((w_isub (pc' := 52) c162_51 rfl).trans ((w_putI (pc' := 55) c162_52 kd_124 (by decide) rfl rfl rfl).trans ((w_aload_n (pc' := 56) c162_55 rfl rfl).trans ((w_aload_n (pc' := 57) c162_56 rfl rfl).trans ((w_getR (pc' := 60) (q := 138) c162_57 kd_124 (by decide) rfl rd_124_20 rfl).trans ((w_aload_n (pc' := 61) c162_60 rfl rfl).trans ((w_getIv (pc' := 64) (v := ((I 124 22) - 1)) c162_61 kd_124 (by decide) rfl (updR_same) rfl).trans ((w_ialdv (pc' := 65) (v := (I 138 (Int32.toNatClampNeg ((I 124 22) - 1)))) c162_64 kd_138 ((updR_k (by decide)).trans (rfl)) rfl).trans (and_congr_right (fun _ => (w_ineg (pc' := 66) c162_65 rfl).trans ((w_callv (pc' := 69) c162_66 mt160 rfl (Nat.le_of_ble_eq_true rfl) rfl kd_124 rfl rfl (Nat.le_of_ble_eq_true rfl) rfl rfl)))))))))))))))
theorem b162_69 {X : Nat × (Nat → Int32)} {d : Nat} {I : Nat → Nat → Int32} {L : Nat → Nat → Int64} {Q : Option Value → XW → Prop} {x1 : Int32}  : wp X d m162 69 [some (.ref 124), some (.int x1)] [] (K0, R0, I, L) Q ↔ wp X d m162 0 [some (.ref 124), some (.int x1)] [] (K0, R0, I, L) Q := (w_goto c162_69)
-- LeavesObjectModel.of(II)I
theorem c163_0 : cdx (mC m163) 0 = some (0, .aload_n 0, 1, 0, 0, 0, 0, []) := rfl
theorem c163_1 : cdx (mC m163) 1 = some (1, .iload_n 1, 1, 1, 0, 0, 0, []) := rfl
theorem c163_2 : cdx (mC m163) 2 = some (2, .invokevirtual 221, 3, 145, 1, 0, 5099, [(10, 0)]) := rfl
theorem c163_5 : cdx (mC m163) 5 = some (5, .ifCond .ne 5, 3, 10, 0, 0, 0, []) := rfl
theorem c163_8 : cdx (mC m163) 8 = some (8, .iconst (-1), 1, 0, 0, 0, 0, []) := rfl
theorem c163_9 : cdx (mC m163) 9 = some (9, .ireturn, 1, 0, 0, 0, 0, []) := rfl
theorem c163_10 : cdx (mC m163) 10 = some (10, .aload_n 0, 1, 0, 0, 0, 0, []) := rfl
theorem c163_11 : cdx (mC m163) 11 = some (11, .iload_n 2, 1, 2, 0, 0, 0, []) := rfl
theorem c163_12 : cdx (mC m163) 12 = some (12, .bipush 10, 2, 0, 0, 0, 0, []) := rfl
theorem c163_14 : cdx (mC m163) 14 = some (14, .bipush 13, 2, 0, 0, 0, 0, []) := rfl
theorem c163_16 : cdx (mC m163) 16 = some (16, .invokevirtual 213, 3, 142, 3, 0, 5087, [(10, 0)]) := rfl
theorem c163_19 : cdx (mC m163) 19 = some (19, .ifCond .eq 13, 3, 32, 0, 0, 0, []) := rfl
theorem c163_22 : cdx (mC m163) 22 = some (22, .aload_n 0, 1, 0, 0, 0, 0, []) := rfl
theorem c163_23 : cdx (mC m163) 23 = some (23, .iload_n 1, 1, 1, 0, 0, 0, []) := rfl
theorem c163_24 : cdx (mC m163) 24 = some (24, .iload_n 2, 1, 2, 0, 0, 0, []) := rfl
theorem c163_25 : cdx (mC m163) 25 = some (25, .bipush 10, 2, 0, 0, 0, 0, []) := rfl
theorem c163_27 : cdx (mC m163) 27 = some (27, .isub, 1, 0, 0, 0, 0, []) := rfl
theorem c163_28 : cdx (mC m163) 28 = some (28, .invokevirtual 307, 3, 164, 2, 0, 5175, [(10, 0)]) := rfl
theorem c163_31 : cdx (mC m163) 31 = some (31, .ireturn, 1, 0, 0, 0, 0, []) := rfl
theorem c163_32 : cdx (mC m163) 32 = some (32, .aload_n 0, 1, 0, 0, 0, 0, []) := rfl
theorem c163_33 : cdx (mC m163) 33 = some (33, .iload_n 2, 1, 2, 0, 0, 0, []) := rfl
theorem c163_34 : cdx (mC m163) 34 = some (34, .bipush 20, 2, 0, 0, 0, 0, []) := rfl
theorem c163_36 : cdx (mC m163) 36 = some (36, .bipush 23, 2, 0, 0, 0, 0, []) := rfl
theorem c163_38 : cdx (mC m163) 38 = some (38, .invokevirtual 213, 3, 142, 3, 0, 5087, [(10, 0)]) := rfl
theorem c163_41 : cdx (mC m163) 41 = some (41, .ifCond .eq 13, 3, 54, 0, 0, 0, []) := rfl
theorem c163_44 : cdx (mC m163) 44 = some (44, .aload_n 0, 1, 0, 0, 0, 0, []) := rfl
theorem c163_45 : cdx (mC m163) 45 = some (45, .iload_n 1, 1, 1, 0, 0, 0, []) := rfl
theorem c163_46 : cdx (mC m163) 46 = some (46, .iload_n 2, 1, 2, 0, 0, 0, []) := rfl
theorem c163_47 : cdx (mC m163) 47 = some (47, .bipush 20, 2, 0, 0, 0, 0, []) := rfl
theorem c163_49 : cdx (mC m163) 49 = some (49, .isub, 1, 0, 0, 0, 0, []) := rfl
theorem c163_50 : cdx (mC m163) 50 = some (50, .invokevirtual 310, 3, 171, 2, 0, 5203, [(10, 0)]) := rfl
theorem c163_53 : cdx (mC m163) 53 = some (53, .ireturn, 1, 0, 0, 0, 0, []) := rfl
theorem c163_54 : cdx (mC m163) 54 = some (54, .iload_n 2, 1, 2, 0, 0, 0, []) := rfl
theorem c163_55 : cdx (mC m163) 55 = some (55, .tableswitch 68 0 4 #[33, 40, 47, 54, 61], 33, 123, 0, 0, 0, [(0, 88), (1, 95), (2, 102), (3, 109), (4, 116)]) := rfl
theorem c163_88 : cdx (mC m163) 88 = some (88, .aload_n 0, 1, 0, 0, 0, 0, []) := rfl
theorem c163_89 : cdx (mC m163) 89 = some (89, .getfield 16, 3, 10, 2, 0, 4128, []) := rfl
theorem c163_92 : cdx (mC m163) 92 = some (92, .iload_n 1, 1, 1, 0, 0, 0, []) := rfl
theorem c163_93 : cdx (mC m163) 93 = some (93, .iaload, 1, 0, 0, 0, 0, []) := rfl
theorem c163_94 : cdx (mC m163) 94 = some (94, .ireturn, 1, 0, 0, 0, 0, []) := rfl
theorem c163_95 : cdx (mC m163) 95 = some (95, .aload_n 0, 1, 0, 0, 0, 0, []) := rfl
theorem c163_96 : cdx (mC m163) 96 = some (96, .getfield 20, 3, 10, 3, 0, 4129, []) := rfl
theorem c163_99 : cdx (mC m163) 99 = some (99, .iload_n 1, 1, 1, 0, 0, 0, []) := rfl
theorem c163_100 : cdx (mC m163) 100 = some (100, .iaload, 1, 0, 0, 0, 0, []) := rfl
theorem c163_101 : cdx (mC m163) 101 = some (101, .ireturn, 1, 0, 0, 0, 0, []) := rfl
theorem c163_102 : cdx (mC m163) 102 = some (102, .aload_n 0, 1, 0, 0, 0, 0, []) := rfl
theorem c163_103 : cdx (mC m163) 103 = some (103, .getfield 23, 3, 10, 4, 0, 4130, []) := rfl
theorem c163_106 : cdx (mC m163) 106 = some (106, .iload_n 1, 1, 1, 0, 0, 0, []) := rfl
theorem c163_107 : cdx (mC m163) 107 = some (107, .iaload, 1, 0, 0, 0, 0, []) := rfl
theorem c163_108 : cdx (mC m163) 108 = some (108, .ireturn, 1, 0, 0, 0, 0, []) := rfl
theorem c163_109 : cdx (mC m163) 109 = some (109, .aload_n 0, 1, 0, 0, 0, 0, []) := rfl
theorem c163_110 : cdx (mC m163) 110 = some (110, .getfield 26, 3, 10, 5, 0, 4131, []) := rfl
theorem c163_113 : cdx (mC m163) 113 = some (113, .iload_n 1, 1, 1, 0, 0, 0, []) := rfl
theorem c163_114 : cdx (mC m163) 114 = some (114, .iaload, 1, 0, 0, 0, 0, []) := rfl
theorem c163_115 : cdx (mC m163) 115 = some (115, .ireturn, 1, 0, 0, 0, 0, []) := rfl
theorem c163_116 : cdx (mC m163) 116 = some (116, .aload_n 0, 1, 0, 0, 0, 0, []) := rfl
theorem c163_117 : cdx (mC m163) 117 = some (117, .getfield 29, 3, 10, 6, 0, 4132, []) := rfl
theorem c163_120 : cdx (mC m163) 120 = some (120, .iload_n 1, 1, 1, 0, 0, 0, []) := rfl
theorem c163_121 : cdx (mC m163) 121 = some (121, .iaload, 1, 0, 0, 0, 0, []) := rfl
theorem c163_122 : cdx (mC m163) 122 = some (122, .ireturn, 1, 0, 0, 0, 0, []) := rfl
theorem c163_123 : cdx (mC m163) 123 = some (123, .iconst (-1), 1, 0, 0, 0, 0, []) := rfl
theorem c163_124 : cdx (mC m163) 124 = some (124, .ireturn, 1, 0, 0, 0, 0, []) := rfl
def lv163 : List (Nat × List Nat) := [(0, [0, 1, 2]), (1, [0, 1, 2]), (2, [0, 1, 2]), (5, [0, 1, 2]), (10, [0, 1, 2]), (11, [0, 1, 2]), (12, [0, 1, 2]), (14, [0, 1, 2]), (16, [0, 1, 2]), (19, [0, 1, 2]), (22, [0, 1, 2]), (23, [1, 2]), (24, [2]), (32, [0, 1, 2]), (33, [0, 1, 2]), (34, [0, 1, 2]), (36, [0, 1, 2]), (38, [0, 1, 2]), (41, [0, 1, 2]), (44, [0, 1, 2]), (45, [1, 2]), (46, [2]), (54, [0, 1, 2]), (55, [0, 1]), (88, [0, 1]), (89, [1]), (92, [1]), (95, [0, 1]), (96, [1]), (99, [1]), (102, [0, 1]), (103, [1]), (106, [1]), (109, [0, 1]), (110, [1]), (113, [1]), (116, [0, 1]), (117, [1]), (120, [1])]
theorem lvok163 : lvOk (mC m163) lv163 = true := by decide +kernel
theorem b163_0 {X : Nat × (Nat → Int32)} {d : Nat} {I : Nat → Nat → Int32} {L : Nat → Nat → Int64} {Q : Option Value → XW → Prop} {x1 : Int32} {x2 : Int32}  : wp X (d + 1) m163 0 [some (.ref 124), some (.int x1), some (.int x2)] [] (K0, R0, I, L) Q ↔ wp X d m145 0 [some (.ref 124), some (.int x1)] [] (K0, R0, I, L) (fun r w1 => wp X (d + 1) m163 5 [some (.ref 124), some (.int x1), some (.int x2)] (r.toList ++ []) w1 Q) := (w_aload_n (pc' := 1) c163_0 rfl rfl).trans ((w_iload_n (pc' := 2) c163_1 rfl rfl).trans ((w_callv (pc' := 5) c163_2 mt145 rfl (Nat.le_of_ble_eq_true rfl) rfl kd_124 rfl rfl (Nat.le_of_ble_eq_true rfl) rfl rfl)))
theorem b163_5 {X : Nat × (Nat → Int32)} {d : Nat} {I : Nat → Nat → Int32} {L : Nat → Nat → Int64} {Q : Option Value → XW → Prop} {x1 : Int32} {x2 : Int32} {s0 : Int32}  : wp X (d + 1) m163 5 [some (.ref 124), some (.int x1), some (.int x2)] [(.int s0)] (K0, R0, I, L) Q ↔ (if s0 = 0 then Q (some (.int (-1))) (K0, R0, I, L) else wp X d m142 0 [some (.ref 124), some (.int x2), some (.int 10), some (.int 13)] [] (K0, R0, I, L) (fun r w1 => wp X (d + 1) m163 19 [some (.ref 124), some (.int x1), some (.int x2)] (r.toList ++ []) w1 Q)) := (w_if_ne (pc' := 8) c163_5 rfl).trans (ite_iff ((w_iconst (pc' := 9) (v := (-1)) c163_8 rfl rfl).trans (w_iret c163_9 rfl)) ((w_aload_n (pc' := 11) c163_10 rfl rfl).trans ((w_iload_n (pc' := 12) c163_11 rfl rfl).trans ((w_bipush (pc' := 14) (v := 10) c163_12 rfl rfl).trans ((w_bipush (pc' := 16) (v := 13) c163_14 rfl rfl).trans ((w_callv (pc' := 19) c163_16 mt142 rfl (Nat.le_of_ble_eq_true rfl) rfl kd_124 rfl rfl (Nat.le_of_ble_eq_true rfl) rfl rfl)))))))
theorem b163_19 {X : Nat × (Nat → Int32)} {d : Nat} {I : Nat → Nat → Int32} {L : Nat → Nat → Int64} {Q : Option Value → XW → Prop} {x1 : Int32} {x2 : Int32} {s0 : Int32}  : wp X (d + 1) m163 19 [some (.ref 124), some (.int x1), some (.int x2)] [(.int s0)] (K0, R0, I, L) Q ↔ (if s0 = 0 then wp X d m142 0 [some (.ref 124), some (.int x2), some (.int 20), some (.int 23)] [] (K0, R0, I, L) (fun r w1 => wp X (d + 1) m163 41 [some (.ref 124), some (.int x1), some (.int x2)] (r.toList ++ []) w1 Q) else wp X d m164 0 [some (.ref 124), some (.int x1), some (.int (x2 - 10)), none, none] [] (K0, R0, I, L) (fun r w1 => wp X (d + 1) m163 31 [none, none, none] (r.toList ++ []) w1 Q)) := (w_if_eq (pc' := 22) c163_19 rfl).trans (ite_iff ((w_aload_n (pc' := 33) c163_32 rfl rfl).trans ((w_iload_n (pc' := 34) c163_33 rfl rfl).trans ((w_bipush (pc' := 36) (v := 20) c163_34 rfl rfl).trans ((w_bipush (pc' := 38) (v := 23) c163_36 rfl rfl).trans ((w_callv (pc' := 41) c163_38 mt142 rfl (Nat.le_of_ble_eq_true rfl) rfl kd_124 rfl rfl (Nat.le_of_ble_eq_true rfl) rfl rfl)))))) ((w_aload_n (pc' := 23) c163_22 rfl rfl).trans ((w_iload_n (pc' := 24) c163_23 rfl rfl).trans ((w_iload_n (pc' := 25) c163_24 rfl rfl).trans ((w_bipush (pc' := 27) (v := 10) c163_25 rfl rfl).trans ((w_isub (pc' := 28) c163_27 rfl).trans ((w_callv (pc' := 31) c163_28 mt164 rfl (Nat.le_of_ble_eq_true rfl) rfl kd_124 rfl rfl (Nat.le_of_ble_eq_true rfl) rfl rfl).trans (wp_congr (fun r w1 => wp_msk lvok163 rfl)))))))))
theorem b163_41 {X : Nat × (Nat → Int32)} {d : Nat} {I : Nat → Nat → Int32} {L : Nat → Nat → Int64} {Q : Option Value → XW → Prop} {x1 : Int32} {x2 : Int32} {s0 : Int32}  : wp X (d + 1) m163 41 [some (.ref 124), some (.int x1), some (.int x2)] [(.int s0)] (K0, R0, I, L) Q ↔ (if s0 = 0 then (if x2 = 0 then (inA x1 5 = true ∧ Q (some (.int (I 125 (Int32.toNatClampNeg x1)))) (K0, R0, I, L)) else (if x2 = 1 then (inA x1 5 = true ∧ Q (some (.int (I 126 (Int32.toNatClampNeg x1)))) (K0, R0, I, L)) else (if x2 = 2 then (inA x1 5 = true ∧ Q (some (.int (I 127 (Int32.toNatClampNeg x1)))) (K0, R0, I, L)) else (if x2 = 3 then (inA x1 5 = true ∧ Q (some (.int (I 128 (Int32.toNatClampNeg x1)))) (K0, R0, I, L)) else (if x2 = 4 then (inA x1 5 = true ∧ Q (some (.int (I 129 (Int32.toNatClampNeg x1)))) (K0, R0, I, L)) else Q (some (.int (-1))) (K0, R0, I, L)))))) else wp X d m171 0 [some (.ref 124), some (.int x1), some (.int (x2 - 20)), none] [] (K0, R0, I, L) (fun r w1 => wp X (d + 1) m163 53 [none, none, none] (r.toList ++ []) w1 Q)) := (w_if_eq (pc' := 44) c163_41 rfl).trans (ite_iff ((w_iload_n (pc' := 55) c163_54 rfl rfl).trans ((w_tswitch c163_55).trans ((w_swcons (v := 0) rfl).trans (ite_iff ((w_aload_n (pc' := 89) c163_88 rfl rfl).trans ((w_getR (pc' := 92) (q := 125) c163_89 kd_124 (by decide) rfl rd_124_2 rfl).trans ((w_iload_n (pc' := 93) c163_92 rfl rfl).trans ((w_ialdv (pc' := 94) (v := (I 125 (Int32.toNatClampNeg x1))) c163_93 kd_125 (rfl) rfl).trans (and_congr_right (fun _ => w_iret c163_94 rfl)))))) ((w_swcons (v := 1) rfl).trans (ite_iff ((w_aload_n (pc' := 96) c163_95 rfl rfl).trans ((w_getR (pc' := 99) (q := 126) c163_96 kd_124 (by decide) rfl rd_124_3 rfl).trans ((w_iload_n (pc' := 100) c163_99 rfl rfl).trans ((w_ialdv (pc' := 101) (v := (I 126 (Int32.toNatClampNeg x1))) c163_100 kd_126 (rfl) rfl).trans (and_congr_right (fun _ => w_iret c163_101 rfl)))))) ((w_swcons (v := 2) rfl).trans (ite_iff ((w_aload_n (pc' := 103) c163_102 rfl rfl).trans ((w_getR (pc' := 106) (q := 127) c163_103 kd_124 (by decide) rfl rd_124_4 rfl).trans ((w_iload_n (pc' := 107) c163_106 rfl rfl).trans ((w_ialdv (pc' := 108) (v := (I 127 (Int32.toNatClampNeg x1))) c163_107 kd_127 (rfl) rfl).trans (and_congr_right (fun _ => w_iret c163_108 rfl)))))) ((w_swcons (v := 3) rfl).trans (ite_iff ((w_aload_n (pc' := 110) c163_109 rfl rfl).trans ((w_getR (pc' := 113) (q := 128) c163_110 kd_124 (by decide) rfl rd_124_5 rfl).trans ((w_iload_n (pc' := 114) c163_113 rfl rfl).trans ((w_ialdv (pc' := 115) (v := (I 128 (Int32.toNatClampNeg x1))) c163_114 kd_128 (rfl) rfl).trans (and_congr_right (fun _ => w_iret c163_115 rfl)))))) ((w_swcons (v := 4) rfl).trans (ite_iff ((w_aload_n (pc' := 117) c163_116 rfl rfl).trans ((w_getR (pc' := 120) (q := 129) c163_117 kd_124 (by decide) rfl rd_124_6 rfl).trans ((w_iload_n (pc' := 121) c163_120 rfl rfl).trans ((w_ialdv (pc' := 122) (v := (I 129 (Int32.toNatClampNeg x1))) c163_121 kd_129 (rfl) rfl).trans (and_congr_right (fun _ => w_iret c163_122 rfl)))))) ((w_swnil).trans ((w_iconst (pc' := 124) (v := (-1)) c163_123 rfl rfl).trans (w_iret c163_124 rfl))))))))))))))) ((w_aload_n (pc' := 45) c163_44 rfl rfl).trans ((w_iload_n (pc' := 46) c163_45 rfl rfl).trans ((w_iload_n (pc' := 47) c163_46 rfl rfl).trans ((w_bipush (pc' := 49) (v := 20) c163_47 rfl rfl).trans ((w_isub (pc' := 50) c163_49 rfl).trans ((w_callv (pc' := 53) c163_50 mt171 rfl (Nat.le_of_ble_eq_true rfl) rfl kd_124 rfl rfl (Nat.le_of_ble_eq_true rfl) rfl rfl).trans (wp_congr (fun r w1 => wp_msk lvok163 rfl)))))))))
theorem b163_31 {X : Nat × (Nat → Int32)} {d : Nat} {I : Nat → Nat → Int32} {L : Nat → Nat → Int64} {Q : Option Value → XW → Prop} {s0 : Int32}  : wp X d m163 31 [none, none, none] [(.int s0)] (K0, R0, I, L) Q ↔ Q (some (.int s0)) (K0, R0, I, L) := w_iret c163_31 rfl
theorem b163_53 {X : Nat × (Nat → Int32)} {d : Nat} {I : Nat → Nat → Int32} {L : Nat → Nat → Int64} {Q : Option Value → XW → Prop} {s0 : Int32}  : wp X d m163 53 [none, none, none] [(.int s0)] (K0, R0, I, L) Q ↔ Q (some (.int s0)) (K0, R0, I, L) := w_iret c163_53 rfl
-- LeavesObjectModel.will(II)I
theorem c164_0 : cdx (mC m164) 0 = some (0, .iconst 5, 1, 0, 0, 0, 0, []) := rfl
theorem c164_1 : cdx (mC m164) 1 = some (1, .istore_n 3, 1, 3, 0, 0, 0, []) := rfl
theorem c164_2 : cdx (mC m164) 2 = some (2, .aload_n 0, 1, 0, 0, 0, 0, []) := rfl
theorem c164_3 : cdx (mC m164) 3 = some (3, .invokevirtual 270, 3, 165, 0, 0, 5179, [(10, 0)]) := rfl
theorem c164_6 : cdx (mC m164) 6 = some (6, .istore 4, 2, 4, 0, 0, 0, []) := rfl
theorem c164_8 : cdx (mC m164) 8 = some (8, .iload 4, 2, 4, 0, 0, 0, []) := rfl
theorem c164_10 : cdx (mC m164) 10 = some (10, .aload_n 0, 1, 0, 0, 0, 0, []) := rfl
theorem c164_11 : cdx (mC m164) 11 = some (11, .invokevirtual 273, 3, 166, 0, 0, 5183, [(10, 0)]) := rfl
theorem c164_14 : cdx (mC m164) 14 = some (14, .if_icmp .ge 65, 3, 79, 0, 0, 0, []) := rfl
theorem c164_17 : cdx (mC m164) 17 = some (17, .aload_n 0, 1, 0, 0, 0, 0, []) := rfl
theorem c164_18 : cdx (mC m164) 18 = some (18, .getfield 56, 3, 10, 15, 0, 4141, []) := rfl
theorem c164_21 : cdx (mC m164) 21 = some (21, .iload 4, 2, 4, 0, 0, 0, []) := rfl
theorem c164_23 : cdx (mC m164) 23 = some (23, .iaload, 1, 0, 0, 0, 0, []) := rfl
theorem c164_24 : cdx (mC m164) 24 = some (24, .iconst 1, 1, 0, 0, 0, 0, []) := rfl
theorem c164_25 : cdx (mC m164) 25 = some (25, .if_icmp .gt 48, 3, 73, 0, 0, 0, []) := rfl
theorem c164_28 : cdx (mC m164) 28 = some (28, .aload_n 0, 1, 0, 0, 0, 0, []) := rfl
theorem c164_29 : cdx (mC m164) 29 = some (29, .iload 4, 2, 4, 0, 0, 0, []) := rfl
theorem c164_31 : cdx (mC m164) 31 = some (31, .iload_n 1, 1, 1, 0, 0, 0, []) := rfl
theorem c164_32 : cdx (mC m164) 32 = some (32, .iload_n 2, 1, 2, 0, 0, 0, []) := rfl
theorem c164_33 : cdx (mC m164) 33 = some (33, .invokevirtual 283, 3, 167, 3, 0, 5187, [(10, 0)]) := rfl
theorem c164_36 : cdx (mC m164) 36 = some (36, .ifCond .ne 6, 3, 42, 0, 0, 0, []) := rfl
theorem c164_39 : cdx (mC m164) 39 = some (39, .goto 34, 3, 73, 0, 0, 0, []) := rfl
theorem c164_42 : cdx (mC m164) 42 = some (42, .iload_n 3, 1, 3, 0, 0, 0, []) := rfl
theorem c164_43 : cdx (mC m164) 43 = some (43, .aload_n 0, 1, 0, 0, 0, 0, []) := rfl
theorem c164_44 : cdx (mC m164) 44 = some (44, .getfield 56, 3, 10, 15, 0, 4141, []) := rfl
theorem c164_47 : cdx (mC m164) 47 = some (47, .iload 4, 2, 4, 0, 0, 0, []) := rfl
theorem c164_49 : cdx (mC m164) 49 = some (49, .iaload, 1, 0, 0, 0, 0, []) := rfl
theorem c164_50 : cdx (mC m164) 50 = some (50, .ifCond .ne 13, 3, 63, 0, 0, 0, []) := rfl
theorem c164_53 : cdx (mC m164) 53 = some (53, .aload_n 0, 1, 0, 0, 0, 0, []) := rfl
theorem c164_54 : cdx (mC m164) 54 = some (54, .getfield 59, 3, 10, 16, 0, 4142, []) := rfl
theorem c164_57 : cdx (mC m164) 57 = some (57, .iload 4, 2, 4, 0, 0, 0, []) := rfl
theorem c164_59 : cdx (mC m164) 59 = some (59, .iaload, 1, 0, 0, 0, 0, []) := rfl
theorem c164_60 : cdx (mC m164) 60 = some (60, .goto 11, 3, 71, 0, 0, 0, []) := rfl
theorem c164_63 : cdx (mC m164) 63 = some (63, .aload_n 0, 1, 0, 0, 0, 0, []) := rfl
theorem c164_64 : cdx (mC m164) 64 = some (64, .getfield 59, 3, 10, 16, 0, 4142, []) := rfl
theorem c164_67 : cdx (mC m164) 67 = some (67, .iload 4, 2, 4, 0, 0, 0, []) := rfl
theorem c164_69 : cdx (mC m164) 69 = some (69, .iaload, 1, 0, 0, 0, 0, []) := rfl
theorem c164_70 : cdx (mC m164) 70 = some (70, .ineg, 1, 0, 0, 0, 0, []) := rfl
theorem c164_71 : cdx (mC m164) 71 = some (71, .iadd, 1, 0, 0, 0, 0, []) := rfl
theorem c164_72 : cdx (mC m164) 72 = some (72, .istore_n 3, 1, 3, 0, 0, 0, []) := rfl
theorem c164_73 : cdx (mC m164) 73 = some (73, .iinc 4 1, 3, 4, 0, 0, 0, []) := rfl
theorem c164_76 : cdx (mC m164) 76 = some (76, .goto (-68), 3, 8, 0, 0, 0, []) := rfl
theorem c164_79 : cdx (mC m164) 79 = some (79, .iload_n 3, 1, 3, 0, 0, 0, []) := rfl
theorem c164_80 : cdx (mC m164) 80 = some (80, .ifCond .ge 7, 3, 87, 0, 0, 0, []) := rfl
theorem c164_83 : cdx (mC m164) 83 = some (83, .iconst 0, 1, 0, 0, 0, 0, []) := rfl
theorem c164_84 : cdx (mC m164) 84 = some (84, .goto 4, 3, 88, 0, 0, 0, []) := rfl
theorem c164_87 : cdx (mC m164) 87 = some (87, .iload_n 3, 1, 3, 0, 0, 0, []) := rfl
theorem c164_88 : cdx (mC m164) 88 = some (88, .ireturn, 1, 0, 0, 0, 0, []) := rfl
theorem b164_0 {X : Nat × (Nat → Int32)} {d : Nat} {I : Nat → Nat → Int32} {L : Nat → Nat → Int64} {Q : Option Value → XW → Prop} {x1 : Int32} {x2 : Int32}  : wp X (d + 1) m164 0 [some (.ref 124), some (.int x1), some (.int x2), none, none] [] (K0, R0, I, L) Q ↔ wp X d m165 0 [some (.ref 124)] [] (K0, R0, I, L) (fun r w1 => wp X (d + 1) m164 6 [some (.ref 124), some (.int x1), some (.int x2), some (.int 5), none] (r.toList ++ []) w1 Q) := (w_iconst (pc' := 1) (v := 5) c164_0 rfl rfl).trans ((w_istore_n (pc' := 2) (ls' := [some (.ref 124), some (.int x1), some (.int x2), some (.int 5), none]) c164_1 (Nat.le_of_ble_eq_true rfl) rfl rfl).trans ((w_aload_n (pc' := 3) c164_2 rfl rfl).trans ((w_callv (pc' := 6) c164_3 mt165 rfl (Nat.le_of_ble_eq_true rfl) rfl kd_124 rfl rfl (Nat.le_of_ble_eq_true rfl) rfl rfl))))
theorem b164_6 {X : Nat × (Nat → Int32)} {d : Nat} {I : Nat → Nat → Int32} {L : Nat → Nat → Int64} {Q : Option Value → XW → Prop} {x1 : Int32} {x2 : Int32} {x3 : Int32} {s0 : Int32}  : wp X d m164 6 [some (.ref 124), some (.int x1), some (.int x2), some (.int x3), none] [(.int s0)] (K0, R0, I, L) Q ↔ wp X d m164 8 [some (.ref 124), some (.int x1), some (.int x2), some (.int x3), some (.int s0)] [] (K0, R0, I, L) Q := (w_istore (pc' := 8) (ls' := [some (.ref 124), some (.int x1), some (.int x2), some (.int x3), some (.int s0)]) c164_6 (Nat.le_of_ble_eq_true rfl) rfl rfl)
theorem b164_8 {X : Nat × (Nat → Int32)} {d : Nat} {I : Nat → Nat → Int32} {L : Nat → Nat → Int64} {Q : Option Value → XW → Prop} {x1 : Int32} {x2 : Int32} {x3 : Int32} {x4 : Int32}  : wp X (d + 1) m164 8 [some (.ref 124), some (.int x1), some (.int x2), some (.int x3), some (.int x4)] [] (K0, R0, I, L) Q ↔ wp X d m166 0 [some (.ref 124)] [] (K0, R0, I, L) (fun r w1 => wp X (d + 1) m164 14 [some (.ref 124), some (.int x1), some (.int x2), some (.int x3), some (.int x4)] (r.toList ++ [(.int x4)]) w1 Q) := (w_iload (pc' := 10) c164_8 rfl rfl).trans ((w_aload_n (pc' := 11) c164_10 rfl rfl).trans ((w_callv (pc' := 14) c164_11 mt166 rfl (Nat.le_of_ble_eq_true rfl) rfl kd_124 rfl rfl (Nat.le_of_ble_eq_true rfl) rfl rfl)))
theorem b164_14 {X : Nat × (Nat → Int32)} {d : Nat} {I : Nat → Nat → Int32} {L : Nat → Nat → Int64} {Q : Option Value → XW → Prop} {x1 : Int32} {x2 : Int32} {x3 : Int32} {x4 : Int32} {s0 : Int32} {s1 : Int32}  : wp X (d + 1) m164 14 [some (.ref 124), some (.int x1), some (.int x2), some (.int x3), some (.int x4)] [(.int s1), (.int s0)] (K0, R0, I, L) Q ↔ (if s0 < s1 then (inA x4 60 = true ∧ (if 1 < (I 133 (Int32.toNatClampNeg x4)) then wp X (d + 1) m164 8 [some (.ref 124), some (.int x1), some (.int x2), some (.int x3), some (.int (x4 + 1))] [] (K0, R0, I, L) Q else wp X d m167 0 [some (.ref 124), some (.int x4), some (.int x1), some (.int x2), none, none, none, none, none] [] (K0, R0, I, L) (fun r w1 => wp X (d + 1) m164 36 [some (.ref 124), some (.int x1), some (.int x2), some (.int x3), some (.int x4)] (r.toList ++ []) w1 Q))) else Q (some (.int (if x3 < 0 then 0 else x3))) (K0, R0, I, L)) := (w_icmp_ge (pc' := 17) c164_14 rfl).trans (ite_iff ((w_aload_n (pc' := 18) c164_17 rfl rfl).trans ((w_getR (pc' := 21) (q := 133) c164_18 kd_124 (by decide) rfl rd_124_15 rfl).trans ((w_iload (pc' := 23) c164_21 rfl rfl).trans ((w_ialdv (pc' := 24) (v := (I 133 (Int32.toNatClampNeg x4))) c164_23 kd_133 (rfl) rfl).trans (and_congr_right (fun _ => (w_iconst (pc' := 25) (v := 1) c164_24 rfl rfl).trans ((w_icmp_gt (pc' := 28) c164_25 rfl).trans (ite_iff ((w_iinc (pc' := 76) (v := (x4 + 1)) (ls' := [some (.ref 124), some (.int x1), some (.int x2), some (.int x3), some (.int (x4 + 1))]) c164_73 (Nat.le_of_ble_eq_true rfl) rfl rfl rfl rfl).trans ((w_goto c164_76))) ((w_aload_n (pc' := 29) c164_28 rfl rfl).trans ((w_iload (pc' := 31) c164_29 rfl rfl).trans ((w_iload_n (pc' := 32) c164_31 rfl rfl).trans ((w_iload_n (pc' := 33) c164_32 rfl rfl).trans ((w_callv (pc' := 36) c164_33 mt167 rfl (Nat.le_of_ble_eq_true rfl) rfl kd_124 rfl rfl (Nat.le_of_ble_eq_true rfl) rfl rfl)))))))))))))) ((w_iload_n (pc' := 80) c164_79 rfl rfl).trans ((w_if_ge (pc' := 83) c164_80 rfl).trans ((ite_iff ((w_iconst (pc' := 84) (v := 0) c164_83 rfl rfl).trans ((w_goto c164_84).trans (w_iret c164_88 rfl))) ((w_iload_n (pc' := 88) c164_87 rfl rfl).trans (w_iret c164_88 rfl))).trans (ite_val (fun z => Q (some (.int z)) (K0, R0, I, L)))))))
theorem b164_36 {X : Nat × (Nat → Int32)} {d : Nat} {I : Nat → Nat → Int32} {L : Nat → Nat → Int64} {Q : Option Value → XW → Prop} {x1 : Int32} {x2 : Int32} {x3 : Int32} {x4 : Int32} {s0 : Int32}  : wp X d m164 36 [some (.ref 124), some (.int x1), some (.int x2), some (.int x3), some (.int x4)] [(.int s0)] (K0, R0, I, L) Q ↔ (if s0 = 0 then wp X d m164 8 [some (.ref 124), some (.int x1), some (.int x2), some (.int x3), some (.int (x4 + 1))] [] (K0, R0, I, L) Q else (inA x4 60 = true ∧ (if (I 133 (Int32.toNatClampNeg x4)) = 0 then (inA x4 60 = true ∧ wp X d m164 8 [some (.ref 124), some (.int x1), some (.int x2), some (.int (x3 + (I 134 (Int32.toNatClampNeg x4)))), some (.int (x4 + 1))] [] (K0, R0, I, L) Q) else (inA x4 60 = true ∧ wp X d m164 8 [some (.ref 124), some (.int x1), some (.int x2), some (.int (x3 + (-(I 134 (Int32.toNatClampNeg x4))))), some (.int (x4 + 1))] [] (K0, R0, I, L) Q)))) := (w_if_ne (pc' := 39) c164_36 rfl).trans (ite_iff ((w_goto c164_39).trans ((w_iinc (pc' := 76) (v := (x4 + 1)) (ls' := [some (.ref 124), some (.int x1), some (.int x2), some (.int x3), some (.int (x4 + 1))]) c164_73 (Nat.le_of_ble_eq_true rfl) rfl rfl rfl rfl).trans ((w_goto c164_76)))) ((w_iload_n (pc' := 43) c164_42 rfl rfl).trans ((w_aload_n (pc' := 44) c164_43 rfl rfl).trans ((w_getR (pc' := 47) (q := 133) c164_44 kd_124 (by decide) rfl rd_124_15 rfl).trans ((w_iload (pc' := 49) c164_47 rfl rfl).trans ((w_ialdv (pc' := 50) (v := (I 133 (Int32.toNatClampNeg x4))) c164_49 kd_133 (rfl) rfl).trans (and_congr_right (fun _ => (w_if_ne (pc' := 53) c164_50 rfl).trans (ite_iff ((w_aload_n (pc' := 54) c164_53 rfl rfl).trans ((w_getR (pc' := 57) (q := 134) c164_54 kd_124 (by decide) rfl rd_124_16 rfl).trans ((w_iload (pc' := 59) c164_57 rfl rfl).trans ((w_ialdv (pc' := 60) (v := (I 134 (Int32.toNatClampNeg x4))) c164_59 kd_134 (rfl) rfl).trans (and_congr_right (fun _ => (w_goto c164_60).trans ((w_iadd (pc' := 72) c164_71 rfl).trans ((w_istore_n (pc' := 73) (ls' := [some (.ref 124), some (.int x1), some (.int x2), some (.int (x3 + (I 134 (Int32.toNatClampNeg x4)))), some (.int x4)]) c164_72 (Nat.le_of_ble_eq_true rfl) rfl rfl).trans ((w_iinc (pc' := 76) (v := (x4 + 1)) (ls' := [some (.ref 124), some (.int x1), some (.int x2), some (.int (x3 + (I 134 (Int32.toNatClampNeg x4)))), some (.int (x4 + 1))]) c164_73 (Nat.le_of_ble_eq_true rfl) rfl rfl rfl rfl).trans ((w_goto c164_76))))))))))) ((w_aload_n (pc' := 64) c164_63 rfl rfl).trans ((w_getR (pc' := 67) (q := 134) c164_64 kd_124 (by decide) rfl rd_124_16 rfl).trans ((w_iload (pc' := 69) c164_67 rfl rfl).trans ((w_ialdv (pc' := 70) (v := (I 134 (Int32.toNatClampNeg x4))) c164_69 kd_134 (rfl) rfl).trans (and_congr_right (fun _ => (w_ineg (pc' := 71) c164_70 rfl).trans ((w_iadd (pc' := 72) c164_71 rfl).trans ((w_istore_n (pc' := 73) (ls' := [some (.ref 124), some (.int x1), some (.int x2), some (.int (x3 + (-(I 134 (Int32.toNatClampNeg x4))))), some (.int x4)]) c164_72 (Nat.le_of_ble_eq_true rfl) rfl rfl).trans ((w_iinc (pc' := 76) (v := (x4 + 1)) (ls' := [some (.ref 124), some (.int x1), some (.int x2), some (.int (x3 + (-(I 134 (Int32.toNatClampNeg x4))))), some (.int (x4 + 1))]) c164_73 (Nat.le_of_ble_eq_true rfl) rfl rfl rfl rfl).trans ((w_goto c164_76))))))))))))))))))))
-- LeavesObjectModel.begin()I
theorem c165_0 : cdx (mC m165) 0 = some (0, .aload_n 0, 1, 0, 0, 0, 0, []) := rfl
theorem c165_1 : cdx (mC m165) 1 = some (1, .getfield 38, 3, 10, 9, 0, 4135, []) := rfl
theorem c165_4 : cdx (mC m165) 4 = some (4, .ifCond .ge 7, 3, 11, 0, 0, 0, []) := rfl
theorem c165_7 : cdx (mC m165) 7 = some (7, .iconst 0, 1, 0, 0, 0, 0, []) := rfl
theorem c165_8 : cdx (mC m165) 8 = some (8, .goto 10, 3, 18, 0, 0, 0, []) := rfl
theorem c165_11 : cdx (mC m165) 11 = some (11, .bipush 10, 2, 0, 0, 0, 0, []) := rfl
theorem c165_13 : cdx (mC m165) 13 = some (13, .aload_n 0, 1, 0, 0, 0, 0, []) := rfl
theorem c165_14 : cdx (mC m165) 14 = some (14, .getfield 38, 3, 10, 9, 0, 4135, []) := rfl
theorem c165_17 : cdx (mC m165) 17 = some (17, .imul, 1, 0, 0, 0, 0, []) := rfl
theorem c165_18 : cdx (mC m165) 18 = some (18, .ireturn, 1, 0, 0, 0, 0, []) := rfl
theorem b165_0 {X : Nat × (Nat → Int32)} {d : Nat} {I : Nat → Nat → Int32} {L : Nat → Nat → Int64} {Q : Option Value → XW → Prop}   : wp X d m165 0 [some (.ref 124)] [] (K0, R0, I, L) Q ↔ Q (some (.int (if (I 124 9) < 0 then 0 else (10 * (I 124 9))))) (K0, R0, I, L) := (w_aload_n (pc' := 1) c165_0 rfl rfl).trans ((w_getIv (pc' := 4) (v := (I 124 9)) c165_1 kd_124 (by decide) rfl (rfl) rfl).trans ((w_if_ge (pc' := 7) c165_4 rfl).trans ((ite_iff ((w_iconst (pc' := 8) (v := 0) c165_7 rfl rfl).trans ((w_goto c165_8).trans (w_iret c165_18 rfl))) ((w_bipush (pc' := 13) (v := 10) c165_11 rfl rfl).trans ((w_aload_n (pc' := 14) c165_13 rfl rfl).trans ((w_getIv (pc' := 17) (v := (I 124 9)) c165_14 kd_124 (by decide) rfl (rfl) rfl).trans ((w_imul (pc' := 18) c165_17 rfl).trans (w_iret c165_18 rfl)))))).trans (ite_val (fun z => Q (some (.int z)) (K0, R0, I, L))))))
-- LeavesObjectModel.behind()I
theorem c166_0 : cdx (mC m166) 0 = some (0, .aload_n 0, 1, 0, 0, 0, 0, []) := rfl
theorem c166_1 : cdx (mC m166) 1 = some (1, .getfield 38, 3, 10, 9, 0, 4135, []) := rfl
theorem c166_4 : cdx (mC m166) 4 = some (4, .ifCond .ge 7, 3, 11, 0, 0, 0, []) := rfl
theorem c166_7 : cdx (mC m166) 7 = some (7, .iconst 0, 1, 0, 0, 0, 0, []) := rfl
theorem c166_8 : cdx (mC m166) 8 = some (8, .goto 20, 3, 28, 0, 0, 0, []) := rfl
theorem c166_11 : cdx (mC m166) 11 = some (11, .bipush 10, 2, 0, 0, 0, 0, []) := rfl
theorem c166_13 : cdx (mC m166) 13 = some (13, .aload_n 0, 1, 0, 0, 0, 0, []) := rfl
theorem c166_14 : cdx (mC m166) 14 = some (14, .getfield 38, 3, 10, 9, 0, 4135, []) := rfl
theorem c166_17 : cdx (mC m166) 17 = some (17, .imul, 1, 0, 0, 0, 0, []) := rfl
theorem c166_18 : cdx (mC m166) 18 = some (18, .aload_n 0, 1, 0, 0, 0, 0, []) := rfl
theorem c166_19 : cdx (mC m166) 19 = some (19, .getfield 53, 3, 10, 14, 0, 4140, []) := rfl
theorem c166_22 : cdx (mC m166) 22 = some (22, .aload_n 0, 1, 0, 0, 0, 0, []) := rfl
theorem c166_23 : cdx (mC m166) 23 = some (23, .getfield 38, 3, 10, 9, 0, 4135, []) := rfl
theorem c166_26 : cdx (mC m166) 26 = some (26, .iaload, 1, 0, 0, 0, 0, []) := rfl
theorem c166_27 : cdx (mC m166) 27 = some (27, .iadd, 1, 0, 0, 0, 0, []) := rfl
theorem c166_28 : cdx (mC m166) 28 = some (28, .ireturn, 1, 0, 0, 0, 0, []) := rfl
theorem b166_0 {X : Nat × (Nat → Int32)} {d : Nat} {I : Nat → Nat → Int32} {L : Nat → Nat → Int64} {Q : Option Value → XW → Prop}   : wp X d m166 0 [some (.ref 124)] [] (K0, R0, I, L) Q ↔ (if (I 124 9) < 0 then Q (some (.int 0)) (K0, R0, I, L) else (inA (I 124 9) 6 = true ∧ Q (some (.int ((10 * (I 124 9)) + (I 132 (Int32.toNatClampNeg (I 124 9)))))) (K0, R0, I, L))) := (w_aload_n (pc' := 1) c166_0 rfl rfl).trans ((w_getIv (pc' := 4) (v := (I 124 9)) c166_1 kd_124 (by decide) rfl (rfl) rfl).trans ((w_if_ge (pc' := 7) c166_4 rfl).trans (ite_iff ((w_iconst (pc' := 8) (v := 0) c166_7 rfl rfl).trans ((w_goto c166_8).trans (w_iret c166_28 rfl))) ((w_bipush (pc' := 13) (v := 10) c166_11 rfl rfl).trans ((w_aload_n (pc' := 14) c166_13 rfl rfl).trans ((w_getIv (pc' := 17) (v := (I 124 9)) c166_14 kd_124 (by decide) rfl (rfl) rfl).trans ((w_imul (pc' := 18) c166_17 rfl).trans ((w_aload_n (pc' := 19) c166_18 rfl rfl).trans ((w_getR (pc' := 22) (q := 132) c166_19 kd_124 (by decide) rfl rd_124_14 rfl).trans ((w_aload_n (pc' := 23) c166_22 rfl rfl).trans ((w_getIv (pc' := 26) (v := (I 124 9)) c166_23 kd_124 (by decide) rfl (rfl) rfl).trans ((w_ialdv (pc' := 27) (v := (I 132 (Int32.toNatClampNeg (I 124 9)))) c166_26 kd_132 (rfl) rfl).trans (and_congr_right (fun _ => (w_iadd (pc' := 28) c166_27 rfl).trans (w_iret c166_28 rfl)))))))))))))))
-- LeavesObjectModel.holds(III)Z
theorem c167_0 : cdx (mC m167) 0 = some (0, .iconst 0, 1, 0, 0, 0, 0, []) := rfl
theorem c167_1 : cdx (mC m167) 1 = some (1, .istore 4, 2, 4, 0, 0, 0, []) := rfl
theorem c167_3 : cdx (mC m167) 3 = some (3, .aload_n 0, 1, 0, 0, 0, 0, []) := rfl
theorem c167_4 : cdx (mC m167) 4 = some (4, .getfield 62, 3, 10, 17, 0, 4143, []) := rfl
theorem c167_7 : cdx (mC m167) 7 = some (7, .iload_n 1, 1, 1, 0, 0, 0, []) := rfl
theorem c167_8 : cdx (mC m167) 8 = some (8, .iaload, 1, 0, 0, 0, 0, []) := rfl
theorem c167_9 : cdx (mC m167) 9 = some (9, .istore 5, 2, 5, 0, 0, 0, []) := rfl
theorem c167_11 : cdx (mC m167) 11 = some (11, .iload 5, 2, 5, 0, 0, 0, []) := rfl
theorem c167_13 : cdx (mC m167) 13 = some (13, .aload_n 0, 1, 0, 0, 0, 0, []) := rfl
theorem c167_14 : cdx (mC m167) 14 = some (14, .getfield 65, 3, 10, 18, 0, 4144, []) := rfl
theorem c167_17 : cdx (mC m167) 17 = some (17, .iload_n 1, 1, 1, 0, 0, 0, []) := rfl
theorem c167_18 : cdx (mC m167) 18 = some (18, .iaload, 1, 0, 0, 0, 0, []) := rfl
theorem c167_19 : cdx (mC m167) 19 = some (19, .if_icmp .ge 234, 3, 253, 0, 0, 0, []) := rfl
theorem c167_22 : cdx (mC m167) 22 = some (22, .aload_n 0, 1, 0, 0, 0, 0, []) := rfl
theorem c167_23 : cdx (mC m167) 23 = some (23, .getfield 68, 3, 10, 19, 0, 4145, []) := rfl
theorem c167_26 : cdx (mC m167) 26 = some (26, .iload 5, 2, 5, 0, 0, 0, []) := rfl
theorem c167_28 : cdx (mC m167) 28 = some (28, .iaload, 1, 0, 0, 0, 0, []) := rfl
theorem c167_29 : cdx (mC m167) 29 = some (29, .istore 6, 2, 6, 0, 0, 0, []) := rfl
theorem c167_31 : cdx (mC m167) 31 = some (31, .iload 6, 2, 6, 0, 0, 0, []) := rfl
theorem c167_33 : cdx (mC m167) 33 = some (33, .bipush (-33), 2, 0, 0, 0, 0, []) := rfl
theorem c167_35 : cdx (mC m167) 35 = some (35, .if_icmp .ne 32, 3, 67, 0, 0, 0, []) := rfl
theorem c167_38 : cdx (mC m167) 38 = some (38, .aload_n 0, 1, 0, 0, 0, 0, []) := rfl
theorem c167_39 : cdx (mC m167) 39 = some (39, .getfield 86, 3, 10, 25, 0, 4151, []) := rfl
theorem c167_42 : cdx (mC m167) 42 = some (42, .iload 4, 2, 4, 0, 0, 0, []) := rfl
theorem c167_44 : cdx (mC m167) 44 = some (44, .iconst 1, 1, 0, 0, 0, 0, []) := rfl
theorem c167_45 : cdx (mC m167) 45 = some (45, .isub, 1, 0, 0, 0, 0, []) := rfl
theorem c167_46 : cdx (mC m167) 46 = some (46, .aload_n 0, 1, 0, 0, 0, 0, []) := rfl
theorem c167_47 : cdx (mC m167) 47 = some (47, .getfield 86, 3, 10, 25, 0, 4151, []) := rfl
theorem c167_50 : cdx (mC m167) 50 = some (50, .iload 4, 2, 4, 0, 0, 0, []) := rfl
theorem c167_52 : cdx (mC m167) 52 = some (52, .iconst 1, 1, 0, 0, 0, 0, []) := rfl
theorem c167_53 : cdx (mC m167) 53 = some (53, .isub, 1, 0, 0, 0, 0, []) := rfl
theorem c167_54 : cdx (mC m167) 54 = some (54, .baload, 1, 0, 0, 0, 0, []) := rfl
theorem c167_55 : cdx (mC m167) 55 = some (55, .ifCond .ne 7, 3, 62, 0, 0, 0, []) := rfl
theorem c167_58 : cdx (mC m167) 58 = some (58, .iconst 1, 1, 0, 0, 0, 0, []) := rfl
theorem c167_59 : cdx (mC m167) 59 = some (59, .goto 4, 3, 63, 0, 0, 0, []) := rfl
theorem c167_62 : cdx (mC m167) 62 = some (62, .iconst 0, 1, 0, 0, 0, 0, []) := rfl
theorem c167_63 : cdx (mC m167) 63 = some (63, .bastore, 1, 0, 0, 0, 0, []) := rfl
theorem c167_64 : cdx (mC m167) 64 = some (64, .goto 183, 3, 247, 0, 0, 0, []) := rfl
theorem c167_67 : cdx (mC m167) 67 = some (67, .iload 6, 2, 6, 0, 0, 0, []) := rfl
theorem c167_69 : cdx (mC m167) 69 = some (69, .ifCond .ge 82, 3, 151, 0, 0, 0, []) := rfl
theorem c167_72 : cdx (mC m167) 72 = some (72, .iinc 4 (-1), 3, 4, 0, 0, 0, []) := rfl
theorem c167_75 : cdx (mC m167) 75 = some (75, .aload_n 0, 1, 0, 0, 0, 0, []) := rfl
theorem c167_76 : cdx (mC m167) 76 = some (76, .getfield 86, 3, 10, 25, 0, 4151, []) := rfl
theorem c167_79 : cdx (mC m167) 79 = some (79, .iload 4, 2, 4, 0, 0, 0, []) := rfl
theorem c167_81 : cdx (mC m167) 81 = some (81, .iconst 1, 1, 0, 0, 0, 0, []) := rfl
theorem c167_82 : cdx (mC m167) 82 = some (82, .isub, 1, 0, 0, 0, 0, []) := rfl
theorem c167_83 : cdx (mC m167) 83 = some (83, .iload 6, 2, 6, 0, 0, 0, []) := rfl
theorem c167_85 : cdx (mC m167) 85 = some (85, .bipush (-38), 2, 0, 0, 0, 0, []) := rfl
theorem c167_87 : cdx (mC m167) 87 = some (87, .if_icmp .ne 33, 3, 120, 0, 0, 0, []) := rfl
theorem c167_90 : cdx (mC m167) 90 = some (90, .aload_n 0, 1, 0, 0, 0, 0, []) := rfl
theorem c167_91 : cdx (mC m167) 91 = some (91, .getfield 86, 3, 10, 25, 0, 4151, []) := rfl
theorem c167_94 : cdx (mC m167) 94 = some (94, .iload 4, 2, 4, 0, 0, 0, []) := rfl
theorem c167_96 : cdx (mC m167) 96 = some (96, .iconst 1, 1, 0, 0, 0, 0, []) := rfl
theorem c167_97 : cdx (mC m167) 97 = some (97, .isub, 1, 0, 0, 0, 0, []) := rfl
theorem c167_98 : cdx (mC m167) 98 = some (98, .baload, 1, 0, 0, 0, 0, []) := rfl
theorem c167_99 : cdx (mC m167) 99 = some (99, .ifCond .eq 17, 3, 116, 0, 0, 0, []) := rfl
theorem c167_102 : cdx (mC m167) 102 = some (102, .aload_n 0, 1, 0, 0, 0, 0, []) := rfl
theorem c167_103 : cdx (mC m167) 103 = some (103, .getfield 86, 3, 10, 25, 0, 4151, []) := rfl
theorem c167_106 : cdx (mC m167) 106 = some (106, .iload 4, 2, 4, 0, 0, 0, []) := rfl
theorem c167_108 : cdx (mC m167) 108 = some (108, .baload, 1, 0, 0, 0, 0, []) := rfl
theorem c167_109 : cdx (mC m167) 109 = some (109, .ifCond .eq 7, 3, 116, 0, 0, 0, []) := rfl
theorem c167_112 : cdx (mC m167) 112 = some (112, .iconst 1, 1, 0, 0, 0, 0, []) := rfl
theorem c167_113 : cdx (mC m167) 113 = some (113, .goto 34, 3, 147, 0, 0, 0, []) := rfl
theorem c167_116 : cdx (mC m167) 116 = some (116, .iconst 0, 1, 0, 0, 0, 0, []) := rfl
theorem c167_117 : cdx (mC m167) 117 = some (117, .goto 30, 3, 147, 0, 0, 0, []) := rfl
theorem c167_120 : cdx (mC m167) 120 = some (120, .aload_n 0, 1, 0, 0, 0, 0, []) := rfl
theorem c167_121 : cdx (mC m167) 121 = some (121, .getfield 86, 3, 10, 25, 0, 4151, []) := rfl
theorem c167_124 : cdx (mC m167) 124 = some (124, .iload 4, 2, 4, 0, 0, 0, []) := rfl
theorem c167_126 : cdx (mC m167) 126 = some (126, .iconst 1, 1, 0, 0, 0, 0, []) := rfl
theorem c167_127 : cdx (mC m167) 127 = some (127, .isub, 1, 0, 0, 0, 0, []) := rfl
theorem c167_128 : cdx (mC m167) 128 = some (128, .baload, 1, 0, 0, 0, 0, []) := rfl
theorem c167_129 : cdx (mC m167) 129 = some (129, .ifCond .ne 13, 3, 142, 0, 0, 0, []) := rfl
theorem c167_132 : cdx (mC m167) 132 = some (132, .aload_n 0, 1, 0, 0, 0, 0, []) := rfl
theorem c167_133 : cdx (mC m167) 133 = some (133, .getfield 86, 3, 10, 25, 0, 4151, []) := rfl
theorem c167_136 : cdx (mC m167) 136 = some (136, .iload 4, 2, 4, 0, 0, 0, []) := rfl
theorem c167_138 : cdx (mC m167) 138 = some (138, .baload, 1, 0, 0, 0, 0, []) := rfl
theorem c167_139 : cdx (mC m167) 139 = some (139, .ifCond .eq 7, 3, 146, 0, 0, 0, []) := rfl
theorem c167_142 : cdx (mC m167) 142 = some (142, .iconst 1, 1, 0, 0, 0, 0, []) := rfl
theorem c167_143 : cdx (mC m167) 143 = some (143, .goto 4, 3, 147, 0, 0, 0, []) := rfl
theorem c167_146 : cdx (mC m167) 146 = some (146, .iconst 0, 1, 0, 0, 0, 0, []) := rfl
theorem c167_147 : cdx (mC m167) 147 = some (147, .bastore, 1, 0, 0, 0, 0, []) := rfl
theorem c167_148 : cdx (mC m167) 148 = some (148, .goto 99, 3, 247, 0, 0, 0, []) := rfl
set_option maxRecDepth 20000 in
theorem c167_151 : cdx (mC m167) 151 = some (151, .aload_n 0, 1, 0, 0, 0, 0, []) := rfl
set_option maxRecDepth 20000 in
theorem c167_152 : cdx (mC m167) 152 = some (152, .iload 6, 2, 6, 0, 0, 0, []) := rfl
set_option maxRecDepth 20000 in
theorem c167_154 : cdx (mC m167) 154 = some (154, .sipush 1000, 3, 0, 0, 0, 0, []) := rfl
set_option maxRecDepth 20000 in
theorem c167_157 : cdx (mC m167) 157 = some (157, .idiv, 1, 0, 0, 0, 0, []) := rfl
set_option maxRecDepth 20000 in
theorem c167_158 : cdx (mC m167) 158 = some (158, .iload_n 2, 1, 2, 0, 0, 0, []) := rfl
set_option maxRecDepth 20000 in
theorem c167_159 : cdx (mC m167) 159 = some (159, .iload_n 3, 1, 3, 0, 0, 0, []) := rfl
set_option maxRecDepth 20000 in
theorem c167_160 : cdx (mC m167) 160 = some (160, .invokevirtual 279, 3, 168, 3, 0, 5191, [(10, 0)]) := rfl
set_option maxRecDepth 20000 in
theorem c167_163 : cdx (mC m167) 163 = some (163, .istore 7, 2, 7, 0, 0, 0, []) := rfl
set_option maxRecDepth 20000 in
theorem c167_165 : cdx (mC m167) 165 = some (165, .iload 6, 2, 6, 0, 0, 0, []) := rfl
set_option maxRecDepth 20000 in
theorem c167_167 : cdx (mC m167) 167 = some (167, .bipush 100, 2, 0, 0, 0, 0, []) := rfl
set_option maxRecDepth 20000 in
theorem c167_169 : cdx (mC m167) 169 = some (169, .idiv, 1, 0, 0, 0, 0, []) := rfl
set_option maxRecDepth 20000 in
theorem c167_170 : cdx (mC m167) 170 = some (170, .bipush 10, 2, 0, 0, 0, 0, []) := rfl
set_option maxRecDepth 20000 in
theorem c167_172 : cdx (mC m167) 172 = some (172, .irem, 1, 0, 0, 0, 0, []) := rfl
set_option maxRecDepth 20000 in
theorem c167_173 : cdx (mC m167) 173 = some (173, .istore 8, 2, 8, 0, 0, 0, []) := rfl
set_option maxRecDepth 20000 in
theorem c167_175 : cdx (mC m167) 175 = some (175, .aload_n 0, 1, 0, 0, 0, 0, []) := rfl
set_option maxRecDepth 20000 in
theorem c167_176 : cdx (mC m167) 176 = some (176, .getfield 86, 3, 10, 25, 0, 4151, []) := rfl
set_option maxRecDepth 20000 in
theorem c167_179 : cdx (mC m167) 179 = some (179, .iload 4, 2, 4, 0, 0, 0, []) := rfl
set_option maxRecDepth 20000 in
theorem c167_181 : cdx (mC m167) 181 = some (181, .iload 8, 2, 8, 0, 0, 0, []) := rfl
set_option maxRecDepth 20000 in
theorem c167_183 : cdx (mC m167) 183 = some (183, .ifCond .ne 21, 3, 204, 0, 0, 0, []) := rfl
set_option maxRecDepth 20000 in
theorem c167_186 : cdx (mC m167) 186 = some (186, .iload 7, 2, 7, 0, 0, 0, []) := rfl
set_option maxRecDepth 20000 in
theorem c167_188 : cdx (mC m167) 188 = some (188, .iload 6, 2, 6, 0, 0, 0, []) := rfl
set_option maxRecDepth 20000 in
theorem c167_190 : cdx (mC m167) 190 = some (190, .bipush 100, 2, 0, 0, 0, 0, []) := rfl
set_option maxRecDepth 20000 in
theorem c167_192 : cdx (mC m167) 192 = some (192, .irem, 1, 0, 0, 0, 0, []) := rfl
set_option maxRecDepth 20000 in
theorem c167_193 : cdx (mC m167) 193 = some (193, .if_icmp .ge 7, 3, 200, 0, 0, 0, []) := rfl
set_option maxRecDepth 20000 in
theorem c167_196 : cdx (mC m167) 196 = some (196, .iconst 1, 1, 0, 0, 0, 0, []) := rfl
set_option maxRecDepth 20000 in
theorem c167_197 : cdx (mC m167) 197 = some (197, .goto 46, 3, 243, 0, 0, 0, []) := rfl
set_option maxRecDepth 20000 in
theorem c167_200 : cdx (mC m167) 200 = some (200, .iconst 0, 1, 0, 0, 0, 0, []) := rfl
set_option maxRecDepth 20000 in
theorem c167_201 : cdx (mC m167) 201 = some (201, .goto 42, 3, 243, 0, 0, 0, []) := rfl
set_option maxRecDepth 20000 in
theorem c167_204 : cdx (mC m167) 204 = some (204, .iload 8, 2, 8, 0, 0, 0, []) := rfl
set_option maxRecDepth 20000 in
theorem c167_206 : cdx (mC m167) 206 = some (206, .iconst 1, 1, 0, 0, 0, 0, []) := rfl
set_option maxRecDepth 20000 in
theorem c167_207 : cdx (mC m167) 207 = some (207, .if_icmp .ne 21, 3, 228, 0, 0, 0, []) := rfl
set_option maxRecDepth 20000 in
theorem c167_210 : cdx (mC m167) 210 = some (210, .iload 7, 2, 7, 0, 0, 0, []) := rfl
set_option maxRecDepth 20000 in
theorem c167_212 : cdx (mC m167) 212 = some (212, .iload 6, 2, 6, 0, 0, 0, []) := rfl
set_option maxRecDepth 20000 in
theorem c167_214 : cdx (mC m167) 214 = some (214, .bipush 100, 2, 0, 0, 0, 0, []) := rfl
set_option maxRecDepth 20000 in
theorem c167_216 : cdx (mC m167) 216 = some (216, .irem, 1, 0, 0, 0, 0, []) := rfl
set_option maxRecDepth 20000 in
theorem c167_217 : cdx (mC m167) 217 = some (217, .if_icmp .ne 7, 3, 224, 0, 0, 0, []) := rfl
set_option maxRecDepth 20000 in
theorem c167_220 : cdx (mC m167) 220 = some (220, .iconst 1, 1, 0, 0, 0, 0, []) := rfl
set_option maxRecDepth 20000 in
theorem c167_221 : cdx (mC m167) 221 = some (221, .goto 22, 3, 243, 0, 0, 0, []) := rfl
set_option maxRecDepth 20000 in
theorem c167_224 : cdx (mC m167) 224 = some (224, .iconst 0, 1, 0, 0, 0, 0, []) := rfl
set_option maxRecDepth 20000 in
theorem c167_225 : cdx (mC m167) 225 = some (225, .goto 18, 3, 243, 0, 0, 0, []) := rfl
set_option maxRecDepth 20000 in
theorem c167_228 : cdx (mC m167) 228 = some (228, .iload 7, 2, 7, 0, 0, 0, []) := rfl
set_option maxRecDepth 20000 in
theorem c167_230 : cdx (mC m167) 230 = some (230, .iload 6, 2, 6, 0, 0, 0, []) := rfl
set_option maxRecDepth 20000 in
theorem c167_232 : cdx (mC m167) 232 = some (232, .bipush 100, 2, 0, 0, 0, 0, []) := rfl
set_option maxRecDepth 20000 in
theorem c167_234 : cdx (mC m167) 234 = some (234, .irem, 1, 0, 0, 0, 0, []) := rfl
set_option maxRecDepth 20000 in
theorem c167_235 : cdx (mC m167) 235 = some (235, .if_icmp .le 7, 3, 242, 0, 0, 0, []) := rfl
set_option maxRecDepth 20000 in
theorem c167_238 : cdx (mC m167) 238 = some (238, .iconst 1, 1, 0, 0, 0, 0, []) := rfl
set_option maxRecDepth 20000 in
theorem c167_239 : cdx (mC m167) 239 = some (239, .goto 4, 3, 243, 0, 0, 0, []) := rfl
set_option maxRecDepth 20000 in
theorem c167_242 : cdx (mC m167) 242 = some (242, .iconst 0, 1, 0, 0, 0, 0, []) := rfl
set_option maxRecDepth 20000 in
theorem c167_243 : cdx (mC m167) 243 = some (243, .bastore, 1, 0, 0, 0, 0, []) := rfl
set_option maxRecDepth 20000 in
theorem c167_244 : cdx (mC m167) 244 = some (244, .iinc 4 1, 3, 4, 0, 0, 0, []) := rfl
set_option maxRecDepth 20000 in
theorem c167_247 : cdx (mC m167) 247 = some (247, .iinc 5 1, 3, 5, 0, 0, 0, []) := rfl
set_option maxRecDepth 20000 in
theorem c167_250 : cdx (mC m167) 250 = some (250, .goto (-239), 3, 11, 0, 0, 0, []) := rfl
set_option maxRecDepth 20000 in
theorem c167_253 : cdx (mC m167) 253 = some (253, .aload_n 0, 1, 0, 0, 0, 0, []) := rfl
set_option maxRecDepth 20000 in
theorem c167_254 : cdx (mC m167) 254 = some (254, .getfield 86, 3, 10, 25, 0, 4151, []) := rfl
set_option maxRecDepth 20000 in
theorem c167_257 : cdx (mC m167) 257 = some (257, .iconst 0, 1, 0, 0, 0, 0, []) := rfl
set_option maxRecDepth 20000 in
theorem c167_258 : cdx (mC m167) 258 = some (258, .baload, 1, 0, 0, 0, 0, []) := rfl
set_option maxRecDepth 20000 in
theorem c167_259 : cdx (mC m167) 259 = some (259, .ireturn, 1, 0, 0, 0, 0, []) := rfl
def lv167 : List (Nat × List Nat) := [(0, [0, 1, 2, 3]), (1, [0, 1, 2, 3]), (3, [0, 1, 2, 3, 4]), (4, [0, 1, 2, 3, 4]), (7, [0, 1, 2, 3, 4]), (8, [0, 1, 2, 3, 4]), (9, [0, 1, 2, 3, 4]), (11, [0, 1, 2, 3, 4, 5]), (13, [0, 1, 2, 3, 4, 5]), (14, [0, 1, 2, 3, 4, 5]), (17, [0, 1, 2, 3, 4, 5]), (18, [0, 1, 2, 3, 4, 5]), (19, [0, 1, 2, 3, 4, 5]), (22, [0, 1, 2, 3, 4, 5]), (23, [0, 1, 2, 3, 4, 5]), (26, [0, 1, 2, 3, 4, 5]), (28, [0, 1, 2, 3, 4, 5]), (29, [0, 1, 2, 3, 4, 5]), (31, [0, 1, 2, 3, 4, 5, 6]), (33, [0, 1, 2, 3, 4, 5, 6]), (35, [0, 1, 2, 3, 4, 5, 6]), (38, [0, 1, 2, 3, 4, 5]), (39, [0, 1, 2, 3, 4, 5]), (42, [0, 1, 2, 3, 4, 5]), (44, [0, 1, 2, 3, 4, 5]), (45, [0, 1, 2, 3, 4, 5]), (46, [0, 1, 2, 3, 4, 5]), (47, [0, 1, 2, 3, 4, 5]), (50, [0, 1, 2, 3, 4, 5]), (52, [0, 1, 2, 3, 4, 5]), (53, [0, 1, 2, 3, 4, 5]), (54, [0, 1, 2, 3, 4, 5]), (55, [0, 1, 2, 3, 4, 5]), (58, [0, 1, 2, 3, 4, 5]), (59, [0, 1, 2, 3, 4, 5]), (62, [0, 1, 2, 3, 4, 5]), (63, [0, 1, 2, 3, 4, 5]), (64, [0, 1, 2, 3, 4, 5]), (67, [0, 1, 2, 3, 4, 5, 6]), (69, [0, 1, 2, 3, 4, 5, 6]), (72, [0, 1, 2, 3, 4, 5, 6]), (75, [0, 1, 2, 3, 4, 5, 6]), (76, [0, 1, 2, 3, 4, 5, 6]), (79, [0, 1, 2, 3, 4, 5, 6]), (81, [0, 1, 2, 3, 4, 5, 6]), (82, [0, 1, 2, 3, 4, 5, 6]), (83, [0, 1, 2, 3, 4, 5, 6]), (85, [0, 1, 2, 3, 4, 5]), (87, [0, 1, 2, 3, 4, 5]), (90, [0, 1, 2, 3, 4, 5]), (91, [0, 1, 2, 3, 4, 5]), (94, [0, 1, 2, 3, 4, 5]), (96, [0, 1, 2, 3, 4, 5]), (97, [0, 1, 2, 3, 4, 5]), (98, [0, 1, 2, 3, 4, 5]), (99, [0, 1, 2, 3, 4, 5]), (102, [0, 1, 2, 3, 4, 5]), (103, [0, 1, 2, 3, 4, 5]), (106, [0, 1, 2, 3, 4, 5]), (108, [0, 1, 2, 3, 4, 5]), (109, [0, 1, 2, 3, 4, 5]), (112, [0, 1, 2, 3, 4, 5]), (113, [0, 1, 2, 3, 4, 5]), (116, [0, 1, 2, 3, 4, 5]), (117, [0, 1, 2, 3, 4, 5]), (120, [0, 1, 2, 3, 4, 5]), (121, [0, 1, 2, 3, 4, 5]), (124, [0, 1, 2, 3, 4, 5]), (126, [0, 1, 2, 3, 4, 5]), (127, [0, 1, 2, 3, 4, 5]), (128, [0, 1, 2, 3, 4, 5]), (129, [0, 1, 2, 3, 4, 5]), (132, [0, 1, 2, 3, 4, 5]), (133, [0, 1, 2, 3, 4, 5]), (136, [0, 1, 2, 3, 4, 5]), (138, [0, 1, 2, 3, 4, 5]), (139, [0, 1, 2, 3, 4, 5]), (142, [0, 1, 2, 3, 4, 5]), (143, [0, 1, 2, 3, 4, 5]), (146, [0, 1, 2, 3, 4, 5]), (147, [0, 1, 2, 3, 4, 5]), (148, [0, 1, 2, 3, 4, 5]), (151, [0, 1, 2, 3, 4, 5, 6]), (152, [0, 1, 2, 3, 4, 5, 6]), (154, [0, 1, 2, 3, 4, 5, 6]), (157, [0, 1, 2, 3, 4, 5, 6]), (158, [0, 1, 2, 3, 4, 5, 6]), (159, [0, 1, 2, 3, 4, 5, 6]), (160, [0, 1, 2, 3, 4, 5, 6]), (163, [0, 1, 2, 3, 4, 5, 6]), (165, [0, 1, 2, 3, 4, 5, 6, 7]), (167, [0, 1, 2, 3, 4, 5, 6, 7]), (169, [0, 1, 2, 3, 4, 5, 6, 7]), (170, [0, 1, 2, 3, 4, 5, 6, 7]), (172, [0, 1, 2, 3, 4, 5, 6, 7]), (173, [0, 1, 2, 3, 4, 5, 6, 7]), (175, [0, 1, 2, 3, 4, 5, 6, 7, 8]), (176, [0, 1, 2, 3, 4, 5, 6, 7, 8]), (179, [0, 1, 2, 3, 4, 5, 6, 7, 8]), (181, [0, 1, 2, 3, 4, 5, 6, 7, 8]), (183, [0, 1, 2, 3, 4, 5, 6, 7, 8]), (186, [0, 1, 2, 3, 4, 5, 6, 7]), (188, [0, 1, 2, 3, 4, 5, 6]), (190, [0, 1, 2, 3, 4, 5]), (192, [0, 1, 2, 3, 4, 5]), (193, [0, 1, 2, 3, 4, 5]), (196, [0, 1, 2, 3, 4, 5]), (197, [0, 1, 2, 3, 4, 5]), (200, [0, 1, 2, 3, 4, 5]), (201, [0, 1, 2, 3, 4, 5]), (204, [0, 1, 2, 3, 4, 5, 6, 7, 8]), (206, [0, 1, 2, 3, 4, 5, 6, 7]), (207, [0, 1, 2, 3, 4, 5, 6, 7]), (210, [0, 1, 2, 3, 4, 5, 6, 7]), (212, [0, 1, 2, 3, 4, 5, 6]), (214, [0, 1, 2, 3, 4, 5]), (216, [0, 1, 2, 3, 4, 5]), (217, [0, 1, 2, 3, 4, 5]), (220, [0, 1, 2, 3, 4, 5]), (221, [0, 1, 2, 3, 4, 5]), (224, [0, 1, 2, 3, 4, 5]), (225, [0, 1, 2, 3, 4, 5]), (228, [0, 1, 2, 3, 4, 5, 6, 7]), (230, [0, 1, 2, 3, 4, 5, 6]), (232, [0, 1, 2, 3, 4, 5]), (234, [0, 1, 2, 3, 4, 5]), (235, [0, 1, 2, 3, 4, 5]), (238, [0, 1, 2, 3, 4, 5]), (239, [0, 1, 2, 3, 4, 5]), (242, [0, 1, 2, 3, 4, 5]), (243, [0, 1, 2, 3, 4, 5]), (244, [0, 1, 2, 3, 4, 5]), (247, [0, 1, 2, 3, 4, 5]), (250, [0, 1, 2, 3, 4, 5]), (253, [0])]
theorem lvok167 : lvOk (mC m167) lv167 = true := by decide +kernel
theorem b167_0 {X : Nat × (Nat → Int32)} {d : Nat} {I : Nat → Nat → Int32} {L : Nat → Nat → Int64} {Q : Option Value → XW → Prop} {x1 : Int32} {x2 : Int32} {x3 : Int32}  : wp X d m167 0 [some (.ref 124), some (.int x1), some (.int x2), some (.int x3), none, none, none, none, none] [] (K0, R0, I, L) Q ↔ (inA x1 60 = true ∧ wp X d m167 11 [some (.ref 124), some (.int x1), some (.int x2), some (.int x3), some (.int 0), some (.int (I 135 (Int32.toNatClampNeg x1))), none, none, none] [] (K0, R0, I, L) Q) := (w_iconst (pc' := 1) (v := 0) c167_0 rfl rfl).trans ((w_istore (pc' := 3) (ls' := [some (.ref 124), some (.int x1), some (.int x2), some (.int x3), some (.int 0), none, none, none, none]) c167_1 (Nat.le_of_ble_eq_true rfl) rfl rfl).trans ((w_aload_n (pc' := 4) c167_3 rfl rfl).trans ((w_getR (pc' := 7) (q := 135) c167_4 kd_124 (by decide) rfl rd_124_17 rfl).trans ((w_iload_n (pc' := 8) c167_7 rfl rfl).trans ((w_ialdv (pc' := 9) (v := (I 135 (Int32.toNatClampNeg x1))) c167_8 kd_135 (rfl) rfl).trans (and_congr_right (fun _ => (w_istore (pc' := 11) (ls' := [some (.ref 124), some (.int x1), some (.int x2), some (.int x3), some (.int 0), some (.int (I 135 (Int32.toNatClampNeg x1))), none, none, none]) c167_9 (Nat.le_of_ble_eq_true rfl) rfl rfl))))))))
theorem b167_11 {X : Nat × (Nat → Int32)} {d : Nat} {I : Nat → Nat → Int32} {L : Nat → Nat → Int64} {Q : Option Value → XW → Prop} {x1 : Int32} {x2 : Int32} {x3 : Int32} {x4 : Int32} {x5 : Int32}  : wp X (d + 1) m167 11 [some (.ref 124), some (.int x1), some (.int x2), some (.int x3), some (.int x4), some (.int x5), none, none, none] [] (K0, R0, I, L) Q ↔ (inA x1 60 = true ∧ (if x5 < (I 136 (Int32.toNatClampNeg x1)) then (inA x5 600 = true ∧ (if (I 137 (Int32.toNatClampNeg x5)) = (-33) then (inA (x4 - 1) 100 = true ∧ (if (I 140 (Int32.toNatClampNeg (x4 - 1))) = 0 then ((inA (x4 - 1) 100 = true ∧ fits .boolean (.int 1) = true) ∧ wp X (d + 1) m167 11 [some (.ref 124), some (.int x1), some (.int x2), some (.int x3), some (.int x4), some (.int (x5 + 1)), none, none, none] [] (K0, R0, (updR I 140 (Int32.toNatClampNeg (x4 - 1)) 1), L) Q) else ((inA (x4 - 1) 100 = true ∧ fits .boolean (.int 0) = true) ∧ wp X (d + 1) m167 11 [some (.ref 124), some (.int x1), some (.int x2), some (.int x3), some (.int x4), some (.int (x5 + 1)), none, none, none] [] (K0, R0, (updR I 140 (Int32.toNatClampNeg (x4 - 1)) 0), L) Q))) else (if (I 137 (Int32.toNatClampNeg x5)) < 0 then (if (I 137 (Int32.toNatClampNeg x5)) = (-38) then (inA ((x4 + (-1)) - 1) 100 = true ∧ (if (I 140 (Int32.toNatClampNeg ((x4 + (-1)) - 1))) = 0 then ((inA ((x4 + (-1)) - 1) 100 = true ∧ fits .boolean (.int 0) = true) ∧ wp X (d + 1) m167 11 [some (.ref 124), some (.int x1), some (.int x2), some (.int x3), some (.int (x4 + (-1))), some (.int (x5 + 1)), none, none, none] [] (K0, R0, (updR I 140 (Int32.toNatClampNeg ((x4 + (-1)) - 1)) 0), L) Q) else (inA (x4 + (-1)) 100 = true ∧ (if (I 140 (Int32.toNatClampNeg (x4 + (-1)))) = 0 then ((inA ((x4 + (-1)) - 1) 100 = true ∧ fits .boolean (.int 0) = true) ∧ wp X (d + 1) m167 11 [some (.ref 124), some (.int x1), some (.int x2), some (.int x3), some (.int (x4 + (-1))), some (.int (x5 + 1)), none, none, none] [] (K0, R0, (updR I 140 (Int32.toNatClampNeg ((x4 + (-1)) - 1)) 0), L) Q) else ((inA ((x4 + (-1)) - 1) 100 = true ∧ fits .boolean (.int 1) = true) ∧ wp X (d + 1) m167 11 [some (.ref 124), some (.int x1), some (.int x2), some (.int x3), some (.int (x4 + (-1))), some (.int (x5 + 1)), none, none, none] [] (K0, R0, (updR I 140 (Int32.toNatClampNeg ((x4 + (-1)) - 1)) 1), L) Q))))) else (inA ((x4 + (-1)) - 1) 100 = true ∧ (if (I 140 (Int32.toNatClampNeg ((x4 + (-1)) - 1))) = 0 then (inA (x4 + (-1)) 100 = true ∧ (if (I 140 (Int32.toNatClampNeg (x4 + (-1)))) = 0 then ((inA ((x4 + (-1)) - 1) 100 = true ∧ fits .boolean (.int 0) = true) ∧ wp X (d + 1) m167 11 [some (.ref 124), some (.int x1), some (.int x2), some (.int x3), some (.int (x4 + (-1))), some (.int (x5 + 1)), none, none, none] [] (K0, R0, (updR I 140 (Int32.toNatClampNeg ((x4 + (-1)) - 1)) 0), L) Q) else ((inA ((x4 + (-1)) - 1) 100 = true ∧ fits .boolean (.int 1) = true) ∧ wp X (d + 1) m167 11 [some (.ref 124), some (.int x1), some (.int x2), some (.int x3), some (.int (x4 + (-1))), some (.int (x5 + 1)), none, none, none] [] (K0, R0, (updR I 140 (Int32.toNatClampNeg ((x4 + (-1)) - 1)) 1), L) Q))) else ((inA ((x4 + (-1)) - 1) 100 = true ∧ fits .boolean (.int 1) = true) ∧ wp X (d + 1) m167 11 [some (.ref 124), some (.int x1), some (.int x2), some (.int x3), some (.int (x4 + (-1))), some (.int (x5 + 1)), none, none, none] [] (K0, R0, (updR I 140 (Int32.toNatClampNeg ((x4 + (-1)) - 1)) 1), L) Q)))) else wp X d m168 0 [some (.ref 124), some (.int ((I 137 (Int32.toNatClampNeg x5)) / 1000)), some (.int x2), some (.int x3)] [] (K0, R0, I, L) (fun r w1 => wp X (d + 1) m167 163 [some (.ref 124), some (.int x1), some (.int x2), some (.int x3), some (.int x4), some (.int x5), some (.int (I 137 (Int32.toNatClampNeg x5))), none, none] (r.toList ++ []) w1 Q)))) else (fits .boolean (.int (I 140 0)) = true ∧ Q (some (.int (I 140 0))) (K0, R0, I, L)))) := (w_iload (pc' := 13) c167_11 rfl rfl).trans ((w_aload_n (pc' := 14) c167_13 rfl rfl).trans ((w_getR (pc' := 17) (q := 136) c167_14 kd_124 (by decide) rfl rd_124_18 rfl).trans ((w_iload_n (pc' := 18) c167_17 rfl rfl).trans ((w_ialdv (pc' := 19) (v := (I 136 (Int32.toNatClampNeg x1))) c167_18 kd_136 (rfl) rfl).trans (and_congr_right (fun _ => (w_icmp_ge (pc' := 22) c167_19 rfl).trans (ite_iff ((w_aload_n (pc' := 23) c167_22 rfl rfl).trans ((w_getR (pc' := 26) (q := 137) c167_23 kd_124 (by decide) rfl rd_124_19 rfl).trans ((w_iload (pc' := 28) c167_26 rfl rfl).trans ((w_ialdv (pc' := 29) (v := (I 137 (Int32.toNatClampNeg x5))) c167_28 kd_137 (rfl) rfl).trans (and_congr_right (fun _ => (w_istore (pc' := 31) (ls' := [some (.ref 124), some (.int x1), some (.int x2), some (.int x3), some (.int x4), some (.int x5), some (.int (I 137 (Int32.toNatClampNeg x5))), none, none]) c167_29 (Nat.le_of_ble_eq_true rfl) rfl rfl).trans ((w_iload (pc' := 33) c167_31 rfl rfl).trans ((w_bipush (pc' := 35) (v := (-33)) c167_33 rfl rfl).trans ((w_icmp_ne (pc' := 38) c167_35 rfl).trans (ite_iff ((w_aload_n (pc' := 39) c167_38 rfl rfl).trans ((w_getR (pc' := 42) (q := 140) c167_39 kd_124 (by decide) rfl rd_124_25 rfl).trans ((w_iload (pc' := 44) c167_42 rfl rfl).trans ((w_iconst (pc' := 45) (v := 1) c167_44 rfl rfl).trans ((w_isub (pc' := 46) c167_45 rfl).trans ((w_aload_n (pc' := 47) c167_46 rfl rfl).trans ((w_getR (pc' := 50) (q := 140) c167_47 kd_124 (by decide) rfl rd_124_25 rfl).trans ((w_iload (pc' := 52) c167_50 rfl rfl).trans ((w_iconst (pc' := 53) (v := 1) c167_52 rfl rfl).trans ((w_isub (pc' := 54) c167_53 rfl).trans ((w_zaldv (pc' := 55) (v := (I 140 (Int32.toNatClampNeg (x4 - 1)))) c167_54 kd_140 (rfl) rfl).trans (and_congr_right (fun _ => (w_if_ne (pc' := 58) c167_55 rfl).trans (ite_iff ((w_iconst (pc' := 59) (v := 1) c167_58 rfl rfl).trans ((w_goto c167_59).trans ((w_zast (pc' := 64) c167_63 kd_140 rfl).trans (and_congr_right (fun _ => (w_goto c167_64).trans ((w_iinc (pc' := 250) (v := (x5 + 1)) (ls' := [some (.ref 124), some (.int x1), some (.int x2), some (.int x3), some (.int x4), some (.int (x5 + 1)), some (.int (I 137 (Int32.toNatClampNeg x5))), none, none]) c167_247 (Nat.le_of_ble_eq_true rfl) rfl rfl rfl rfl).trans ((w_goto c167_250).trans ((wp_msk lvok167 rfl))))))))) ((w_iconst (pc' := 63) (v := 0) c167_62 rfl rfl).trans ((w_zast (pc' := 64) c167_63 kd_140 rfl).trans (and_congr_right (fun _ => (w_goto c167_64).trans ((w_iinc (pc' := 250) (v := (x5 + 1)) (ls' := [some (.ref 124), some (.int x1), some (.int x2), some (.int x3), some (.int x4), some (.int (x5 + 1)), some (.int (I 137 (Int32.toNatClampNeg x5))), none, none]) c167_247 (Nat.le_of_ble_eq_true rfl) rfl rfl rfl rfl).trans ((w_goto c167_250).trans ((wp_msk lvok167 rfl)))))))))))))))))))))) ((w_iload (pc' := 69) c167_67 rfl rfl).trans ((w_if_ge (pc' := 72) c167_69 rfl).trans (ite_iff ((w_iinc (pc' := 75) (v := (x4 + (-1))) (ls' := [some (.ref 124), some (.int x1), some (.int x2), some (.int x3), some (.int (x4 + (-1))), some (.int x5), some (.int (I 137 (Int32.toNatClampNeg x5))), none, none]) c167_72 (Nat.le_of_ble_eq_true rfl) rfl rfl rfl rfl).trans ((w_aload_n (pc' := 76) c167_75 rfl rfl).trans ((w_getR (pc' := 79) (q := 140) c167_76 kd_124 (by decide) rfl rd_124_25 rfl).trans ((w_iload (pc' := 81) c167_79 rfl rfl).trans ((w_iconst (pc' := 82) (v := 1) c167_81 rfl rfl).trans ((w_isub (pc' := 83) c167_82 rfl).trans ((w_iload (pc' := 85) c167_83 rfl rfl).trans ((w_bipush (pc' := 87) (v := (-38)) c167_85 rfl rfl).trans ((w_icmp_ne (pc' := 90) c167_87 rfl).trans (ite_iff ((w_aload_n (pc' := 91) c167_90 rfl rfl).trans ((w_getR (pc' := 94) (q := 140) c167_91 kd_124 (by decide) rfl rd_124_25 rfl).trans ((w_iload (pc' := 96) c167_94 rfl rfl).trans ((w_iconst (pc' := 97) (v := 1) c167_96 rfl rfl).trans ((w_isub (pc' := 98) c167_97 rfl).trans ((w_zaldv (pc' := 99) (v := (I 140 (Int32.toNatClampNeg ((x4 + (-1)) - 1)))) c167_98 kd_140 (rfl) rfl).trans (and_congr_right (fun _ => (w_if_eq (pc' := 102) c167_99 rfl).trans (ite_iff ((w_iconst (pc' := 117) (v := 0) c167_116 rfl rfl).trans ((w_goto c167_117).trans ((w_zast (pc' := 148) c167_147 kd_140 rfl).trans (and_congr_right (fun _ => (w_goto c167_148).trans ((w_iinc (pc' := 250) (v := (x5 + 1)) (ls' := [some (.ref 124), some (.int x1), some (.int x2), some (.int x3), some (.int (x4 + (-1))), some (.int (x5 + 1)), some (.int (I 137 (Int32.toNatClampNeg x5))), none, none]) c167_247 (Nat.le_of_ble_eq_true rfl) rfl rfl rfl rfl).trans ((w_goto c167_250).trans ((wp_msk lvok167 rfl))))))))) ((w_aload_n (pc' := 103) c167_102 rfl rfl).trans ((w_getR (pc' := 106) (q := 140) c167_103 kd_124 (by decide) rfl rd_124_25 rfl).trans ((w_iload (pc' := 108) c167_106 rfl rfl).trans ((w_zaldv (pc' := 109) (v := (I 140 (Int32.toNatClampNeg (x4 + (-1))))) c167_108 kd_140 (rfl) rfl).trans (and_congr_right (fun _ => (w_if_eq (pc' := 112) c167_109 rfl).trans (ite_iff ((w_iconst (pc' := 117) (v := 0) c167_116 rfl rfl).trans ((w_goto c167_117).trans ((w_zast (pc' := 148) c167_147 kd_140 rfl).trans (and_congr_right (fun _ => (w_goto c167_148).trans ((w_iinc (pc' := 250) (v := (x5 + 1)) (ls' := [some (.ref 124), some (.int x1), some (.int x2), some (.int x3), some (.int (x4 + (-1))), some (.int (x5 + 1)), some (.int (I 137 (Int32.toNatClampNeg x5))), none, none]) c167_247 (Nat.le_of_ble_eq_true rfl) rfl rfl rfl rfl).trans ((w_goto c167_250).trans ((wp_msk lvok167 rfl))))))))) ((w_iconst (pc' := 113) (v := 1) c167_112 rfl rfl).trans ((w_goto c167_113).trans ((w_zast (pc' := 148) c167_147 kd_140 rfl).trans (and_congr_right (fun _ => (w_goto c167_148).trans ((w_iinc (pc' := 250) (v := (x5 + 1)) (ls' := [some (.ref 124), some (.int x1), some (.int x2), some (.int x3), some (.int (x4 + (-1))), some (.int (x5 + 1)), some (.int (I 137 (Int32.toNatClampNeg x5))), none, none]) c167_247 (Nat.le_of_ble_eq_true rfl) rfl rfl rfl rfl).trans ((w_goto c167_250).trans ((wp_msk lvok167 rfl))))))))))))))))))))))))) ((w_aload_n (pc' := 121) c167_120 rfl rfl).trans ((w_getR (pc' := 124) (q := 140) c167_121 kd_124 (by decide) rfl rd_124_25 rfl).trans ((w_iload (pc' := 126) c167_124 rfl rfl).trans ((w_iconst (pc' := 127) (v := 1) c167_126 rfl rfl).trans ((w_isub (pc' := 128) c167_127 rfl).trans ((w_zaldv (pc' := 129) (v := (I 140 (Int32.toNatClampNeg ((x4 + (-1)) - 1)))) c167_128 kd_140 (rfl) rfl).trans (and_congr_right (fun _ => (w_if_ne (pc' := 132) c167_129 rfl).trans (ite_iff ((w_aload_n (pc' := 133) c167_132 rfl rfl).trans ((w_getR (pc' := 136) (q := 140) c167_133 kd_124 (by decide) rfl rd_124_25 rfl).trans ((w_iload (pc' := 138) c167_136 rfl rfl).trans ((w_zaldv (pc' := 139) (v := (I 140 (Int32.toNatClampNeg (x4 + (-1))))) c167_138 kd_140 (rfl) rfl).trans (and_congr_right (fun _ => (w_if_eq (pc' := 142) c167_139 rfl).trans (ite_iff ((w_iconst (pc' := 147) (v := 0) c167_146 rfl rfl).trans ((w_zast (pc' := 148) c167_147 kd_140 rfl).trans (and_congr_right (fun _ => (w_goto c167_148).trans ((w_iinc (pc' := 250) (v := (x5 + 1)) (ls' := [some (.ref 124), some (.int x1), some (.int x2), some (.int x3), some (.int (x4 + (-1))), some (.int (x5 + 1)), some (.int (I 137 (Int32.toNatClampNeg x5))), none, none]) c167_247 (Nat.le_of_ble_eq_true rfl) rfl rfl rfl rfl).trans ((w_goto c167_250).trans ((wp_msk lvok167 rfl)))))))) ((w_iconst (pc' := 143) (v := 1) c167_142 rfl rfl).trans ((w_goto c167_143).trans ((w_zast (pc' := 148) c167_147 kd_140 rfl).trans (and_congr_right (fun _ => (w_goto c167_148).trans ((w_iinc (pc' := 250) (v := (x5 + 1)) (ls' := [some (.ref 124), some (.int x1), some (.int x2), some (.int x3), some (.int (x4 + (-1))), some (.int (x5 + 1)), some (.int (I 137 (Int32.toNatClampNeg x5))), none, none]) c167_247 (Nat.le_of_ble_eq_true rfl) rfl rfl rfl rfl).trans ((w_goto c167_250).trans ((wp_msk lvok167 rfl)))))))))))))))) ((w_iconst (pc' := 143) (v := 1) c167_142 rfl rfl).trans ((w_goto c167_143).trans ((w_zast (pc' := 148) c167_147 kd_140 rfl).trans (and_congr_right (fun _ => (w_goto c167_148).trans ((w_iinc (pc' := 250) (v := (x5 + 1)) (ls' := [some (.ref 124), some (.int x1), some (.int x2), some (.int x3), some (.int (x4 + (-1))), some (.int (x5 + 1)), some (.int (I 137 (Int32.toNatClampNeg x5))), none, none]) c167_247 (Nat.le_of_ble_eq_true rfl) rfl rfl rfl rfl).trans ((w_goto c167_250).trans ((wp_msk lvok167 rfl)))))))))))))))))))))))))))) ((w_aload_n (pc' := 152) c167_151 rfl rfl).trans ((w_iload (pc' := 154) c167_152 rfl rfl).trans ((w_sipush (pc' := 157) (v := 1000) c167_154 rfl rfl).trans (((w_idiv (pc' := 158) c167_157 rfl).trans (and_iff_right (by decide))).trans ((w_iload_n (pc' := 159) c167_158 rfl rfl).trans ((w_iload_n (pc' := 160) c167_159 rfl rfl).trans ((w_callv (pc' := 163) c167_160 mt168 rfl (Nat.le_of_ble_eq_true rfl) rfl kd_124 rfl rfl (Nat.le_of_ble_eq_true rfl) rfl rfl))))))))))))))))))))) ((w_aload_n (pc' := 254) c167_253 rfl rfl).trans ((w_getR (pc' := 257) (q := 140) c167_254 kd_124 (by decide) rfl rd_124_25 rfl).trans ((w_iconst (pc' := 258) (v := 0) c167_257 rfl rfl).trans (((w_zaldv (pc' := 259) (v := (I 140 0)) c167_258 kd_140 (rfl) rfl).trans (and_iff_right (by decide))).trans (w_zret c167_259 rfl (by decide)))))))))))))
theorem b167_163 {X : Nat × (Nat → Int32)} {d : Nat} {I : Nat → Nat → Int32} {L : Nat → Nat → Int64} {Q : Option Value → XW → Prop} {x1 : Int32} {x2 : Int32} {x3 : Int32} {x4 : Int32} {x5 : Int32} {x6 : Int32} {s0 : Int32}  : wp X d m167 163 [some (.ref 124), some (.int x1), some (.int x2), some (.int x3), some (.int x4), some (.int x5), some (.int x6), none, none] [(.int s0)] (K0, R0, I, L) Q ↔ (if ((x6 / 100) - (x6 / 100) / 10 * 10) = 0 then (if s0 < (x6 - x6 / 100 * 100) then ((inA x4 100 = true ∧ fits .boolean (.int 1) = true) ∧ wp X d m167 11 [some (.ref 124), some (.int x1), some (.int x2), some (.int x3), some (.int (x4 + 1)), some (.int (x5 + 1)), none, none, none] [] (K0, R0, (updR I 140 (Int32.toNatClampNeg x4) 1), L) Q) else ((inA x4 100 = true ∧ fits .boolean (.int 0) = true) ∧ wp X d m167 11 [some (.ref 124), some (.int x1), some (.int x2), some (.int x3), some (.int (x4 + 1)), some (.int (x5 + 1)), none, none, none] [] (K0, R0, (updR I 140 (Int32.toNatClampNeg x4) 0), L) Q)) else (if ((x6 / 100) - (x6 / 100) / 10 * 10) = 1 then (if s0 = (x6 - x6 / 100 * 100) then ((inA x4 100 = true ∧ fits .boolean (.int 1) = true) ∧ wp X d m167 11 [some (.ref 124), some (.int x1), some (.int x2), some (.int x3), some (.int (x4 + 1)), some (.int (x5 + 1)), none, none, none] [] (K0, R0, (updR I 140 (Int32.toNatClampNeg x4) 1), L) Q) else ((inA x4 100 = true ∧ fits .boolean (.int 0) = true) ∧ wp X d m167 11 [some (.ref 124), some (.int x1), some (.int x2), some (.int x3), some (.int (x4 + 1)), some (.int (x5 + 1)), none, none, none] [] (K0, R0, (updR I 140 (Int32.toNatClampNeg x4) 0), L) Q)) else (if (x6 - x6 / 100 * 100) < s0 then ((inA x4 100 = true ∧ fits .boolean (.int 1) = true) ∧ wp X d m167 11 [some (.ref 124), some (.int x1), some (.int x2), some (.int x3), some (.int (x4 + 1)), some (.int (x5 + 1)), none, none, none] [] (K0, R0, (updR I 140 (Int32.toNatClampNeg x4) 1), L) Q) else ((inA x4 100 = true ∧ fits .boolean (.int 0) = true) ∧ wp X d m167 11 [some (.ref 124), some (.int x1), some (.int x2), some (.int x3), some (.int (x4 + 1)), some (.int (x5 + 1)), none, none, none] [] (K0, R0, (updR I 140 (Int32.toNatClampNeg x4) 0), L) Q)))) := (w_istore (pc' := 165) (ls' := [some (.ref 124), some (.int x1), some (.int x2), some (.int x3), some (.int x4), some (.int x5), some (.int x6), some (.int s0), none]) c167_163 (Nat.le_of_ble_eq_true rfl) rfl rfl).trans ((w_iload (pc' := 167) c167_165 rfl rfl).trans ((w_bipush (pc' := 169) (v := 100) c167_167 rfl rfl).trans (((w_idiv (pc' := 170) c167_169 rfl).trans (and_iff_right (by decide))).trans ((w_bipush (pc' := 172) (v := 10) c167_170 rfl rfl).trans (((w_irem (pc' := 173) c167_172 rfl).trans (and_iff_right (by decide))).trans ((w_istore (pc' := 175) (ls' := [some (.ref 124), some (.int x1), some (.int x2), some (.int x3), some (.int x4), some (.int x5), some (.int x6), some (.int s0), some (.int ((x6 / 100) - (x6 / 100) / 10 * 10))]) c167_173 (Nat.le_of_ble_eq_true rfl) rfl rfl).trans ((w_aload_n (pc' := 176) c167_175 rfl rfl).trans ((w_getR (pc' := 179) (q := 140) c167_176 kd_124 (by decide) rfl rd_124_25 rfl).trans ((w_iload (pc' := 181) c167_179 rfl rfl).trans ((w_iload (pc' := 183) c167_181 rfl rfl).trans ((w_if_ne (pc' := 186) c167_183 rfl).trans (ite_iff ((w_iload (pc' := 188) c167_186 rfl rfl).trans ((w_iload (pc' := 190) c167_188 rfl rfl).trans ((w_bipush (pc' := 192) (v := 100) c167_190 rfl rfl).trans (((w_irem (pc' := 193) c167_192 rfl).trans (and_iff_right (by decide))).trans ((w_icmp_ge (pc' := 196) c167_193 rfl).trans (ite_iff ((w_iconst (pc' := 197) (v := 1) c167_196 rfl rfl).trans ((w_goto c167_197).trans ((w_zast (pc' := 244) c167_243 kd_140 rfl).trans (and_congr_right (fun _ => (w_iinc (pc' := 247) (v := (x4 + 1)) (ls' := [some (.ref 124), some (.int x1), some (.int x2), some (.int x3), some (.int (x4 + 1)), some (.int x5), some (.int x6), some (.int s0), some (.int ((x6 / 100) - (x6 / 100) / 10 * 10))]) c167_244 (Nat.le_of_ble_eq_true rfl) rfl rfl rfl rfl).trans ((w_iinc (pc' := 250) (v := (x5 + 1)) (ls' := [some (.ref 124), some (.int x1), some (.int x2), some (.int x3), some (.int (x4 + 1)), some (.int (x5 + 1)), some (.int x6), some (.int s0), some (.int ((x6 / 100) - (x6 / 100) / 10 * 10))]) c167_247 (Nat.le_of_ble_eq_true rfl) rfl rfl rfl rfl).trans ((w_goto c167_250).trans ((wp_msk lvok167 rfl))))))))) ((w_iconst (pc' := 201) (v := 0) c167_200 rfl rfl).trans ((w_goto c167_201).trans ((w_zast (pc' := 244) c167_243 kd_140 rfl).trans (and_congr_right (fun _ => (w_iinc (pc' := 247) (v := (x4 + 1)) (ls' := [some (.ref 124), some (.int x1), some (.int x2), some (.int x3), some (.int (x4 + 1)), some (.int x5), some (.int x6), some (.int s0), some (.int ((x6 / 100) - (x6 / 100) / 10 * 10))]) c167_244 (Nat.le_of_ble_eq_true rfl) rfl rfl rfl rfl).trans ((w_iinc (pc' := 250) (v := (x5 + 1)) (ls' := [some (.ref 124), some (.int x1), some (.int x2), some (.int x3), some (.int (x4 + 1)), some (.int (x5 + 1)), some (.int x6), some (.int s0), some (.int ((x6 / 100) - (x6 / 100) / 10 * 10))]) c167_247 (Nat.le_of_ble_eq_true rfl) rfl rfl rfl rfl).trans ((w_goto c167_250).trans ((wp_msk lvok167 rfl))))))))))))))) ((w_iload (pc' := 206) c167_204 rfl rfl).trans ((w_iconst (pc' := 207) (v := 1) c167_206 rfl rfl).trans ((w_icmp_ne (pc' := 210) c167_207 rfl).trans (ite_iff ((w_iload (pc' := 212) c167_210 rfl rfl).trans ((w_iload (pc' := 214) c167_212 rfl rfl).trans ((w_bipush (pc' := 216) (v := 100) c167_214 rfl rfl).trans (((w_irem (pc' := 217) c167_216 rfl).trans (and_iff_right (by decide))).trans ((w_icmp_ne (pc' := 220) c167_217 rfl).trans (ite_iff ((w_iconst (pc' := 221) (v := 1) c167_220 rfl rfl).trans ((w_goto c167_221).trans ((w_zast (pc' := 244) c167_243 kd_140 rfl).trans (and_congr_right (fun _ => (w_iinc (pc' := 247) (v := (x4 + 1)) (ls' := [some (.ref 124), some (.int x1), some (.int x2), some (.int x3), some (.int (x4 + 1)), some (.int x5), some (.int x6), some (.int s0), some (.int ((x6 / 100) - (x6 / 100) / 10 * 10))]) c167_244 (Nat.le_of_ble_eq_true rfl) rfl rfl rfl rfl).trans ((w_iinc (pc' := 250) (v := (x5 + 1)) (ls' := [some (.ref 124), some (.int x1), some (.int x2), some (.int x3), some (.int (x4 + 1)), some (.int (x5 + 1)), some (.int x6), some (.int s0), some (.int ((x6 / 100) - (x6 / 100) / 10 * 10))]) c167_247 (Nat.le_of_ble_eq_true rfl) rfl rfl rfl rfl).trans ((w_goto c167_250).trans ((wp_msk lvok167 rfl))))))))) ((w_iconst (pc' := 225) (v := 0) c167_224 rfl rfl).trans ((w_goto c167_225).trans ((w_zast (pc' := 244) c167_243 kd_140 rfl).trans (and_congr_right (fun _ => (w_iinc (pc' := 247) (v := (x4 + 1)) (ls' := [some (.ref 124), some (.int x1), some (.int x2), some (.int x3), some (.int (x4 + 1)), some (.int x5), some (.int x6), some (.int s0), some (.int ((x6 / 100) - (x6 / 100) / 10 * 10))]) c167_244 (Nat.le_of_ble_eq_true rfl) rfl rfl rfl rfl).trans ((w_iinc (pc' := 250) (v := (x5 + 1)) (ls' := [some (.ref 124), some (.int x1), some (.int x2), some (.int x3), some (.int (x4 + 1)), some (.int (x5 + 1)), some (.int x6), some (.int s0), some (.int ((x6 / 100) - (x6 / 100) / 10 * 10))]) c167_247 (Nat.le_of_ble_eq_true rfl) rfl rfl rfl rfl).trans ((w_goto c167_250).trans ((wp_msk lvok167 rfl))))))))))))))) ((w_iload (pc' := 230) c167_228 rfl rfl).trans ((w_iload (pc' := 232) c167_230 rfl rfl).trans ((w_bipush (pc' := 234) (v := 100) c167_232 rfl rfl).trans (((w_irem (pc' := 235) c167_234 rfl).trans (and_iff_right (by decide))).trans ((w_icmp_le (pc' := 238) c167_235 rfl).trans (ite_iff ((w_iconst (pc' := 239) (v := 1) c167_238 rfl rfl).trans ((w_goto c167_239).trans ((w_zast (pc' := 244) c167_243 kd_140 rfl).trans (and_congr_right (fun _ => (w_iinc (pc' := 247) (v := (x4 + 1)) (ls' := [some (.ref 124), some (.int x1), some (.int x2), some (.int x3), some (.int (x4 + 1)), some (.int x5), some (.int x6), some (.int s0), some (.int ((x6 / 100) - (x6 / 100) / 10 * 10))]) c167_244 (Nat.le_of_ble_eq_true rfl) rfl rfl rfl rfl).trans ((w_iinc (pc' := 250) (v := (x5 + 1)) (ls' := [some (.ref 124), some (.int x1), some (.int x2), some (.int x3), some (.int (x4 + 1)), some (.int (x5 + 1)), some (.int x6), some (.int s0), some (.int ((x6 / 100) - (x6 / 100) / 10 * 10))]) c167_247 (Nat.le_of_ble_eq_true rfl) rfl rfl rfl rfl).trans ((w_goto c167_250).trans ((wp_msk lvok167 rfl))))))))) ((w_iconst (pc' := 243) (v := 0) c167_242 rfl rfl).trans ((w_zast (pc' := 244) c167_243 kd_140 rfl).trans (and_congr_right (fun _ => (w_iinc (pc' := 247) (v := (x4 + 1)) (ls' := [some (.ref 124), some (.int x1), some (.int x2), some (.int x3), some (.int (x4 + 1)), some (.int x5), some (.int x6), some (.int s0), some (.int ((x6 / 100) - (x6 / 100) / 10 * 10))]) c167_244 (Nat.le_of_ble_eq_true rfl) rfl rfl rfl rfl).trans ((w_iinc (pc' := 250) (v := (x5 + 1)) (ls' := [some (.ref 124), some (.int x1), some (.int x2), some (.int x3), some (.int (x4 + 1)), some (.int (x5 + 1)), some (.int x6), some (.int s0), some (.int ((x6 / 100) - (x6 / 100) / 10 * 10))]) c167_247 (Nat.le_of_ble_eq_true rfl) rfl rfl rfl rfl).trans ((w_goto c167_250).trans ((wp_msk lvok167 rfl))))))))))))))))))))))))))))))
-- LeavesObjectModel.factOf(III)I
theorem c168_0 : cdx (mC m168) 0 = some (0, .iload_n 1, 1, 1, 0, 0, 0, []) := rfl
theorem c168_1 : cdx (mC m168) 1 = some (1, .tableswitch 64 0 4 #[35, 37, 39, 46, 53], 35, 65, 0, 0, 0, [(0, 36), (1, 38), (2, 40), (3, 47), (4, 54)]) := rfl
theorem c168_36 : cdx (mC m168) 36 = some (36, .iload_n 2, 1, 2, 0, 0, 0, []) := rfl
theorem c168_37 : cdx (mC m168) 37 = some (37, .ireturn, 1, 0, 0, 0, 0, []) := rfl
theorem c168_38 : cdx (mC m168) 38 = some (38, .iload_n 3, 1, 3, 0, 0, 0, []) := rfl
theorem c168_39 : cdx (mC m168) 39 = some (39, .ireturn, 1, 0, 0, 0, 0, []) := rfl
theorem c168_40 : cdx (mC m168) 40 = some (40, .aload_n 0, 1, 0, 0, 0, 0, []) := rfl
theorem c168_41 : cdx (mC m168) 41 = some (41, .getfield 16, 3, 10, 2, 0, 4128, []) := rfl
theorem c168_44 : cdx (mC m168) 44 = some (44, .iload_n 2, 1, 2, 0, 0, 0, []) := rfl
theorem c168_45 : cdx (mC m168) 45 = some (45, .iaload, 1, 0, 0, 0, 0, []) := rfl
theorem c168_46 : cdx (mC m168) 46 = some (46, .ireturn, 1, 0, 0, 0, 0, []) := rfl
theorem c168_47 : cdx (mC m168) 47 = some (47, .aload_n 0, 1, 0, 0, 0, 0, []) := rfl
theorem c168_48 : cdx (mC m168) 48 = some (48, .getfield 20, 3, 10, 3, 0, 4129, []) := rfl
theorem c168_51 : cdx (mC m168) 51 = some (51, .iload_n 2, 1, 2, 0, 0, 0, []) := rfl
theorem c168_52 : cdx (mC m168) 52 = some (52, .iaload, 1, 0, 0, 0, 0, []) := rfl
theorem c168_53 : cdx (mC m168) 53 = some (53, .ireturn, 1, 0, 0, 0, 0, []) := rfl
theorem c168_54 : cdx (mC m168) 54 = some (54, .aload_n 0, 1, 0, 0, 0, 0, []) := rfl
theorem c168_55 : cdx (mC m168) 55 = some (55, .aload_n 0, 1, 0, 0, 0, 0, []) := rfl
theorem c168_56 : cdx (mC m168) 56 = some (56, .getfield 23, 3, 10, 4, 0, 4130, []) := rfl
theorem c168_59 : cdx (mC m168) 59 = some (59, .iload_n 2, 1, 2, 0, 0, 0, []) := rfl
theorem c168_60 : cdx (mC m168) 60 = some (60, .iaload, 1, 0, 0, 0, 0, []) := rfl
theorem c168_61 : cdx (mC m168) 61 = some (61, .invokevirtual 276, 3, 169, 1, 0, 5195, [(10, 0)]) := rfl
theorem c168_64 : cdx (mC m168) 64 = some (64, .ireturn, 1, 0, 0, 0, 0, []) := rfl
theorem c168_65 : cdx (mC m168) 65 = some (65, .aload_n 0, 1, 0, 0, 0, 0, []) := rfl
theorem c168_66 : cdx (mC m168) 66 = some (66, .getfield 13, 3, 10, 1, 0, 4127, []) := rfl
theorem c168_69 : cdx (mC m168) 69 = some (69, .bipush 10, 2, 0, 0, 0, 0, []) := rfl
theorem c168_71 : cdx (mC m168) 71 = some (71, .irem, 1, 0, 0, 0, 0, []) := rfl
theorem c168_72 : cdx (mC m168) 72 = some (72, .ireturn, 1, 0, 0, 0, 0, []) := rfl
def lv168 : List (Nat × List Nat) := [(0, [0, 1, 2, 3]), (1, [0, 2, 3]), (36, [2]), (38, [3]), (40, [0, 2]), (41, [2]), (44, [2]), (47, [0, 2]), (48, [2]), (51, [2]), (54, [0, 2]), (55, [0, 2]), (56, [2]), (59, [2]), (65, [0])]
theorem lvok168 : lvOk (mC m168) lv168 = true := by decide +kernel
theorem b168_0 {X : Nat × (Nat → Int32)} {d : Nat} {I : Nat → Nat → Int32} {L : Nat → Nat → Int64} {Q : Option Value → XW → Prop} {x1 : Int32} {x2 : Int32} {x3 : Int32}  : wp X (d + 1) m168 0 [some (.ref 124), some (.int x1), some (.int x2), some (.int x3)] [] (K0, R0, I, L) Q ↔ (if x1 = 0 then Q (some (.int x2)) (K0, R0, I, L) else (if x1 = 1 then Q (some (.int x3)) (K0, R0, I, L) else (if x1 = 2 then (inA x2 5 = true ∧ Q (some (.int (I 125 (Int32.toNatClampNeg x2)))) (K0, R0, I, L)) else (if x1 = 3 then (inA x2 5 = true ∧ Q (some (.int (I 126 (Int32.toNatClampNeg x2)))) (K0, R0, I, L)) else (if x1 = 4 then (inA x2 5 = true ∧ wp X d m169 0 [some (.ref 124), some (.int (I 127 (Int32.toNatClampNeg x2))), none, none] [] (K0, R0, I, L) (fun r w1 => wp X (d + 1) m168 64 [none, none, none, none] (r.toList ++ []) w1 Q)) else Q (some (.int ((I 124 1) - (I 124 1) / 10 * 10))) (K0, R0, I, L)))))) := (w_iload_n (pc' := 1) c168_0 rfl rfl).trans ((w_tswitch c168_1).trans ((w_swcons (v := 0) rfl).trans (ite_iff ((w_iload_n (pc' := 37) c168_36 rfl rfl).trans (w_iret c168_37 rfl)) ((w_swcons (v := 1) rfl).trans (ite_iff ((w_iload_n (pc' := 39) c168_38 rfl rfl).trans (w_iret c168_39 rfl)) ((w_swcons (v := 2) rfl).trans (ite_iff ((w_aload_n (pc' := 41) c168_40 rfl rfl).trans ((w_getR (pc' := 44) (q := 125) c168_41 kd_124 (by decide) rfl rd_124_2 rfl).trans ((w_iload_n (pc' := 45) c168_44 rfl rfl).trans ((w_ialdv (pc' := 46) (v := (I 125 (Int32.toNatClampNeg x2))) c168_45 kd_125 (rfl) rfl).trans (and_congr_right (fun _ => w_iret c168_46 rfl)))))) ((w_swcons (v := 3) rfl).trans (ite_iff ((w_aload_n (pc' := 48) c168_47 rfl rfl).trans ((w_getR (pc' := 51) (q := 126) c168_48 kd_124 (by decide) rfl rd_124_3 rfl).trans ((w_iload_n (pc' := 52) c168_51 rfl rfl).trans ((w_ialdv (pc' := 53) (v := (I 126 (Int32.toNatClampNeg x2))) c168_52 kd_126 (rfl) rfl).trans (and_congr_right (fun _ => w_iret c168_53 rfl)))))) ((w_swcons (v := 4) rfl).trans (ite_iff ((w_aload_n (pc' := 55) c168_54 rfl rfl).trans ((w_aload_n (pc' := 56) c168_55 rfl rfl).trans ((w_getR (pc' := 59) (q := 127) c168_56 kd_124 (by decide) rfl rd_124_4 rfl).trans ((w_iload_n (pc' := 60) c168_59 rfl rfl).trans ((w_ialdv (pc' := 61) (v := (I 127 (Int32.toNatClampNeg x2))) c168_60 kd_127 (rfl) rfl).trans (and_congr_right (fun _ => (w_callv (pc' := 64) c168_61 mt169 rfl (Nat.le_of_ble_eq_true rfl) rfl kd_124 rfl rfl (Nat.le_of_ble_eq_true rfl) rfl rfl).trans (wp_congr (fun r w1 => wp_msk lvok168 rfl))))))))) ((w_swnil).trans ((w_aload_n (pc' := 66) c168_65 rfl rfl).trans ((w_getIv (pc' := 69) (v := (I 124 1)) c168_66 kd_124 (by decide) rfl (rfl) rfl).trans ((w_bipush (pc' := 71) (v := 10) c168_69 rfl rfl).trans (((w_irem (pc' := 72) c168_71 rfl).trans (and_iff_right (by decide))).trans (w_iret c168_72 rfl)))))))))))))))))
theorem b168_64 {X : Nat × (Nat → Int32)} {d : Nat} {I : Nat → Nat → Int32} {L : Nat → Nat → Int64} {Q : Option Value → XW → Prop} {s0 : Int32}  : wp X d m168 64 [none, none, none, none] [(.int s0)] (K0, R0, I, L) Q ↔ Q (some (.int s0)) (K0, R0, I, L) := w_iret c168_64 rfl
-- LeavesObjectModel.bits(I)I
theorem c169_0 : cdx (mC m169) 0 = some (0, .iconst 0, 1, 0, 0, 0, 0, []) := rfl
theorem c169_1 : cdx (mC m169) 1 = some (1, .istore_n 2, 1, 2, 0, 0, 0, []) := rfl
theorem c169_2 : cdx (mC m169) 2 = some (2, .iconst 0, 1, 0, 0, 0, 0, []) := rfl
theorem c169_3 : cdx (mC m169) 3 = some (3, .istore_n 3, 1, 3, 0, 0, 0, []) := rfl
theorem c169_4 : cdx (mC m169) 4 = some (4, .iload_n 3, 1, 3, 0, 0, 0, []) := rfl
theorem c169_5 : cdx (mC m169) 5 = some (5, .bipush 12, 2, 0, 0, 0, 0, []) := rfl
theorem c169_7 : cdx (mC m169) 7 = some (7, .if_icmp .ge 26, 3, 33, 0, 0, 0, []) := rfl
theorem c169_10 : cdx (mC m169) 10 = some (10, .iload_n 2, 1, 2, 0, 0, 0, []) := rfl
theorem c169_11 : cdx (mC m169) 11 = some (11, .aload_n 0, 1, 0, 0, 0, 0, []) := rfl
theorem c169_12 : cdx (mC m169) 12 = some (12, .iload_n 1, 1, 1, 0, 0, 0, []) := rfl
theorem c169_13 : cdx (mC m169) 13 = some (13, .iload_n 3, 1, 3, 0, 0, 0, []) := rfl
theorem c169_14 : cdx (mC m169) 14 = some (14, .invokevirtual 209, 3, 170, 2, 0, 5199, [(10, 0)]) := rfl
theorem c169_17 : cdx (mC m169) 17 = some (17, .ifCond .eq 7, 3, 24, 0, 0, 0, []) := rfl
theorem c169_20 : cdx (mC m169) 20 = some (20, .iconst 1, 1, 0, 0, 0, 0, []) := rfl
theorem c169_21 : cdx (mC m169) 21 = some (21, .goto 4, 3, 25, 0, 0, 0, []) := rfl
theorem c169_24 : cdx (mC m169) 24 = some (24, .iconst 0, 1, 0, 0, 0, 0, []) := rfl
theorem c169_25 : cdx (mC m169) 25 = some (25, .iadd, 1, 0, 0, 0, 0, []) := rfl
theorem c169_26 : cdx (mC m169) 26 = some (26, .istore_n 2, 1, 2, 0, 0, 0, []) := rfl
theorem c169_27 : cdx (mC m169) 27 = some (27, .iinc 3 1, 3, 3, 0, 0, 0, []) := rfl
theorem c169_30 : cdx (mC m169) 30 = some (30, .goto (-26), 3, 4, 0, 0, 0, []) := rfl
theorem c169_33 : cdx (mC m169) 33 = some (33, .iload_n 2, 1, 2, 0, 0, 0, []) := rfl
theorem c169_34 : cdx (mC m169) 34 = some (34, .ireturn, 1, 0, 0, 0, 0, []) := rfl
def lv169 : List (Nat × List Nat) := [(0, [0, 1]), (1, [0, 1]), (2, [0, 1, 2]), (3, [0, 1, 2]), (4, [0, 1, 2, 3]), (5, [0, 1, 2, 3]), (7, [0, 1, 2, 3]), (10, [0, 1, 2, 3]), (11, [0, 1, 3]), (12, [0, 1, 3]), (13, [0, 1, 3]), (14, [0, 1, 3]), (17, [0, 1, 3]), (20, [0, 1, 3]), (21, [0, 1, 3]), (24, [0, 1, 3]), (25, [0, 1, 3]), (26, [0, 1, 3]), (27, [0, 1, 2, 3]), (30, [0, 1, 2, 3]), (33, [2])]
theorem lvok169 : lvOk (mC m169) lv169 = true := by decide +kernel
theorem b169_0 {X : Nat × (Nat → Int32)} {d : Nat} {I : Nat → Nat → Int32} {L : Nat → Nat → Int64} {Q : Option Value → XW → Prop} {x1 : Int32}  : wp X d m169 0 [some (.ref 124), some (.int x1), none, none] [] (K0, R0, I, L) Q ↔ wp X d m169 4 [some (.ref 124), some (.int x1), some (.int 0), some (.int 0)] [] (K0, R0, I, L) Q := (w_iconst (pc' := 1) (v := 0) c169_0 rfl rfl).trans ((w_istore_n (pc' := 2) (ls' := [some (.ref 124), some (.int x1), some (.int 0), none]) c169_1 (Nat.le_of_ble_eq_true rfl) rfl rfl).trans ((w_iconst (pc' := 3) (v := 0) c169_2 rfl rfl).trans ((w_istore_n (pc' := 4) (ls' := [some (.ref 124), some (.int x1), some (.int 0), some (.int 0)]) c169_3 (Nat.le_of_ble_eq_true rfl) rfl rfl))))
theorem b169_4 {X : Nat × (Nat → Int32)} {d : Nat} {I : Nat → Nat → Int32} {L : Nat → Nat → Int64} {Q : Option Value → XW → Prop} {x1 : Int32} {x2 : Int32} {x3 : Int32}  : wp X (d + 1) m169 4 [some (.ref 124), some (.int x1), some (.int x2), some (.int x3)] [] (K0, R0, I, L) Q ↔ (if x3 < 12 then wp X d m170 0 [some (.ref 124), some (.int x1), some (.int x3)] [] (K0, R0, I, L) (fun r w1 => wp X (d + 1) m169 17 [some (.ref 124), some (.int x1), none, some (.int x3)] (r.toList ++ [(.int x2)]) w1 Q) else Q (some (.int x2)) (K0, R0, I, L)) := (w_iload_n (pc' := 5) c169_4 rfl rfl).trans ((w_bipush (pc' := 7) (v := 12) c169_5 rfl rfl).trans ((w_icmp_ge (pc' := 10) c169_7 rfl).trans (ite_iff ((w_iload_n (pc' := 11) c169_10 rfl rfl).trans ((w_aload_n (pc' := 12) c169_11 rfl rfl).trans ((w_iload_n (pc' := 13) c169_12 rfl rfl).trans ((w_iload_n (pc' := 14) c169_13 rfl rfl).trans ((w_callv (pc' := 17) c169_14 mt170 rfl (Nat.le_of_ble_eq_true rfl) rfl kd_124 rfl rfl (Nat.le_of_ble_eq_true rfl) rfl rfl).trans (wp_congr (fun r w1 => wp_msk lvok169 rfl))))))) ((w_iload_n (pc' := 34) c169_33 rfl rfl).trans (w_iret c169_34 rfl)))))
theorem b169_17 {X : Nat × (Nat → Int32)} {d : Nat} {I : Nat → Nat → Int32} {L : Nat → Nat → Int64} {Q : Option Value → XW → Prop} {x1 : Int32} {x3 : Int32} {s0 : Int32} {s1 : Int32}  : wp X d m169 17 [some (.ref 124), some (.int x1), none, some (.int x3)] [(.int s1), (.int s0)] (K0, R0, I, L) Q ↔ wp X d m169 4 [some (.ref 124), some (.int x1), some (.int (if s1 = 0 then (s0 + 0) else (s0 + 1))), some (.int (x3 + 1))] [] (K0, R0, I, L) Q := (w_if_eq (pc' := 20) c169_17 rfl).trans ((ite_iff ((w_iconst (pc' := 25) (v := 0) c169_24 rfl rfl).trans ((w_iadd (pc' := 26) c169_25 rfl).trans ((w_istore_n (pc' := 27) (ls' := [some (.ref 124), some (.int x1), some (.int (s0 + 0)), some (.int x3)]) c169_26 (Nat.le_of_ble_eq_true rfl) rfl rfl).trans ((w_iinc (pc' := 30) (v := (x3 + 1)) (ls' := [some (.ref 124), some (.int x1), some (.int (s0 + 0)), some (.int (x3 + 1))]) c169_27 (Nat.le_of_ble_eq_true rfl) rfl rfl rfl rfl).trans ((w_goto c169_30)))))) ((w_iconst (pc' := 21) (v := 1) c169_20 rfl rfl).trans ((w_goto c169_21).trans ((w_iadd (pc' := 26) c169_25 rfl).trans ((w_istore_n (pc' := 27) (ls' := [some (.ref 124), some (.int x1), some (.int (s0 + 1)), some (.int x3)]) c169_26 (Nat.le_of_ble_eq_true rfl) rfl rfl).trans ((w_iinc (pc' := 30) (v := (x3 + 1)) (ls' := [some (.ref 124), some (.int x1), some (.int (s0 + 1)), some (.int (x3 + 1))]) c169_27 (Nat.le_of_ble_eq_true rfl) rfl rfl rfl rfl).trans ((w_goto c169_30)))))))).trans (ite_val (fun z => wp X d m169 4 [some (.ref 124), some (.int x1), some (.int z), some (.int (x3 + 1))] [] (K0, R0, I, L) Q)))
-- LeavesObjectModel.has(II)Z
theorem c170_0 : cdx (mC m170) 0 = some (0, .iload_n 1, 1, 1, 0, 0, 0, []) := rfl
theorem c170_1 : cdx (mC m170) 1 = some (1, .iload_n 2, 1, 2, 0, 0, 0, []) := rfl
theorem c170_2 : cdx (mC m170) 2 = some (2, .ishr, 1, 0, 0, 0, 0, []) := rfl
theorem c170_3 : cdx (mC m170) 3 = some (3, .iconst 1, 1, 0, 0, 0, 0, []) := rfl
theorem c170_4 : cdx (mC m170) 4 = some (4, .iand, 1, 0, 0, 0, 0, []) := rfl
theorem c170_5 : cdx (mC m170) 5 = some (5, .iconst 1, 1, 0, 0, 0, 0, []) := rfl
theorem c170_6 : cdx (mC m170) 6 = some (6, .if_icmp .ne 7, 3, 13, 0, 0, 0, []) := rfl
theorem c170_9 : cdx (mC m170) 9 = some (9, .iconst 1, 1, 0, 0, 0, 0, []) := rfl
theorem c170_10 : cdx (mC m170) 10 = some (10, .goto 4, 3, 14, 0, 0, 0, []) := rfl
theorem c170_13 : cdx (mC m170) 13 = some (13, .iconst 0, 1, 0, 0, 0, 0, []) := rfl
theorem c170_14 : cdx (mC m170) 14 = some (14, .ireturn, 1, 0, 0, 0, 0, []) := rfl
theorem b170_0 {X : Nat × (Nat → Int32)} {d : Nat} {I : Nat → Nat → Int32} {L : Nat → Nat → Int64} {Q : Option Value → XW → Prop} {x1 : Int32} {x2 : Int32}  : wp X d m170 0 [some (.ref 124), some (.int x1), some (.int x2)] [] (K0, R0, I, L) Q ↔ Q (some (.int (if ((x1 >>> (x2 &&& 31)) &&& (1 : Int32)) = 1 then 1 else 0))) (K0, R0, I, L) := (w_iload_n (pc' := 1) c170_0 rfl rfl).trans ((w_iload_n (pc' := 2) c170_1 rfl rfl).trans ((w_ishr (pc' := 3) c170_2 rfl).trans ((w_iconst (pc' := 4) (v := 1) c170_3 rfl rfl).trans ((w_iand (pc' := 5) c170_4 rfl).trans ((w_iconst (pc' := 6) (v := 1) c170_5 rfl rfl).trans ((w_icmp_ne (pc' := 9) c170_6 rfl).trans ((ite_iff ((w_iconst (pc' := 10) (v := 1) c170_9 rfl rfl).trans ((w_goto c170_10).trans ((w_zret (ty := .boolean) c170_14 rfl (by decide)).trans (and_iff_right (by decide))))) ((w_iconst (pc' := 14) (v := 0) c170_13 rfl rfl).trans ((w_zret (ty := .boolean) c170_14 rfl (by decide)).trans (and_iff_right (by decide))))).trans (ite_val (fun z => Q (some (.int z)) (K0, R0, I, L))))))))))
-- LeavesObjectModel.does(II)I
theorem c171_0 : cdx (mC m171) 0 = some (0, .aload_n 0, 1, 0, 0, 0, 0, []) := rfl
theorem c171_1 : cdx (mC m171) 1 = some (1, .getfield 23, 3, 10, 4, 0, 4130, []) := rfl
theorem c171_4 : cdx (mC m171) 4 = some (4, .iload_n 1, 1, 1, 0, 0, 0, []) := rfl
theorem c171_5 : cdx (mC m171) 5 = some (5, .iaload, 1, 0, 0, 0, 0, []) := rfl
theorem c171_6 : cdx (mC m171) 6 = some (6, .istore_n 3, 1, 3, 0, 0, 0, []) := rfl
theorem c171_7 : cdx (mC m171) 7 = some (7, .aload_n 0, 1, 0, 0, 0, 0, []) := rfl
theorem c171_8 : cdx (mC m171) 8 = some (8, .getfield 16, 3, 10, 2, 0, 4128, []) := rfl
theorem c171_11 : cdx (mC m171) 11 = some (11, .iload_n 1, 1, 1, 0, 0, 0, []) := rfl
theorem c171_12 : cdx (mC m171) 12 = some (12, .iaload, 1, 0, 0, 0, 0, []) := rfl
theorem c171_13 : cdx (mC m171) 13 = some (13, .tableswitch 131 1 6 #[39, 46, 54, 68, 79, 101], 39, 144, 0, 0, 0, [(1, 52), (2, 59), (3, 67), (4, 81), (5, 92), (6, 114)]) := rfl
theorem c171_52 : cdx (mC m171) 52 = some (52, .aload_n 0, 1, 0, 0, 0, 0, []) := rfl
theorem c171_53 : cdx (mC m171) 53 = some (53, .iload_n 3, 1, 3, 0, 0, 0, []) := rfl
theorem c171_54 : cdx (mC m171) 54 = some (54, .iload_n 2, 1, 2, 0, 0, 0, []) := rfl
theorem c171_55 : cdx (mC m171) 55 = some (55, .invokevirtual 304, 3, 172, 2, 0, 5207, [(10, 0)]) := rfl
theorem c171_58 : cdx (mC m171) 58 = some (58, .ireturn, 1, 0, 0, 0, 0, []) := rfl
theorem c171_59 : cdx (mC m171) 59 = some (59, .aload_n 0, 1, 0, 0, 0, 0, []) := rfl
theorem c171_60 : cdx (mC m171) 60 = some (60, .iload_n 3, 1, 3, 0, 0, 0, []) := rfl
theorem c171_61 : cdx (mC m171) 61 = some (61, .iload_n 2, 1, 2, 0, 0, 0, []) := rfl
theorem c171_62 : cdx (mC m171) 62 = some (62, .iconst 1, 1, 0, 0, 0, 0, []) := rfl
theorem c171_63 : cdx (mC m171) 63 = some (63, .invokevirtual 300, 3, 173, 3, 0, 5211, [(10, 0)]) := rfl
theorem c171_66 : cdx (mC m171) 66 = some (66, .ireturn, 1, 0, 0, 0, 0, []) := rfl
theorem c171_67 : cdx (mC m171) 67 = some (67, .aload_n 0, 1, 0, 0, 0, 0, []) := rfl
theorem c171_68 : cdx (mC m171) 68 = some (68, .aload_n 0, 1, 0, 0, 0, 0, []) := rfl
theorem c171_69 : cdx (mC m171) 69 = some (69, .iload_n 3, 1, 3, 0, 0, 0, []) := rfl
theorem c171_70 : cdx (mC m171) 70 = some (70, .iload_n 2, 1, 2, 0, 0, 0, []) := rfl
theorem c171_71 : cdx (mC m171) 71 = some (71, .iconst 0, 1, 0, 0, 0, 0, []) := rfl
theorem c171_72 : cdx (mC m171) 72 = some (72, .invokevirtual 300, 3, 173, 3, 0, 5211, [(10, 0)]) := rfl
theorem c171_75 : cdx (mC m171) 75 = some (75, .iload_n 2, 1, 2, 0, 0, 0, []) := rfl
theorem c171_76 : cdx (mC m171) 76 = some (76, .iconst 0, 1, 0, 0, 0, 0, []) := rfl
theorem c171_77 : cdx (mC m171) 77 = some (77, .invokevirtual 300, 3, 173, 3, 0, 5211, [(10, 0)]) := rfl
theorem c171_80 : cdx (mC m171) 80 = some (80, .ireturn, 1, 0, 0, 0, 0, []) := rfl
theorem c171_81 : cdx (mC m171) 81 = some (81, .aload_n 0, 1, 0, 0, 0, 0, []) := rfl
theorem c171_82 : cdx (mC m171) 82 = some (82, .iload_n 3, 1, 3, 0, 0, 0, []) := rfl
theorem c171_83 : cdx (mC m171) 83 = some (83, .iload_n 2, 1, 2, 0, 0, 0, []) := rfl
theorem c171_84 : cdx (mC m171) 84 = some (84, .invokevirtual 304, 3, 172, 2, 0, 5207, [(10, 0)]) := rfl
theorem c171_87 : cdx (mC m171) 87 = some (87, .sipush 255, 3, 0, 0, 0, 0, []) := rfl
theorem c171_90 : cdx (mC m171) 90 = some (90, .iand, 1, 0, 0, 0, 0, []) := rfl
theorem c171_91 : cdx (mC m171) 91 = some (91, .ireturn, 1, 0, 0, 0, 0, []) := rfl
theorem c171_92 : cdx (mC m171) 92 = some (92, .aload_n 0, 1, 0, 0, 0, 0, []) := rfl
theorem c171_93 : cdx (mC m171) 93 = some (93, .iload_n 3, 1, 3, 0, 0, 0, []) := rfl
theorem c171_94 : cdx (mC m171) 94 = some (94, .iload_n 2, 1, 2, 0, 0, 0, []) := rfl
theorem c171_95 : cdx (mC m171) 95 = some (95, .aload_n 0, 1, 0, 0, 0, 0, []) := rfl
theorem c171_96 : cdx (mC m171) 96 = some (96, .getfield 13, 3, 10, 1, 0, 4127, []) := rfl
theorem c171_99 : cdx (mC m171) 99 = some (99, .iconst 2, 1, 0, 0, 0, 0, []) := rfl
theorem c171_100 : cdx (mC m171) 100 = some (100, .irem, 1, 0, 0, 0, 0, []) := rfl
theorem c171_101 : cdx (mC m171) 101 = some (101, .iconst 1, 1, 0, 0, 0, 0, []) := rfl
theorem c171_102 : cdx (mC m171) 102 = some (102, .if_icmp .ne 7, 3, 109, 0, 0, 0, []) := rfl
theorem c171_105 : cdx (mC m171) 105 = some (105, .iconst 1, 1, 0, 0, 0, 0, []) := rfl
theorem c171_106 : cdx (mC m171) 106 = some (106, .goto 4, 3, 110, 0, 0, 0, []) := rfl
theorem c171_109 : cdx (mC m171) 109 = some (109, .iconst 0, 1, 0, 0, 0, 0, []) := rfl
theorem c171_110 : cdx (mC m171) 110 = some (110, .invokevirtual 300, 3, 173, 3, 0, 5211, [(10, 0)]) := rfl
theorem c171_113 : cdx (mC m171) 113 = some (113, .ireturn, 1, 0, 0, 0, 0, []) := rfl
theorem c171_114 : cdx (mC m171) 114 = some (114, .aload_n 0, 1, 0, 0, 0, 0, []) := rfl
theorem c171_115 : cdx (mC m171) 115 = some (115, .aload_n 0, 1, 0, 0, 0, 0, []) := rfl
theorem c171_116 : cdx (mC m171) 116 = some (116, .iload_n 3, 1, 3, 0, 0, 0, []) := rfl
theorem c171_117 : cdx (mC m171) 117 = some (117, .iload_n 2, 1, 2, 0, 0, 0, []) := rfl
theorem c171_118 : cdx (mC m171) 118 = some (118, .iconst 0, 1, 0, 0, 0, 0, []) := rfl
theorem c171_119 : cdx (mC m171) 119 = some (119, .invokevirtual 300, 3, 173, 3, 0, 5211, [(10, 0)]) := rfl
theorem c171_122 : cdx (mC m171) 122 = some (122, .iload_n 2, 1, 2, 0, 0, 0, []) := rfl
theorem c171_123 : cdx (mC m171) 123 = some (123, .iconst 0, 1, 0, 0, 0, 0, []) := rfl
theorem c171_124 : cdx (mC m171) 124 = some (124, .invokevirtual 300, 3, 173, 3, 0, 5211, [(10, 0)]) := rfl
theorem c171_127 : cdx (mC m171) 127 = some (127, .aload_n 0, 1, 0, 0, 0, 0, []) := rfl
theorem c171_128 : cdx (mC m171) 128 = some (128, .getfield 32, 3, 10, 7, 0, 4133, []) := rfl
theorem c171_131 : cdx (mC m171) 131 = some (131, .iconst 4, 1, 0, 0, 0, 0, []) := rfl
theorem c171_132 : cdx (mC m171) 132 = some (132, .iload_n 1, 1, 1, 0, 0, 0, []) := rfl
theorem c171_133 : cdx (mC m171) 133 = some (133, .imul, 1, 0, 0, 0, 0, []) := rfl
theorem c171_134 : cdx (mC m171) 134 = some (134, .aload_n 0, 1, 0, 0, 0, 0, []) := rfl
theorem c171_135 : cdx (mC m171) 135 = some (135, .getfield 13, 3, 10, 1, 0, 4127, []) := rfl
theorem c171_138 : cdx (mC m171) 138 = some (138, .iconst 4, 1, 0, 0, 0, 0, []) := rfl
theorem c171_139 : cdx (mC m171) 139 = some (139, .irem, 1, 0, 0, 0, 0, []) := rfl
theorem c171_140 : cdx (mC m171) 140 = some (140, .iadd, 1, 0, 0, 0, 0, []) := rfl
theorem c171_141 : cdx (mC m171) 141 = some (141, .iaload, 1, 0, 0, 0, 0, []) := rfl
theorem c171_142 : cdx (mC m171) 142 = some (142, .ior, 1, 0, 0, 0, 0, []) := rfl
theorem c171_143 : cdx (mC m171) 143 = some (143, .ireturn, 1, 0, 0, 0, 0, []) := rfl
theorem c171_144 : cdx (mC m171) 144 = some (144, .aload_n 0, 1, 0, 0, 0, 0, []) := rfl
theorem c171_145 : cdx (mC m171) 145 = some (145, .iload_n 3, 1, 3, 0, 0, 0, []) := rfl
theorem c171_146 : cdx (mC m171) 146 = some (146, .iload_n 2, 1, 2, 0, 0, 0, []) := rfl
theorem c171_147 : cdx (mC m171) 147 = some (147, .iconst 0, 1, 0, 0, 0, 0, []) := rfl
theorem c171_148 : cdx (mC m171) 148 = some (148, .invokevirtual 300, 3, 173, 3, 0, 5211, [(10, 0)]) := rfl
set_option maxRecDepth 20000 in
theorem c171_151 : cdx (mC m171) 151 = some (151, .ireturn, 1, 0, 0, 0, 0, []) := rfl
def lv171 : List (Nat × List Nat) := [(0, [0, 1, 2]), (1, [0, 1, 2]), (4, [0, 1, 2]), (5, [0, 1, 2]), (6, [0, 1, 2]), (7, [0, 1, 2, 3]), (8, [0, 1, 2, 3]), (11, [0, 1, 2, 3]), (12, [0, 1, 2, 3]), (13, [0, 1, 2, 3]), (52, [0, 2, 3]), (53, [2, 3]), (54, [2]), (59, [0, 2, 3]), (60, [2, 3]), (61, [2]), (67, [0, 2, 3]), (68, [0, 2, 3]), (69, [2, 3]), (70, [2]), (71, [2]), (72, [2]), (75, [2]), (81, [0, 2, 3]), (82, [2, 3]), (83, [2]), (92, [0, 2, 3]), (93, [0, 2, 3]), (94, [0, 2]), (95, [0]), (114, [0, 1, 2, 3]), (115, [0, 1, 2, 3]), (116, [0, 1, 2, 3]), (117, [0, 1, 2]), (118, [0, 1, 2]), (119, [0, 1, 2]), (122, [0, 1, 2]), (123, [0, 1]), (124, [0, 1]), (127, [0, 1]), (128, [0, 1]), (131, [0, 1]), (132, [0, 1]), (133, [0]), (134, [0]), (144, [0, 2, 3]), (145, [2, 3]), (146, [2])]
theorem lvok171 : lvOk (mC m171) lv171 = true := by decide +kernel
theorem b171_0 {X : Nat × (Nat → Int32)} {d : Nat} {I : Nat → Nat → Int32} {L : Nat → Nat → Int64} {Q : Option Value → XW → Prop} {x1 : Int32} {x2 : Int32}  : wp X (d + 1) m171 0 [some (.ref 124), some (.int x1), some (.int x2), none] [] (K0, R0, I, L) Q ↔ (inA x1 5 = true ∧ (inA x1 5 = true ∧ (if (I 125 (Int32.toNatClampNeg x1)) = 1 then wp X d m172 0 [some (.ref 124), some (.int (I 127 (Int32.toNatClampNeg x1))), some (.int x2)] [] (K0, R0, I, L) (fun r w1 => wp X (d + 1) m171 58 [none, none, none, none] (r.toList ++ []) w1 Q) else (if (I 125 (Int32.toNatClampNeg x1)) = 2 then wp X d m173 0 [some (.ref 124), some (.int (I 127 (Int32.toNatClampNeg x1))), some (.int x2), some (.int 1)] [] (K0, R0, I, L) (fun r w1 => wp X (d + 1) m171 66 [none, none, none, none] (r.toList ++ []) w1 Q) else (if (I 125 (Int32.toNatClampNeg x1)) = 3 then wp X d m173 0 [some (.ref 124), some (.int (I 127 (Int32.toNatClampNeg x1))), some (.int x2), some (.int 0)] [] (K0, R0, I, L) (fun r w1 => wp X (d + 1) m171 75 [none, none, some (.int x2), none] (r.toList ++ [(.ref 124)]) w1 Q) else (if (I 125 (Int32.toNatClampNeg x1)) = 4 then wp X d m172 0 [some (.ref 124), some (.int (I 127 (Int32.toNatClampNeg x1))), some (.int x2)] [] (K0, R0, I, L) (fun r w1 => wp X (d + 1) m171 87 [none, none, none, none] (r.toList ++ []) w1 Q) else (if (I 125 (Int32.toNatClampNeg x1)) = 5 then (if ((I 124 1) - (I 124 1) / 2 * 2) = 1 then wp X d m173 0 [some (.ref 124), some (.int (I 127 (Int32.toNatClampNeg x1))), some (.int x2), some (.int 1)] [] (K0, R0, I, L) (fun r w1 => wp X (d + 1) m171 113 [none, none, none, none] (r.toList ++ []) w1 Q) else wp X d m173 0 [some (.ref 124), some (.int (I 127 (Int32.toNatClampNeg x1))), some (.int x2), some (.int 0)] [] (K0, R0, I, L) (fun r w1 => wp X (d + 1) m171 113 [none, none, none, none] (r.toList ++ []) w1 Q)) else (if (I 125 (Int32.toNatClampNeg x1)) = 6 then wp X d m173 0 [some (.ref 124), some (.int (I 127 (Int32.toNatClampNeg x1))), some (.int x2), some (.int 0)] [] (K0, R0, I, L) (fun r w1 => wp X (d + 1) m171 122 [some (.ref 124), some (.int x1), some (.int x2), none] (r.toList ++ [(.ref 124)]) w1 Q) else wp X d m173 0 [some (.ref 124), some (.int (I 127 (Int32.toNatClampNeg x1))), some (.int x2), some (.int 0)] [] (K0, R0, I, L) (fun r w1 => wp X (d + 1) m171 151 [none, none, none, none] (r.toList ++ []) w1 Q))))))))) := (w_aload_n (pc' := 1) c171_0 rfl rfl).trans ((w_getR (pc' := 4) (q := 127) c171_1 kd_124 (by decide) rfl rd_124_4 rfl).trans ((w_iload_n (pc' := 5) c171_4 rfl rfl).trans ((w_ialdv (pc' := 6) (v := (I 127 (Int32.toNatClampNeg x1))) c171_5 kd_127 (rfl) rfl).trans (and_congr_right (fun _ => (w_istore_n (pc' := 7) (ls' := [some (.ref 124), some (.int x1), some (.int x2), some (.int (I 127 (Int32.toNatClampNeg x1)))]) c171_6 (Nat.le_of_ble_eq_true rfl) rfl rfl).trans ((w_aload_n (pc' := 8) c171_7 rfl rfl).trans ((w_getR (pc' := 11) (q := 125) c171_8 kd_124 (by decide) rfl rd_124_2 rfl).trans ((w_iload_n (pc' := 12) c171_11 rfl rfl).trans ((w_ialdv (pc' := 13) (v := (I 125 (Int32.toNatClampNeg x1))) c171_12 kd_125 (rfl) rfl).trans (and_congr_right (fun _ => (w_tswitch c171_13).trans ((w_swcons (v := 1) rfl).trans (ite_iff ((w_aload_n (pc' := 53) c171_52 rfl rfl).trans ((w_iload_n (pc' := 54) c171_53 rfl rfl).trans ((w_iload_n (pc' := 55) c171_54 rfl rfl).trans ((w_callv (pc' := 58) c171_55 mt172 rfl (Nat.le_of_ble_eq_true rfl) rfl kd_124 rfl rfl (Nat.le_of_ble_eq_true rfl) rfl rfl).trans (wp_congr (fun r w1 => wp_msk lvok171 rfl)))))) ((w_swcons (v := 2) rfl).trans (ite_iff ((w_aload_n (pc' := 60) c171_59 rfl rfl).trans ((w_iload_n (pc' := 61) c171_60 rfl rfl).trans ((w_iload_n (pc' := 62) c171_61 rfl rfl).trans ((w_iconst (pc' := 63) (v := 1) c171_62 rfl rfl).trans ((w_callv (pc' := 66) c171_63 mt173 rfl (Nat.le_of_ble_eq_true rfl) rfl kd_124 rfl rfl (Nat.le_of_ble_eq_true rfl) rfl rfl).trans (wp_congr (fun r w1 => wp_msk lvok171 rfl))))))) ((w_swcons (v := 3) rfl).trans (ite_iff ((w_aload_n (pc' := 68) c171_67 rfl rfl).trans ((w_aload_n (pc' := 69) c171_68 rfl rfl).trans ((w_iload_n (pc' := 70) c171_69 rfl rfl).trans ((w_iload_n (pc' := 71) c171_70 rfl rfl).trans ((w_iconst (pc' := 72) (v := 0) c171_71 rfl rfl).trans ((w_callv (pc' := 75) c171_72 mt173 rfl (Nat.le_of_ble_eq_true rfl) rfl kd_124 rfl rfl (Nat.le_of_ble_eq_true rfl) rfl rfl).trans (wp_congr (fun r w1 => wp_msk lvok171 rfl)))))))) ((w_swcons (v := 4) rfl).trans (ite_iff ((w_aload_n (pc' := 82) c171_81 rfl rfl).trans ((w_iload_n (pc' := 83) c171_82 rfl rfl).trans ((w_iload_n (pc' := 84) c171_83 rfl rfl).trans ((w_callv (pc' := 87) c171_84 mt172 rfl (Nat.le_of_ble_eq_true rfl) rfl kd_124 rfl rfl (Nat.le_of_ble_eq_true rfl) rfl rfl).trans (wp_congr (fun r w1 => wp_msk lvok171 rfl)))))) ((w_swcons (v := 5) rfl).trans (ite_iff ((w_aload_n (pc' := 93) c171_92 rfl rfl).trans ((w_iload_n (pc' := 94) c171_93 rfl rfl).trans ((w_iload_n (pc' := 95) c171_94 rfl rfl).trans ((w_aload_n (pc' := 96) c171_95 rfl rfl).trans ((w_getIv (pc' := 99) (v := (I 124 1)) c171_96 kd_124 (by decide) rfl (rfl) rfl).trans ((w_iconst (pc' := 100) (v := 2) c171_99 rfl rfl).trans (((w_irem (pc' := 101) c171_100 rfl).trans (and_iff_right (by decide))).trans ((w_iconst (pc' := 102) (v := 1) c171_101 rfl rfl).trans ((w_icmp_ne (pc' := 105) c171_102 rfl).trans (ite_iff ((w_iconst (pc' := 106) (v := 1) c171_105 rfl rfl).trans ((w_goto c171_106).trans ((w_callv (pc' := 113) c171_110 mt173 rfl (Nat.le_of_ble_eq_true rfl) rfl kd_124 rfl rfl (Nat.le_of_ble_eq_true rfl) rfl rfl).trans (wp_congr (fun r w1 => wp_msk lvok171 rfl))))) ((w_iconst (pc' := 110) (v := 0) c171_109 rfl rfl).trans ((w_callv (pc' := 113) c171_110 mt173 rfl (Nat.le_of_ble_eq_true rfl) rfl kd_124 rfl rfl (Nat.le_of_ble_eq_true rfl) rfl rfl).trans (wp_congr (fun r w1 => wp_msk lvok171 rfl)))))))))))))) ((w_swcons (v := 6) rfl).trans (ite_iff ((w_aload_n (pc' := 115) c171_114 rfl rfl).trans ((w_aload_n (pc' := 116) c171_115 rfl rfl).trans ((w_iload_n (pc' := 117) c171_116 rfl rfl).trans ((w_iload_n (pc' := 118) c171_117 rfl rfl).trans ((w_iconst (pc' := 119) (v := 0) c171_118 rfl rfl).trans ((w_callv (pc' := 122) c171_119 mt173 rfl (Nat.le_of_ble_eq_true rfl) rfl kd_124 rfl rfl (Nat.le_of_ble_eq_true rfl) rfl rfl).trans (wp_congr (fun r w1 => wp_msk lvok171 rfl)))))))) ((w_swnil).trans ((w_aload_n (pc' := 145) c171_144 rfl rfl).trans ((w_iload_n (pc' := 146) c171_145 rfl rfl).trans ((w_iload_n (pc' := 147) c171_146 rfl rfl).trans ((w_iconst (pc' := 148) (v := 0) c171_147 rfl rfl).trans ((w_callv (pc' := 151) c171_148 mt173 rfl (Nat.le_of_ble_eq_true rfl) rfl kd_124 rfl rfl (Nat.le_of_ble_eq_true rfl) rfl rfl).trans (wp_congr (fun r w1 => wp_msk lvok171 rfl)))))))))))))))))))))))))))))))
theorem b171_58 {X : Nat × (Nat → Int32)} {d : Nat} {I : Nat → Nat → Int32} {L : Nat → Nat → Int64} {Q : Option Value → XW → Prop} {s0 : Int32}  : wp X d m171 58 [none, none, none, none] [(.int s0)] (K0, R0, I, L) Q ↔ Q (some (.int s0)) (K0, R0, I, L) := w_iret c171_58 rfl
theorem b171_66 {X : Nat × (Nat → Int32)} {d : Nat} {I : Nat → Nat → Int32} {L : Nat → Nat → Int64} {Q : Option Value → XW → Prop} {s0 : Int32}  : wp X d m171 66 [none, none, none, none] [(.int s0)] (K0, R0, I, L) Q ↔ Q (some (.int s0)) (K0, R0, I, L) := w_iret c171_66 rfl
theorem b171_75 {X : Nat × (Nat → Int32)} {d : Nat} {I : Nat → Nat → Int32} {L : Nat → Nat → Int64} {Q : Option Value → XW → Prop} {x2 : Int32} {s1 : Int32}  : wp X (d + 1) m171 75 [none, none, some (.int x2), none] [(.int s1), (.ref 124)] (K0, R0, I, L) Q ↔ wp X d m173 0 [some (.ref 124), some (.int s1), some (.int x2), some (.int 0)] [] (K0, R0, I, L) (fun r w1 => wp X (d + 1) m171 80 [none, none, none, none] (r.toList ++ []) w1 Q) := (w_iload_n (pc' := 76) c171_75 rfl rfl).trans ((w_iconst (pc' := 77) (v := 0) c171_76 rfl rfl).trans ((w_callv (pc' := 80) c171_77 mt173 rfl (Nat.le_of_ble_eq_true rfl) rfl kd_124 rfl rfl (Nat.le_of_ble_eq_true rfl) rfl rfl).trans (wp_congr (fun r w1 => wp_msk lvok171 rfl))))
theorem b171_87 {X : Nat × (Nat → Int32)} {d : Nat} {I : Nat → Nat → Int32} {L : Nat → Nat → Int64} {Q : Option Value → XW → Prop} {s0 : Int32}  : wp X d m171 87 [none, none, none, none] [(.int s0)] (K0, R0, I, L) Q ↔ Q (some (.int (s0 &&& (255 : Int32)))) (K0, R0, I, L) := (w_sipush (pc' := 90) (v := 255) c171_87 rfl rfl).trans ((w_iand (pc' := 91) c171_90 rfl).trans (w_iret c171_91 rfl))
theorem b171_113 {X : Nat × (Nat → Int32)} {d : Nat} {I : Nat → Nat → Int32} {L : Nat → Nat → Int64} {Q : Option Value → XW → Prop} {s0 : Int32}  : wp X d m171 113 [none, none, none, none] [(.int s0)] (K0, R0, I, L) Q ↔ Q (some (.int s0)) (K0, R0, I, L) := w_iret c171_113 rfl
theorem b171_122 {X : Nat × (Nat → Int32)} {d : Nat} {I : Nat → Nat → Int32} {L : Nat → Nat → Int64} {Q : Option Value → XW → Prop} {x1 : Int32} {x2 : Int32} {s1 : Int32}  : wp X (d + 1) m171 122 [some (.ref 124), some (.int x1), some (.int x2), none] [(.int s1), (.ref 124)] (K0, R0, I, L) Q ↔ wp X d m173 0 [some (.ref 124), some (.int s1), some (.int x2), some (.int 0)] [] (K0, R0, I, L) (fun r w1 => wp X (d + 1) m171 127 [some (.ref 124), some (.int x1), none, none] (r.toList ++ []) w1 Q) := (w_iload_n (pc' := 123) c171_122 rfl rfl).trans ((w_iconst (pc' := 124) (v := 0) c171_123 rfl rfl).trans ((w_callv (pc' := 127) c171_124 mt173 rfl (Nat.le_of_ble_eq_true rfl) rfl kd_124 rfl rfl (Nat.le_of_ble_eq_true rfl) rfl rfl).trans (wp_congr (fun r w1 => wp_msk lvok171 rfl))))
theorem b171_151 {X : Nat × (Nat → Int32)} {d : Nat} {I : Nat → Nat → Int32} {L : Nat → Nat → Int64} {Q : Option Value → XW → Prop} {s0 : Int32}  : wp X d m171 151 [none, none, none, none] [(.int s0)] (K0, R0, I, L) Q ↔ Q (some (.int s0)) (K0, R0, I, L) := w_iret c171_151 rfl
theorem b171_80 {X : Nat × (Nat → Int32)} {d : Nat} {I : Nat → Nat → Int32} {L : Nat → Nat → Int64} {Q : Option Value → XW → Prop} {s0 : Int32}  : wp X d m171 80 [none, none, none, none] [(.int s0)] (K0, R0, I, L) Q ↔ Q (some (.int s0)) (K0, R0, I, L) := w_iret c171_80 rfl
theorem b171_127 {X : Nat × (Nat → Int32)} {d : Nat} {I : Nat → Nat → Int32} {L : Nat → Nat → Int64} {Q : Option Value → XW → Prop} {x1 : Int32} {s0 : Int32}  : wp X d m171 127 [some (.ref 124), some (.int x1), none, none] [(.int s0)] (K0, R0, I, L) Q ↔ (inA ((4 * x1) + ((I 124 1) - (I 124 1) / 4 * 4)) 20 = true ∧ Q (some (.int (s0 ||| (I 130 (Int32.toNatClampNeg ((4 * x1) + ((I 124 1) - (I 124 1) / 4 * 4))))))) (K0, R0, I, L)) := (w_aload_n (pc' := 128) c171_127 rfl rfl).trans ((w_getR (pc' := 131) (q := 130) c171_128 kd_124 (by decide) rfl rd_124_7 rfl).trans ((w_iconst (pc' := 132) (v := 4) c171_131 rfl rfl).trans ((w_iload_n (pc' := 133) c171_132 rfl rfl).trans ((w_imul (pc' := 134) c171_133 rfl).trans ((w_aload_n (pc' := 135) c171_134 rfl rfl).trans ((w_getIv (pc' := 138) (v := (I 124 1)) c171_135 kd_124 (by decide) rfl (rfl) rfl).trans ((w_iconst (pc' := 139) (v := 4) c171_138 rfl rfl).trans (((w_irem (pc' := 140) c171_139 rfl).trans (and_iff_right (by decide))).trans ((w_iadd (pc' := 141) c171_140 rfl).trans ((w_ialdv (pc' := 142) (v := (I 130 (Int32.toNatClampNeg ((4 * x1) + ((I 124 1) - (I 124 1) / 4 * 4))))) c171_141 kd_130 (rfl) rfl).trans (and_congr_right (fun _ => (w_ior (pc' := 143) c171_142 rfl).trans (w_iret c171_143 rfl)))))))))))))
-- LeavesObjectModel.shyly(II)I
theorem c172_0 : cdx (mC m172) 0 = some (0, .aload_n 0, 1, 0, 0, 0, 0, []) := rfl
theorem c172_1 : cdx (mC m172) 1 = some (1, .iload_n 1, 1, 1, 0, 0, 0, []) := rfl
theorem c172_2 : cdx (mC m172) 2 = some (2, .invokevirtual 276, 3, 169, 1, 0, 5195, [(10, 0)]) := rfl
theorem c172_5 : cdx (mC m172) 5 = some (5, .bipush 6, 2, 0, 0, 0, 0, []) := rfl
theorem c172_7 : cdx (mC m172) 7 = some (7, .if_icmp .le 7, 3, 14, 0, 0, 0, []) := rfl
theorem c172_10 : cdx (mC m172) 10 = some (10, .iload_n 1, 1, 1, 0, 0, 0, []) := rfl
theorem c172_11 : cdx (mC m172) 11 = some (11, .goto 10, 3, 21, 0, 0, 0, []) := rfl
theorem c172_14 : cdx (mC m172) 14 = some (14, .aload_n 0, 1, 0, 0, 0, 0, []) := rfl
theorem c172_15 : cdx (mC m172) 15 = some (15, .iload_n 1, 1, 1, 0, 0, 0, []) := rfl
theorem c172_16 : cdx (mC m172) 16 = some (16, .iload_n 2, 1, 2, 0, 0, 0, []) := rfl
theorem c172_17 : cdx (mC m172) 17 = some (17, .iconst 0, 1, 0, 0, 0, 0, []) := rfl
theorem c172_18 : cdx (mC m172) 18 = some (18, .invokevirtual 300, 3, 173, 3, 0, 5211, [(10, 0)]) := rfl
theorem c172_21 : cdx (mC m172) 21 = some (21, .ireturn, 1, 0, 0, 0, 0, []) := rfl
def lv172 : List (Nat × List Nat) := [(0, [0, 1, 2]), (1, [0, 1, 2]), (2, [0, 1, 2]), (5, [0, 1, 2]), (7, [0, 1, 2]), (10, [1]), (14, [0, 1, 2]), (15, [1, 2]), (16, [2])]
theorem lvok172 : lvOk (mC m172) lv172 = true := by decide +kernel
theorem b172_0 {X : Nat × (Nat → Int32)} {d : Nat} {I : Nat → Nat → Int32} {L : Nat → Nat → Int64} {Q : Option Value → XW → Prop} {x1 : Int32} {x2 : Int32}  : wp X (d + 1) m172 0 [some (.ref 124), some (.int x1), some (.int x2)] [] (K0, R0, I, L) Q ↔ wp X d m169 0 [some (.ref 124), some (.int x1), none, none] [] (K0, R0, I, L) (fun r w1 => wp X (d + 1) m172 5 [some (.ref 124), some (.int x1), some (.int x2)] (r.toList ++ []) w1 Q) := (w_aload_n (pc' := 1) c172_0 rfl rfl).trans ((w_iload_n (pc' := 2) c172_1 rfl rfl).trans ((w_callv (pc' := 5) c172_2 mt169 rfl (Nat.le_of_ble_eq_true rfl) rfl kd_124 rfl rfl (Nat.le_of_ble_eq_true rfl) rfl rfl)))
theorem b172_5 {X : Nat × (Nat → Int32)} {d : Nat} {I : Nat → Nat → Int32} {L : Nat → Nat → Int64} {Q : Option Value → XW → Prop} {x1 : Int32} {x2 : Int32} {s0 : Int32}  : wp X (d + 1) m172 5 [some (.ref 124), some (.int x1), some (.int x2)] [(.int s0)] (K0, R0, I, L) Q ↔ (if 6 < s0 then wp X (d + 1) m172 21 [none, none, none] [(.int x1)] (K0, R0, I, L) Q else wp X d m173 0 [some (.ref 124), some (.int x1), some (.int x2), some (.int 0)] [] (K0, R0, I, L) (fun r w1 => wp X (d + 1) m172 21 [none, none, none] (r.toList ++ []) w1 Q)) := (w_bipush (pc' := 7) (v := 6) c172_5 rfl rfl).trans ((w_icmp_le (pc' := 10) c172_7 rfl).trans (ite_iff ((w_iload_n (pc' := 11) c172_10 rfl rfl).trans ((w_goto c172_11).trans ((wp_msk lvok172 rfl)))) ((w_aload_n (pc' := 15) c172_14 rfl rfl).trans ((w_iload_n (pc' := 16) c172_15 rfl rfl).trans ((w_iload_n (pc' := 17) c172_16 rfl rfl).trans ((w_iconst (pc' := 18) (v := 0) c172_17 rfl rfl).trans ((w_callv (pc' := 21) c172_18 mt173 rfl (Nat.le_of_ble_eq_true rfl) rfl kd_124 rfl rfl (Nat.le_of_ble_eq_true rfl) rfl rfl).trans (wp_congr (fun r w1 => wp_msk lvok172 rfl)))))))))
theorem b172_21 {X : Nat × (Nat → Int32)} {d : Nat} {I : Nat → Nat → Int32} {L : Nat → Nat → Int64} {Q : Option Value → XW → Prop} {s0 : Int32}  : wp X d m172 21 [none, none, none] [(.int s0)] (K0, R0, I, L) Q ↔ Q (some (.int s0)) (K0, R0, I, L) := w_iret c172_21 rfl
-- LeavesObjectModel.plainly(IIZ)I
theorem c173_0 : cdx (mC m173) 0 = some (0, .iload_n 2, 1, 2, 0, 0, 0, []) := rfl
theorem c173_1 : cdx (mC m173) 1 = some (1, .tableswitch 57 0 2 #[27, 34, 41], 27, 58, 0, 0, 0, [(0, 28), (1, 35), (2, 42)]) := rfl
theorem c173_28 : cdx (mC m173) 28 = some (28, .aload_n 0, 1, 0, 0, 0, 0, []) := rfl
theorem c173_29 : cdx (mC m173) 29 = some (29, .iload_n 1, 1, 1, 0, 0, 0, []) := rfl
theorem c173_30 : cdx (mC m173) 30 = some (30, .iload_n 3, 1, 3, 0, 0, 0, []) := rfl
theorem c173_31 : cdx (mC m173) 31 = some (31, .invokevirtual 290, 3, 174, 2, 0, 5215, [(10, 0)]) := rfl
theorem c173_34 : cdx (mC m173) 34 = some (34, .ireturn, 1, 0, 0, 0, 0, []) := rfl
theorem c173_35 : cdx (mC m173) 35 = some (35, .aload_n 0, 1, 0, 0, 0, 0, []) := rfl
theorem c173_36 : cdx (mC m173) 36 = some (36, .iload_n 1, 1, 1, 0, 0, 0, []) := rfl
theorem c173_37 : cdx (mC m173) 37 = some (37, .iload_n 3, 1, 3, 0, 0, 0, []) := rfl
theorem c173_38 : cdx (mC m173) 38 = some (38, .invokevirtual 294, 3, 175, 2, 0, 5219, [(10, 0)]) := rfl
theorem c173_41 : cdx (mC m173) 41 = some (41, .ireturn, 1, 0, 0, 0, 0, []) := rfl
theorem c173_42 : cdx (mC m173) 42 = some (42, .aload_n 0, 1, 0, 0, 0, 0, []) := rfl
theorem c173_43 : cdx (mC m173) 43 = some (43, .iload_n 1, 1, 1, 0, 0, 0, []) := rfl
theorem c173_44 : cdx (mC m173) 44 = some (44, .iconst 0, 1, 0, 0, 0, 0, []) := rfl
theorem c173_45 : cdx (mC m173) 45 = some (45, .iload_n 3, 1, 3, 0, 0, 0, []) := rfl
theorem c173_46 : cdx (mC m173) 46 = some (46, .ifCond .eq 7, 3, 53, 0, 0, 0, []) := rfl
theorem c173_49 : cdx (mC m173) 49 = some (49, .iconst 3, 1, 0, 0, 0, 0, []) := rfl
theorem c173_50 : cdx (mC m173) 50 = some (50, .goto 4, 3, 54, 0, 0, 0, []) := rfl
theorem c173_53 : cdx (mC m173) 53 = some (53, .iconst 1, 1, 0, 0, 0, 0, []) := rfl
theorem c173_54 : cdx (mC m173) 54 = some (54, .invokevirtual 297, 3, 177, 3, 0, 5227, [(10, 0)]) := rfl
theorem c173_57 : cdx (mC m173) 57 = some (57, .ireturn, 1, 0, 0, 0, 0, []) := rfl
theorem c173_58 : cdx (mC m173) 58 = some (58, .aload_n 0, 1, 0, 0, 0, 0, []) := rfl
theorem c173_59 : cdx (mC m173) 59 = some (59, .iload_n 1, 1, 1, 0, 0, 0, []) := rfl
theorem c173_60 : cdx (mC m173) 60 = some (60, .iload_n 3, 1, 3, 0, 0, 0, []) := rfl
theorem c173_61 : cdx (mC m173) 61 = some (61, .ifCond .eq 7, 3, 68, 0, 0, 0, []) := rfl
theorem c173_64 : cdx (mC m173) 64 = some (64, .iconst 2, 1, 0, 0, 0, 0, []) := rfl
theorem c173_65 : cdx (mC m173) 65 = some (65, .goto 4, 3, 69, 0, 0, 0, []) := rfl
theorem c173_68 : cdx (mC m173) 68 = some (68, .iconst 1, 1, 0, 0, 0, 0, []) := rfl
theorem c173_69 : cdx (mC m173) 69 = some (69, .iconst 0, 1, 0, 0, 0, 0, []) := rfl
theorem c173_70 : cdx (mC m173) 70 = some (70, .invokevirtual 297, 3, 177, 3, 0, 5227, [(10, 0)]) := rfl
theorem c173_73 : cdx (mC m173) 73 = some (73, .ireturn, 1, 0, 0, 0, 0, []) := rfl
def lv173 : List (Nat × List Nat) := [(0, [0, 1, 2, 3]), (1, [0, 1, 3]), (28, [0, 1, 3]), (29, [1, 3]), (30, [3]), (35, [0, 1, 3]), (36, [1, 3]), (37, [3]), (42, [0, 1, 3]), (43, [1, 3]), (44, [3]), (45, [3]), (58, [0, 1, 3]), (59, [1, 3]), (60, [3])]
theorem lvok173 : lvOk (mC m173) lv173 = true := by decide +kernel
theorem b173_0 {X : Nat × (Nat → Int32)} {d : Nat} {I : Nat → Nat → Int32} {L : Nat → Nat → Int64} {Q : Option Value → XW → Prop} {x1 : Int32} {x2 : Int32} {x3 : Int32}  : wp X (d + 1) m173 0 [some (.ref 124), some (.int x1), some (.int x2), some (.int x3)] [] (K0, R0, I, L) Q ↔ (if x2 = 0 then wp X d m174 0 [some (.ref 124), some (.int x1), some (.int x3), none, none] [] (K0, R0, I, L) (fun r w1 => wp X (d + 1) m173 34 [none, none, none, none] (r.toList ++ []) w1 Q) else (if x2 = 1 then wp X d m175 0 [some (.ref 124), some (.int x1), some (.int x3), none, none, none, none] [] (K0, R0, I, L) (fun r w1 => wp X (d + 1) m173 41 [none, none, none, none] (r.toList ++ []) w1 Q) else (if x2 = 2 then (if x3 = 0 then wp X d m177 0 [some (.ref 124), some (.int x1), some (.int 0), some (.int 1), none, none] [] (K0, R0, I, L) (fun r w1 => wp X (d + 1) m173 57 [none, none, none, none] (r.toList ++ []) w1 Q) else wp X d m177 0 [some (.ref 124), some (.int x1), some (.int 0), some (.int 3), none, none] [] (K0, R0, I, L) (fun r w1 => wp X (d + 1) m173 57 [none, none, none, none] (r.toList ++ []) w1 Q)) else (if x3 = 0 then wp X d m177 0 [some (.ref 124), some (.int x1), some (.int 1), some (.int 0), none, none] [] (K0, R0, I, L) (fun r w1 => wp X (d + 1) m173 73 [none, none, none, none] (r.toList ++ []) w1 Q) else wp X d m177 0 [some (.ref 124), some (.int x1), some (.int 2), some (.int 0), none, none] [] (K0, R0, I, L) (fun r w1 => wp X (d + 1) m173 73 [none, none, none, none] (r.toList ++ []) w1 Q))))) := (w_iload_n (pc' := 1) c173_0 rfl rfl).trans ((w_tswitch c173_1).trans ((w_swcons (v := 0) rfl).trans (ite_iff ((w_aload_n (pc' := 29) c173_28 rfl rfl).trans ((w_iload_n (pc' := 30) c173_29 rfl rfl).trans ((w_iload_n (pc' := 31) c173_30 rfl rfl).trans ((w_callv (pc' := 34) c173_31 mt174 rfl (Nat.le_of_ble_eq_true rfl) rfl kd_124 rfl rfl (Nat.le_of_ble_eq_true rfl) rfl rfl).trans (wp_congr (fun r w1 => wp_msk lvok173 rfl)))))) ((w_swcons (v := 1) rfl).trans (ite_iff ((w_aload_n (pc' := 36) c173_35 rfl rfl).trans ((w_iload_n (pc' := 37) c173_36 rfl rfl).trans ((w_iload_n (pc' := 38) c173_37 rfl rfl).trans ((w_callv (pc' := 41) c173_38 mt175 rfl (Nat.le_of_ble_eq_true rfl) rfl kd_124 rfl rfl (Nat.le_of_ble_eq_true rfl) rfl rfl).trans (wp_congr (fun r w1 => wp_msk lvok173 rfl)))))) ((w_swcons (v := 2) rfl).trans (ite_iff ((w_aload_n (pc' := 43) c173_42 rfl rfl).trans ((w_iload_n (pc' := 44) c173_43 rfl rfl).trans ((w_iconst (pc' := 45) (v := 0) c173_44 rfl rfl).trans ((w_iload_n (pc' := 46) c173_45 rfl rfl).trans ((w_if_eq (pc' := 49) c173_46 rfl).trans (ite_iff ((w_iconst (pc' := 54) (v := 1) c173_53 rfl rfl).trans ((w_callv (pc' := 57) c173_54 mt177 rfl (Nat.le_of_ble_eq_true rfl) rfl kd_124 rfl rfl (Nat.le_of_ble_eq_true rfl) rfl rfl).trans (wp_congr (fun r w1 => wp_msk lvok173 rfl)))) ((w_iconst (pc' := 50) (v := 3) c173_49 rfl rfl).trans ((w_goto c173_50).trans ((w_callv (pc' := 57) c173_54 mt177 rfl (Nat.le_of_ble_eq_true rfl) rfl kd_124 rfl rfl (Nat.le_of_ble_eq_true rfl) rfl rfl).trans (wp_congr (fun r w1 => wp_msk lvok173 rfl))))))))))) ((w_swnil).trans ((w_aload_n (pc' := 59) c173_58 rfl rfl).trans ((w_iload_n (pc' := 60) c173_59 rfl rfl).trans ((w_iload_n (pc' := 61) c173_60 rfl rfl).trans ((w_if_eq (pc' := 64) c173_61 rfl).trans (ite_iff ((w_iconst (pc' := 69) (v := 1) c173_68 rfl rfl).trans ((w_iconst (pc' := 70) (v := 0) c173_69 rfl rfl).trans ((w_callv (pc' := 73) c173_70 mt177 rfl (Nat.le_of_ble_eq_true rfl) rfl kd_124 rfl rfl (Nat.le_of_ble_eq_true rfl) rfl rfl).trans (wp_congr (fun r w1 => wp_msk lvok173 rfl))))) ((w_iconst (pc' := 65) (v := 2) c173_64 rfl rfl).trans ((w_goto c173_65).trans ((w_iconst (pc' := 70) (v := 0) c173_69 rfl rfl).trans ((w_callv (pc' := 73) c173_70 mt177 rfl (Nat.le_of_ble_eq_true rfl) rfl kd_124 rfl rfl (Nat.le_of_ble_eq_true rfl) rfl rfl).trans (wp_congr (fun r w1 => wp_msk lvok173 rfl)))))))))))))))))))
theorem b173_34 {X : Nat × (Nat → Int32)} {d : Nat} {I : Nat → Nat → Int32} {L : Nat → Nat → Int64} {Q : Option Value → XW → Prop} {s0 : Int32}  : wp X d m173 34 [none, none, none, none] [(.int s0)] (K0, R0, I, L) Q ↔ Q (some (.int s0)) (K0, R0, I, L) := w_iret c173_34 rfl
theorem b173_41 {X : Nat × (Nat → Int32)} {d : Nat} {I : Nat → Nat → Int32} {L : Nat → Nat → Int64} {Q : Option Value → XW → Prop} {s0 : Int32}  : wp X d m173 41 [none, none, none, none] [(.int s0)] (K0, R0, I, L) Q ↔ Q (some (.int s0)) (K0, R0, I, L) := w_iret c173_41 rfl
theorem b173_57 {X : Nat × (Nat → Int32)} {d : Nat} {I : Nat → Nat → Int32} {L : Nat → Nat → Int64} {Q : Option Value → XW → Prop} {s0 : Int32}  : wp X d m173 57 [none, none, none, none] [(.int s0)] (K0, R0, I, L) Q ↔ Q (some (.int s0)) (K0, R0, I, L) := w_iret c173_57 rfl
theorem b173_73 {X : Nat × (Nat → Int32)} {d : Nat} {I : Nat → Nat → Int32} {L : Nat → Nat → Int64} {Q : Option Value → XW → Prop} {s0 : Int32}  : wp X d m173 73 [none, none, none, none] [(.int s0)] (K0, R0, I, L) Q ↔ Q (some (.int s0)) (K0, R0, I, L) := w_iret c173_73 rfl
-- LeavesObjectModel.spread(IZ)I
theorem c174_0 : cdx (mC m174) 0 = some (0, .iload_n 1, 1, 1, 0, 0, 0, []) := rfl
theorem c174_1 : cdx (mC m174) 1 = some (1, .istore_n 3, 1, 3, 0, 0, 0, []) := rfl
theorem c174_2 : cdx (mC m174) 2 = some (2, .iconst 0, 1, 0, 0, 0, 0, []) := rfl
theorem c174_3 : cdx (mC m174) 3 = some (3, .istore 4, 2, 4, 0, 0, 0, []) := rfl
theorem c174_5 : cdx (mC m174) 5 = some (5, .iload 4, 2, 4, 0, 0, 0, []) := rfl
theorem c174_7 : cdx (mC m174) 7 = some (7, .bipush 12, 2, 0, 0, 0, 0, []) := rfl
theorem c174_9 : cdx (mC m174) 9 = some (9, .if_icmp .ge 63, 3, 72, 0, 0, 0, []) := rfl
theorem c174_12 : cdx (mC m174) 12 = some (12, .aload_n 0, 1, 0, 0, 0, 0, []) := rfl
theorem c174_13 : cdx (mC m174) 13 = some (13, .iload_n 1, 1, 1, 0, 0, 0, []) := rfl
theorem c174_14 : cdx (mC m174) 14 = some (14, .iload 4, 2, 4, 0, 0, 0, []) := rfl
theorem c174_16 : cdx (mC m174) 16 = some (16, .invokevirtual 209, 3, 170, 2, 0, 5199, [(10, 0)]) := rfl
theorem c174_19 : cdx (mC m174) 19 = some (19, .ifCond .ne 6, 3, 25, 0, 0, 0, []) := rfl
theorem c174_22 : cdx (mC m174) 22 = some (22, .goto 44, 3, 66, 0, 0, 0, []) := rfl
theorem c174_25 : cdx (mC m174) 25 = some (25, .iload_n 2, 1, 2, 0, 0, 0, []) := rfl
theorem c174_26 : cdx (mC m174) 26 = some (26, .ifCond .ne 20, 3, 46, 0, 0, 0, []) := rfl
theorem c174_29 : cdx (mC m174) 29 = some (29, .iload 4, 2, 4, 0, 0, 0, []) := rfl
theorem c174_31 : cdx (mC m174) 31 = some (31, .iconst 4, 1, 0, 0, 0, 0, []) := rfl
theorem c174_32 : cdx (mC m174) 32 = some (32, .irem, 1, 0, 0, 0, 0, []) := rfl
theorem c174_33 : cdx (mC m174) 33 = some (33, .iconst 3, 1, 0, 0, 0, 0, []) := rfl
theorem c174_34 : cdx (mC m174) 34 = some (34, .if_icmp .ge 12, 3, 46, 0, 0, 0, []) := rfl
theorem c174_37 : cdx (mC m174) 37 = some (37, .iload_n 3, 1, 3, 0, 0, 0, []) := rfl
theorem c174_38 : cdx (mC m174) 38 = some (38, .iconst 1, 1, 0, 0, 0, 0, []) := rfl
theorem c174_39 : cdx (mC m174) 39 = some (39, .iload 4, 2, 4, 0, 0, 0, []) := rfl
theorem c174_41 : cdx (mC m174) 41 = some (41, .iconst 1, 1, 0, 0, 0, 0, []) := rfl
theorem c174_42 : cdx (mC m174) 42 = some (42, .iadd, 1, 0, 0, 0, 0, []) := rfl
theorem c174_43 : cdx (mC m174) 43 = some (43, .ishl, 1, 0, 0, 0, 0, []) := rfl
theorem c174_44 : cdx (mC m174) 44 = some (44, .ior, 1, 0, 0, 0, 0, []) := rfl
theorem c174_45 : cdx (mC m174) 45 = some (45, .istore_n 3, 1, 3, 0, 0, 0, []) := rfl
theorem c174_46 : cdx (mC m174) 46 = some (46, .iload_n 2, 1, 2, 0, 0, 0, []) := rfl
theorem c174_47 : cdx (mC m174) 47 = some (47, .ifCond .eq 19, 3, 66, 0, 0, 0, []) := rfl
theorem c174_50 : cdx (mC m174) 50 = some (50, .iload 4, 2, 4, 0, 0, 0, []) := rfl
theorem c174_52 : cdx (mC m174) 52 = some (52, .iconst 4, 1, 0, 0, 0, 0, []) := rfl
theorem c174_53 : cdx (mC m174) 53 = some (53, .irem, 1, 0, 0, 0, 0, []) := rfl
theorem c174_54 : cdx (mC m174) 54 = some (54, .ifCond .le 12, 3, 66, 0, 0, 0, []) := rfl
theorem c174_57 : cdx (mC m174) 57 = some (57, .iload_n 3, 1, 3, 0, 0, 0, []) := rfl
theorem c174_58 : cdx (mC m174) 58 = some (58, .iconst 1, 1, 0, 0, 0, 0, []) := rfl
theorem c174_59 : cdx (mC m174) 59 = some (59, .iload 4, 2, 4, 0, 0, 0, []) := rfl
theorem c174_61 : cdx (mC m174) 61 = some (61, .iconst 1, 1, 0, 0, 0, 0, []) := rfl
theorem c174_62 : cdx (mC m174) 62 = some (62, .isub, 1, 0, 0, 0, 0, []) := rfl
theorem c174_63 : cdx (mC m174) 63 = some (63, .ishl, 1, 0, 0, 0, 0, []) := rfl
theorem c174_64 : cdx (mC m174) 64 = some (64, .ior, 1, 0, 0, 0, 0, []) := rfl
theorem c174_65 : cdx (mC m174) 65 = some (65, .istore_n 3, 1, 3, 0, 0, 0, []) := rfl
theorem c174_66 : cdx (mC m174) 66 = some (66, .iinc 4 1, 3, 4, 0, 0, 0, []) := rfl
theorem c174_69 : cdx (mC m174) 69 = some (69, .goto (-64), 3, 5, 0, 0, 0, []) := rfl
theorem c174_72 : cdx (mC m174) 72 = some (72, .iload_n 3, 1, 3, 0, 0, 0, []) := rfl
theorem c174_73 : cdx (mC m174) 73 = some (73, .ireturn, 1, 0, 0, 0, 0, []) := rfl
theorem b174_0 {X : Nat × (Nat → Int32)} {d : Nat} {I : Nat → Nat → Int32} {L : Nat → Nat → Int64} {Q : Option Value → XW → Prop} {x1 : Int32} {x2 : Int32}  : wp X d m174 0 [some (.ref 124), some (.int x1), some (.int x2), none, none] [] (K0, R0, I, L) Q ↔ wp X d m174 5 [some (.ref 124), some (.int x1), some (.int x2), some (.int x1), some (.int 0)] [] (K0, R0, I, L) Q := (w_iload_n (pc' := 1) c174_0 rfl rfl).trans ((w_istore_n (pc' := 2) (ls' := [some (.ref 124), some (.int x1), some (.int x2), some (.int x1), none]) c174_1 (Nat.le_of_ble_eq_true rfl) rfl rfl).trans ((w_iconst (pc' := 3) (v := 0) c174_2 rfl rfl).trans ((w_istore (pc' := 5) (ls' := [some (.ref 124), some (.int x1), some (.int x2), some (.int x1), some (.int 0)]) c174_3 (Nat.le_of_ble_eq_true rfl) rfl rfl))))
theorem b174_5 {X : Nat × (Nat → Int32)} {d : Nat} {I : Nat → Nat → Int32} {L : Nat → Nat → Int64} {Q : Option Value → XW → Prop} {x1 : Int32} {x2 : Int32} {x3 : Int32} {x4 : Int32}  : wp X (d + 1) m174 5 [some (.ref 124), some (.int x1), some (.int x2), some (.int x3), some (.int x4)] [] (K0, R0, I, L) Q ↔ (if x4 < 12 then wp X d m170 0 [some (.ref 124), some (.int x1), some (.int x4)] [] (K0, R0, I, L) (fun r w1 => wp X (d + 1) m174 19 [some (.ref 124), some (.int x1), some (.int x2), some (.int x3), some (.int x4)] (r.toList ++ []) w1 Q) else Q (some (.int x3)) (K0, R0, I, L)) := (w_iload (pc' := 7) c174_5 rfl rfl).trans ((w_bipush (pc' := 9) (v := 12) c174_7 rfl rfl).trans ((w_icmp_ge (pc' := 12) c174_9 rfl).trans (ite_iff ((w_aload_n (pc' := 13) c174_12 rfl rfl).trans ((w_iload_n (pc' := 14) c174_13 rfl rfl).trans ((w_iload (pc' := 16) c174_14 rfl rfl).trans ((w_callv (pc' := 19) c174_16 mt170 rfl (Nat.le_of_ble_eq_true rfl) rfl kd_124 rfl rfl (Nat.le_of_ble_eq_true rfl) rfl rfl))))) ((w_iload_n (pc' := 73) c174_72 rfl rfl).trans (w_iret c174_73 rfl)))))
theorem b174_19 {X : Nat × (Nat → Int32)} {d : Nat} {I : Nat → Nat → Int32} {L : Nat → Nat → Int64} {Q : Option Value → XW → Prop} {x1 : Int32} {x2 : Int32} {x3 : Int32} {x4 : Int32} {s0 : Int32}  : wp X d m174 19 [some (.ref 124), some (.int x1), some (.int x2), some (.int x3), some (.int x4)] [(.int s0)] (K0, R0, I, L) Q ↔ (if s0 = 0 then wp X d m174 5 [some (.ref 124), some (.int x1), some (.int x2), some (.int x3), some (.int (x4 + 1))] [] (K0, R0, I, L) Q else wp X d m174 46 [some (.ref 124), some (.int x1), some (.int x2), some (.int (if x2 = 0 then (if (x4 - x4 / 4 * 4) < 3 then (x3 ||| ((1 : Int32) <<< ((x4 + 1) &&& 31))) else x3) else x3)), some (.int x4)] [] (K0, R0, I, L) Q) := (w_if_ne (pc' := 22) c174_19 rfl).trans (ite_iff ((w_goto c174_22).trans ((w_iinc (pc' := 69) (v := (x4 + 1)) (ls' := [some (.ref 124), some (.int x1), some (.int x2), some (.int x3), some (.int (x4 + 1))]) c174_66 (Nat.le_of_ble_eq_true rfl) rfl rfl rfl rfl).trans ((w_goto c174_69)))) ((w_iload_n (pc' := 26) c174_25 rfl rfl).trans ((w_if_ne (pc' := 29) c174_26 rfl).trans ((ite_iff ((w_iload (pc' := 31) c174_29 rfl rfl).trans ((w_iconst (pc' := 32) (v := 4) c174_31 rfl rfl).trans (((w_irem (pc' := 33) c174_32 rfl).trans (and_iff_right (by decide))).trans ((w_iconst (pc' := 34) (v := 3) c174_33 rfl rfl).trans ((w_icmp_ge (pc' := 37) c174_34 rfl).trans ((ite_iff ((w_iload_n (pc' := 38) c174_37 rfl rfl).trans ((w_iconst (pc' := 39) (v := 1) c174_38 rfl rfl).trans ((w_iload (pc' := 41) c174_39 rfl rfl).trans ((w_iconst (pc' := 42) (v := 1) c174_41 rfl rfl).trans ((w_iadd (pc' := 43) c174_42 rfl).trans ((w_ishl (pc' := 44) c174_43 rfl).trans ((w_ior (pc' := 45) c174_44 rfl).trans ((w_istore_n (pc' := 46) (ls' := [some (.ref 124), some (.int x1), some (.int x2), some (.int (x3 ||| ((1 : Int32) <<< ((x4 + 1) &&& 31)))), some (.int x4)]) c174_45 (Nat.le_of_ble_eq_true rfl) rfl rfl))))))))) (Iff.rfl)).trans (ite_val (fun z => wp X d m174 46 [some (.ref 124), some (.int x1), some (.int x2), some (.int z), some (.int x4)] [] (K0, R0, I, L) Q)))))))) (Iff.rfl)).trans (ite_val (fun z => wp X d m174 46 [some (.ref 124), some (.int x1), some (.int x2), some (.int z), some (.int x4)] [] (K0, R0, I, L) Q))))))
theorem b174_46 {X : Nat × (Nat → Int32)} {d : Nat} {I : Nat → Nat → Int32} {L : Nat → Nat → Int64} {Q : Option Value → XW → Prop} {x1 : Int32} {x2 : Int32} {x3 : Int32} {x4 : Int32}  : wp X d m174 46 [some (.ref 124), some (.int x1), some (.int x2), some (.int x3), some (.int x4)] [] (K0, R0, I, L) Q ↔ wp X d m174 5 [some (.ref 124), some (.int x1), some (.int x2), some (.int (if x2 = 0 then x3 else (if 0 < (x4 - x4 / 4 * 4) then (x3 ||| ((1 : Int32) <<< ((x4 - 1) &&& 31))) else x3))), some (.int (x4 + 1))] [] (K0, R0, I, L) Q := (w_iload_n (pc' := 47) c174_46 rfl rfl).trans ((w_if_eq (pc' := 50) c174_47 rfl).trans ((ite_iff ((w_iinc (pc' := 69) (v := (x4 + 1)) (ls' := [some (.ref 124), some (.int x1), some (.int x2), some (.int x3), some (.int (x4 + 1))]) c174_66 (Nat.le_of_ble_eq_true rfl) rfl rfl rfl rfl).trans ((w_goto c174_69))) ((w_iload (pc' := 52) c174_50 rfl rfl).trans ((w_iconst (pc' := 53) (v := 4) c174_52 rfl rfl).trans (((w_irem (pc' := 54) c174_53 rfl).trans (and_iff_right (by decide))).trans ((w_if_le (pc' := 57) c174_54 rfl).trans ((ite_iff ((w_iload_n (pc' := 58) c174_57 rfl rfl).trans ((w_iconst (pc' := 59) (v := 1) c174_58 rfl rfl).trans ((w_iload (pc' := 61) c174_59 rfl rfl).trans ((w_iconst (pc' := 62) (v := 1) c174_61 rfl rfl).trans ((w_isub (pc' := 63) c174_62 rfl).trans ((w_ishl (pc' := 64) c174_63 rfl).trans ((w_ior (pc' := 65) c174_64 rfl).trans ((w_istore_n (pc' := 66) (ls' := [some (.ref 124), some (.int x1), some (.int x2), some (.int (x3 ||| ((1 : Int32) <<< ((x4 - 1) &&& 31)))), some (.int x4)]) c174_65 (Nat.le_of_ble_eq_true rfl) rfl rfl).trans ((w_iinc (pc' := 69) (v := (x4 + 1)) (ls' := [some (.ref 124), some (.int x1), some (.int x2), some (.int (x3 ||| ((1 : Int32) <<< ((x4 - 1) &&& 31)))), some (.int (x4 + 1))]) c174_66 (Nat.le_of_ble_eq_true rfl) rfl rfl rfl rfl).trans ((w_goto c174_69))))))))))) ((w_iinc (pc' := 69) (v := (x4 + 1)) (ls' := [some (.ref 124), some (.int x1), some (.int x2), some (.int x3), some (.int (x4 + 1))]) c174_66 (Nat.le_of_ble_eq_true rfl) rfl rfl rfl rfl).trans ((w_goto c174_69)))).trans (ite_val (fun z => wp X d m174 5 [some (.ref 124), some (.int x1), some (.int x2), some (.int z), some (.int (x4 + 1))] [] (K0, R0, I, L) Q)))))))).trans (ite_val (fun z => wp X d m174 5 [some (.ref 124), some (.int x1), some (.int x2), some (.int z), some (.int (x4 + 1))] [] (K0, R0, I, L) Q))))
-- LeavesObjectModel.thinned(IZ)I
theorem c175_0 : cdx (mC m175) 0 = some (0, .iconst 0, 1, 0, 0, 0, 0, []) := rfl
theorem c175_1 : cdx (mC m175) 1 = some (1, .istore_n 3, 1, 3, 0, 0, 0, []) := rfl
theorem c175_2 : cdx (mC m175) 2 = some (2, .iconst 0, 1, 0, 0, 0, 0, []) := rfl
theorem c175_3 : cdx (mC m175) 3 = some (3, .istore 4, 2, 4, 0, 0, 0, []) := rfl
theorem c175_5 : cdx (mC m175) 5 = some (5, .iload 4, 2, 4, 0, 0, 0, []) := rfl
theorem c175_7 : cdx (mC m175) 7 = some (7, .bipush 12, 2, 0, 0, 0, 0, []) := rfl
theorem c175_9 : cdx (mC m175) 9 = some (9, .if_icmp .ge 84, 3, 93, 0, 0, 0, []) := rfl
theorem c175_12 : cdx (mC m175) 12 = some (12, .aload_n 0, 1, 0, 0, 0, 0, []) := rfl
theorem c175_13 : cdx (mC m175) 13 = some (13, .iload_n 1, 1, 1, 0, 0, 0, []) := rfl
theorem c175_14 : cdx (mC m175) 14 = some (14, .iload 4, 2, 4, 0, 0, 0, []) := rfl
theorem c175_16 : cdx (mC m175) 16 = some (16, .invokevirtual 286, 3, 176, 2, 0, 5223, [(10, 0)]) := rfl
theorem c175_19 : cdx (mC m175) 19 = some (19, .istore 5, 2, 5, 0, 0, 0, []) := rfl
theorem c175_21 : cdx (mC m175) 21 = some (21, .iload_n 2, 1, 2, 0, 0, 0, []) := rfl
theorem c175_22 : cdx (mC m175) 22 = some (22, .ifCond .eq 27, 3, 49, 0, 0, 0, []) := rfl
theorem c175_25 : cdx (mC m175) 25 = some (25, .aload_n 0, 1, 0, 0, 0, 0, []) := rfl
theorem c175_26 : cdx (mC m175) 26 = some (26, .iload_n 1, 1, 1, 0, 0, 0, []) := rfl
theorem c175_27 : cdx (mC m175) 27 = some (27, .iload 4, 2, 4, 0, 0, 0, []) := rfl
theorem c175_29 : cdx (mC m175) 29 = some (29, .invokevirtual 209, 3, 170, 2, 0, 5199, [(10, 0)]) := rfl
theorem c175_32 : cdx (mC m175) 32 = some (32, .ifCond .ne 9, 3, 41, 0, 0, 0, []) := rfl
theorem c175_35 : cdx (mC m175) 35 = some (35, .iload 5, 2, 5, 0, 0, 0, []) := rfl
theorem c175_37 : cdx (mC m175) 37 = some (37, .iconst 1, 1, 0, 0, 0, 0, []) := rfl
theorem c175_38 : cdx (mC m175) 38 = some (38, .if_icmp .le 7, 3, 45, 0, 0, 0, []) := rfl
theorem c175_41 : cdx (mC m175) 41 = some (41, .iconst 1, 1, 0, 0, 0, 0, []) := rfl
theorem c175_42 : cdx (mC m175) 42 = some (42, .goto 27, 3, 69, 0, 0, 0, []) := rfl
theorem c175_45 : cdx (mC m175) 45 = some (45, .iconst 0, 1, 0, 0, 0, 0, []) := rfl
theorem c175_46 : cdx (mC m175) 46 = some (46, .goto 23, 3, 69, 0, 0, 0, []) := rfl
theorem c175_49 : cdx (mC m175) 49 = some (49, .aload_n 0, 1, 0, 0, 0, 0, []) := rfl
theorem c175_50 : cdx (mC m175) 50 = some (50, .iload_n 1, 1, 1, 0, 0, 0, []) := rfl
theorem c175_51 : cdx (mC m175) 51 = some (51, .iload 4, 2, 4, 0, 0, 0, []) := rfl
theorem c175_53 : cdx (mC m175) 53 = some (53, .invokevirtual 209, 3, 170, 2, 0, 5199, [(10, 0)]) := rfl
theorem c175_56 : cdx (mC m175) 56 = some (56, .ifCond .eq 12, 3, 68, 0, 0, 0, []) := rfl
theorem c175_59 : cdx (mC m175) 59 = some (59, .iload 5, 2, 5, 0, 0, 0, []) := rfl
theorem c175_61 : cdx (mC m175) 61 = some (61, .ifCond .le 7, 3, 68, 0, 0, 0, []) := rfl
theorem c175_64 : cdx (mC m175) 64 = some (64, .iconst 1, 1, 0, 0, 0, 0, []) := rfl
theorem c175_65 : cdx (mC m175) 65 = some (65, .goto 4, 3, 69, 0, 0, 0, []) := rfl
theorem c175_68 : cdx (mC m175) 68 = some (68, .iconst 0, 1, 0, 0, 0, 0, []) := rfl
theorem c175_69 : cdx (mC m175) 69 = some (69, .istore 6, 2, 6, 0, 0, 0, []) := rfl
theorem c175_71 : cdx (mC m175) 71 = some (71, .iload_n 3, 1, 3, 0, 0, 0, []) := rfl
theorem c175_72 : cdx (mC m175) 72 = some (72, .iload 6, 2, 6, 0, 0, 0, []) := rfl
theorem c175_74 : cdx (mC m175) 74 = some (74, .ifCond .eq 10, 3, 84, 0, 0, 0, []) := rfl
theorem c175_77 : cdx (mC m175) 77 = some (77, .iconst 1, 1, 0, 0, 0, 0, []) := rfl
theorem c175_78 : cdx (mC m175) 78 = some (78, .iload 4, 2, 4, 0, 0, 0, []) := rfl
theorem c175_80 : cdx (mC m175) 80 = some (80, .ishl, 1, 0, 0, 0, 0, []) := rfl
theorem c175_81 : cdx (mC m175) 81 = some (81, .goto 4, 3, 85, 0, 0, 0, []) := rfl
theorem c175_84 : cdx (mC m175) 84 = some (84, .iconst 0, 1, 0, 0, 0, 0, []) := rfl
theorem c175_85 : cdx (mC m175) 85 = some (85, .ior, 1, 0, 0, 0, 0, []) := rfl
theorem c175_86 : cdx (mC m175) 86 = some (86, .istore_n 3, 1, 3, 0, 0, 0, []) := rfl
theorem c175_87 : cdx (mC m175) 87 = some (87, .iinc 4 1, 3, 4, 0, 0, 0, []) := rfl
theorem c175_90 : cdx (mC m175) 90 = some (90, .goto (-85), 3, 5, 0, 0, 0, []) := rfl
theorem c175_93 : cdx (mC m175) 93 = some (93, .iload_n 3, 1, 3, 0, 0, 0, []) := rfl
theorem c175_94 : cdx (mC m175) 94 = some (94, .ireturn, 1, 0, 0, 0, 0, []) := rfl
def lv175 : List (Nat × List Nat) := [(0, [0, 1, 2]), (1, [0, 1, 2]), (2, [0, 1, 2, 3]), (3, [0, 1, 2, 3]), (5, [0, 1, 2, 3, 4]), (7, [0, 1, 2, 3, 4]), (9, [0, 1, 2, 3, 4]), (12, [0, 1, 2, 3, 4]), (13, [0, 1, 2, 3, 4]), (14, [0, 1, 2, 3, 4]), (16, [0, 1, 2, 3, 4]), (19, [0, 1, 2, 3, 4]), (21, [0, 1, 2, 3, 4, 5]), (22, [0, 1, 2, 3, 4, 5]), (25, [0, 1, 2, 3, 4, 5]), (26, [0, 1, 2, 3, 4, 5]), (27, [0, 1, 2, 3, 4, 5]), (29, [0, 1, 2, 3, 4, 5]), (32, [0, 1, 2, 3, 4, 5]), (35, [0, 1, 2, 3, 4, 5]), (37, [0, 1, 2, 3, 4]), (38, [0, 1, 2, 3, 4]), (41, [0, 1, 2, 3, 4]), (42, [0, 1, 2, 3, 4]), (45, [0, 1, 2, 3, 4]), (46, [0, 1, 2, 3, 4]), (49, [0, 1, 2, 3, 4, 5]), (50, [0, 1, 2, 3, 4, 5]), (51, [0, 1, 2, 3, 4, 5]), (53, [0, 1, 2, 3, 4, 5]), (56, [0, 1, 2, 3, 4, 5]), (59, [0, 1, 2, 3, 4, 5]), (61, [0, 1, 2, 3, 4]), (64, [0, 1, 2, 3, 4]), (65, [0, 1, 2, 3, 4]), (68, [0, 1, 2, 3, 4]), (69, [0, 1, 2, 3, 4]), (71, [0, 1, 2, 3, 4, 6]), (72, [0, 1, 2, 4, 6]), (74, [0, 1, 2, 4]), (77, [0, 1, 2, 4]), (78, [0, 1, 2, 4]), (80, [0, 1, 2, 4]), (81, [0, 1, 2, 4]), (84, [0, 1, 2, 4]), (85, [0, 1, 2, 4]), (86, [0, 1, 2, 4]), (87, [0, 1, 2, 3, 4]), (90, [0, 1, 2, 3, 4]), (93, [3])]
theorem lvok175 : lvOk (mC m175) lv175 = true := by decide +kernel
theorem b175_0 {X : Nat × (Nat → Int32)} {d : Nat} {I : Nat → Nat → Int32} {L : Nat → Nat → Int64} {Q : Option Value → XW → Prop} {x1 : Int32} {x2 : Int32}  : wp X d m175 0 [some (.ref 124), some (.int x1), some (.int x2), none, none, none, none] [] (K0, R0, I, L) Q ↔ wp X d m175 5 [some (.ref 124), some (.int x1), some (.int x2), some (.int 0), some (.int 0), none, none] [] (K0, R0, I, L) Q := (w_iconst (pc' := 1) (v := 0) c175_0 rfl rfl).trans ((w_istore_n (pc' := 2) (ls' := [some (.ref 124), some (.int x1), some (.int x2), some (.int 0), none, none, none]) c175_1 (Nat.le_of_ble_eq_true rfl) rfl rfl).trans ((w_iconst (pc' := 3) (v := 0) c175_2 rfl rfl).trans ((w_istore (pc' := 5) (ls' := [some (.ref 124), some (.int x1), some (.int x2), some (.int 0), some (.int 0), none, none]) c175_3 (Nat.le_of_ble_eq_true rfl) rfl rfl))))
theorem b175_5 {X : Nat × (Nat → Int32)} {d : Nat} {I : Nat → Nat → Int32} {L : Nat → Nat → Int64} {Q : Option Value → XW → Prop} {x1 : Int32} {x2 : Int32} {x3 : Int32} {x4 : Int32}  : wp X (d + 1) m175 5 [some (.ref 124), some (.int x1), some (.int x2), some (.int x3), some (.int x4), none, none] [] (K0, R0, I, L) Q ↔ (if x4 < 12 then wp X d m176 0 [some (.ref 124), some (.int x1), some (.int x4), none] [] (K0, R0, I, L) (fun r w1 => wp X (d + 1) m175 19 [some (.ref 124), some (.int x1), some (.int x2), some (.int x3), some (.int x4), none, none] (r.toList ++ []) w1 Q) else Q (some (.int x3)) (K0, R0, I, L)) := (w_iload (pc' := 7) c175_5 rfl rfl).trans ((w_bipush (pc' := 9) (v := 12) c175_7 rfl rfl).trans ((w_icmp_ge (pc' := 12) c175_9 rfl).trans (ite_iff ((w_aload_n (pc' := 13) c175_12 rfl rfl).trans ((w_iload_n (pc' := 14) c175_13 rfl rfl).trans ((w_iload (pc' := 16) c175_14 rfl rfl).trans ((w_callv (pc' := 19) c175_16 mt176 rfl (Nat.le_of_ble_eq_true rfl) rfl kd_124 rfl rfl (Nat.le_of_ble_eq_true rfl) rfl rfl))))) ((w_iload_n (pc' := 94) c175_93 rfl rfl).trans (w_iret c175_94 rfl)))))
theorem b175_19 {X : Nat × (Nat → Int32)} {d : Nat} {I : Nat → Nat → Int32} {L : Nat → Nat → Int64} {Q : Option Value → XW → Prop} {x1 : Int32} {x2 : Int32} {x3 : Int32} {x4 : Int32} {s0 : Int32}  : wp X (d + 1) m175 19 [some (.ref 124), some (.int x1), some (.int x2), some (.int x3), some (.int x4), none, none] [(.int s0)] (K0, R0, I, L) Q ↔ (if x2 = 0 then wp X d m170 0 [some (.ref 124), some (.int x1), some (.int x4)] [] (K0, R0, I, L) (fun r w1 => wp X (d + 1) m175 56 [some (.ref 124), some (.int x1), some (.int x2), some (.int x3), some (.int x4), some (.int s0), none] (r.toList ++ []) w1 Q) else wp X d m170 0 [some (.ref 124), some (.int x1), some (.int x4)] [] (K0, R0, I, L) (fun r w1 => wp X (d + 1) m175 32 [some (.ref 124), some (.int x1), some (.int x2), some (.int x3), some (.int x4), some (.int s0), none] (r.toList ++ []) w1 Q)) := (w_istore (pc' := 21) (ls' := [some (.ref 124), some (.int x1), some (.int x2), some (.int x3), some (.int x4), some (.int s0), none]) c175_19 (Nat.le_of_ble_eq_true rfl) rfl rfl).trans ((w_iload_n (pc' := 22) c175_21 rfl rfl).trans ((w_if_eq (pc' := 25) c175_22 rfl).trans (ite_iff ((w_aload_n (pc' := 50) c175_49 rfl rfl).trans ((w_iload_n (pc' := 51) c175_50 rfl rfl).trans ((w_iload (pc' := 53) c175_51 rfl rfl).trans ((w_callv (pc' := 56) c175_53 mt170 rfl (Nat.le_of_ble_eq_true rfl) rfl kd_124 rfl rfl (Nat.le_of_ble_eq_true rfl) rfl rfl))))) ((w_aload_n (pc' := 26) c175_25 rfl rfl).trans ((w_iload_n (pc' := 27) c175_26 rfl rfl).trans ((w_iload (pc' := 29) c175_27 rfl rfl).trans ((w_callv (pc' := 32) c175_29 mt170 rfl (Nat.le_of_ble_eq_true rfl) rfl kd_124 rfl rfl (Nat.le_of_ble_eq_true rfl) rfl rfl))))))))
theorem b175_56 {X : Nat × (Nat → Int32)} {d : Nat} {I : Nat → Nat → Int32} {L : Nat → Nat → Int64} {Q : Option Value → XW → Prop} {x1 : Int32} {x2 : Int32} {x3 : Int32} {x4 : Int32} {x5 : Int32} {s0 : Int32}  : wp X d m175 56 [some (.ref 124), some (.int x1), some (.int x2), some (.int x3), some (.int x4), some (.int x5), none] [(.int s0)] (K0, R0, I, L) Q ↔ wp X d m175 69 [some (.ref 124), some (.int x1), some (.int x2), some (.int x3), some (.int x4), none, none] [(.int (if s0 = 0 then 0 else (if 0 < x5 then 1 else 0)))] (K0, R0, I, L) Q := (w_if_eq (pc' := 59) c175_56 rfl).trans ((ite_iff ((w_iconst (pc' := 69) (v := 0) c175_68 rfl rfl).trans ((wp_msk lvok175 rfl))) ((w_iload (pc' := 61) c175_59 rfl rfl).trans ((w_if_le (pc' := 64) c175_61 rfl).trans ((ite_iff ((w_iconst (pc' := 65) (v := 1) c175_64 rfl rfl).trans ((w_goto c175_65).trans ((wp_msk lvok175 rfl)))) ((w_iconst (pc' := 69) (v := 0) c175_68 rfl rfl).trans ((wp_msk lvok175 rfl)))).trans (ite_val (fun z => wp X d m175 69 [some (.ref 124), some (.int x1), some (.int x2), some (.int x3), some (.int x4), none, none] [(.int z)] (K0, R0, I, L) Q)))))).trans (ite_val (fun z => wp X d m175 69 [some (.ref 124), some (.int x1), some (.int x2), some (.int x3), some (.int x4), none, none] [(.int z)] (K0, R0, I, L) Q)))
theorem b175_32 {X : Nat × (Nat → Int32)} {d : Nat} {I : Nat → Nat → Int32} {L : Nat → Nat → Int64} {Q : Option Value → XW → Prop} {x1 : Int32} {x2 : Int32} {x3 : Int32} {x4 : Int32} {x5 : Int32} {s0 : Int32}  : wp X d m175 32 [some (.ref 124), some (.int x1), some (.int x2), some (.int x3), some (.int x4), some (.int x5), none] [(.int s0)] (K0, R0, I, L) Q ↔ wp X d m175 69 [some (.ref 124), some (.int x1), some (.int x2), some (.int x3), some (.int x4), none, none] [(.int (if s0 = 0 then (if 1 < x5 then 1 else 0) else 1))] (K0, R0, I, L) Q := (w_if_ne (pc' := 35) c175_32 rfl).trans ((ite_iff ((w_iload (pc' := 37) c175_35 rfl rfl).trans ((w_iconst (pc' := 38) (v := 1) c175_37 rfl rfl).trans ((w_icmp_le (pc' := 41) c175_38 rfl).trans ((ite_iff ((w_iconst (pc' := 42) (v := 1) c175_41 rfl rfl).trans ((w_goto c175_42).trans ((wp_msk lvok175 rfl)))) ((w_iconst (pc' := 46) (v := 0) c175_45 rfl rfl).trans ((w_goto c175_46).trans ((wp_msk lvok175 rfl))))).trans (ite_val (fun z => wp X d m175 69 [some (.ref 124), some (.int x1), some (.int x2), some (.int x3), some (.int x4), none, none] [(.int z)] (K0, R0, I, L) Q)))))) ((w_iconst (pc' := 42) (v := 1) c175_41 rfl rfl).trans ((w_goto c175_42).trans ((wp_msk lvok175 rfl))))).trans (ite_val (fun z => wp X d m175 69 [some (.ref 124), some (.int x1), some (.int x2), some (.int x3), some (.int x4), none, none] [(.int z)] (K0, R0, I, L) Q)))
theorem b175_69 {X : Nat × (Nat → Int32)} {d : Nat} {I : Nat → Nat → Int32} {L : Nat → Nat → Int64} {Q : Option Value → XW → Prop} {x1 : Int32} {x2 : Int32} {x3 : Int32} {x4 : Int32} {s0 : Int32}  : wp X d m175 69 [some (.ref 124), some (.int x1), some (.int x2), some (.int x3), some (.int x4), none, none] [(.int s0)] (K0, R0, I, L) Q ↔ wp X d m175 5 [some (.ref 124), some (.int x1), some (.int x2), some (.int (if s0 = 0 then (x3 ||| (0 : Int32)) else (x3 ||| ((1 : Int32) <<< (x4 &&& 31))))), some (.int (x4 + 1)), none, none] [] (K0, R0, I, L) Q := (w_istore (pc' := 71) (ls' := [some (.ref 124), some (.int x1), some (.int x2), some (.int x3), some (.int x4), none, some (.int s0)]) c175_69 (Nat.le_of_ble_eq_true rfl) rfl rfl).trans ((w_iload_n (pc' := 72) c175_71 rfl rfl).trans ((w_iload (pc' := 74) c175_72 rfl rfl).trans ((w_if_eq (pc' := 77) c175_74 rfl).trans ((ite_iff ((w_iconst (pc' := 85) (v := 0) c175_84 rfl rfl).trans ((w_ior (pc' := 86) c175_85 rfl).trans ((w_istore_n (pc' := 87) (ls' := [some (.ref 124), some (.int x1), some (.int x2), some (.int (x3 ||| (0 : Int32))), some (.int x4), none, some (.int s0)]) c175_86 (Nat.le_of_ble_eq_true rfl) rfl rfl).trans ((w_iinc (pc' := 90) (v := (x4 + 1)) (ls' := [some (.ref 124), some (.int x1), some (.int x2), some (.int (x3 ||| (0 : Int32))), some (.int (x4 + 1)), none, some (.int s0)]) c175_87 (Nat.le_of_ble_eq_true rfl) rfl rfl rfl rfl).trans ((w_goto c175_90).trans ((wp_msk lvok175 rfl))))))) ((w_iconst (pc' := 78) (v := 1) c175_77 rfl rfl).trans ((w_iload (pc' := 80) c175_78 rfl rfl).trans ((w_ishl (pc' := 81) c175_80 rfl).trans ((w_goto c175_81).trans ((w_ior (pc' := 86) c175_85 rfl).trans ((w_istore_n (pc' := 87) (ls' := [some (.ref 124), some (.int x1), some (.int x2), some (.int (x3 ||| ((1 : Int32) <<< (x4 &&& 31)))), some (.int x4), none, some (.int s0)]) c175_86 (Nat.le_of_ble_eq_true rfl) rfl rfl).trans ((w_iinc (pc' := 90) (v := (x4 + 1)) (ls' := [some (.ref 124), some (.int x1), some (.int x2), some (.int (x3 ||| ((1 : Int32) <<< (x4 &&& 31)))), some (.int (x4 + 1)), none, some (.int s0)]) c175_87 (Nat.le_of_ble_eq_true rfl) rfl rfl rfl rfl).trans ((w_goto c175_90).trans ((wp_msk lvok175 rfl))))))))))).trans (ite_val (fun z => wp X d m175 5 [some (.ref 124), some (.int x1), some (.int x2), some (.int z), some (.int (x4 + 1)), none, none] [] (K0, R0, I, L) Q))))))
-- LeavesObjectModel.beside(II)I
theorem c176_0 : cdx (mC m176) 0 = some (0, .iconst 0, 1, 0, 0, 0, 0, []) := rfl
theorem c176_1 : cdx (mC m176) 1 = some (1, .istore_n 3, 1, 3, 0, 0, 0, []) := rfl
theorem c176_2 : cdx (mC m176) 2 = some (2, .iload_n 3, 1, 3, 0, 0, 0, []) := rfl
theorem c176_3 : cdx (mC m176) 3 = some (3, .iload_n 2, 1, 2, 0, 0, 0, []) := rfl
theorem c176_4 : cdx (mC m176) 4 = some (4, .iconst 4, 1, 0, 0, 0, 0, []) := rfl
theorem c176_5 : cdx (mC m176) 5 = some (5, .irem, 1, 0, 0, 0, 0, []) := rfl
theorem c176_6 : cdx (mC m176) 6 = some (6, .ifCond .le 18, 3, 24, 0, 0, 0, []) := rfl
theorem c176_9 : cdx (mC m176) 9 = some (9, .aload_n 0, 1, 0, 0, 0, 0, []) := rfl
theorem c176_10 : cdx (mC m176) 10 = some (10, .iload_n 1, 1, 1, 0, 0, 0, []) := rfl
theorem c176_11 : cdx (mC m176) 11 = some (11, .iload_n 2, 1, 2, 0, 0, 0, []) := rfl
theorem c176_12 : cdx (mC m176) 12 = some (12, .iconst 1, 1, 0, 0, 0, 0, []) := rfl
theorem c176_13 : cdx (mC m176) 13 = some (13, .isub, 1, 0, 0, 0, 0, []) := rfl
theorem c176_14 : cdx (mC m176) 14 = some (14, .invokevirtual 209, 3, 170, 2, 0, 5199, [(10, 0)]) := rfl
theorem c176_17 : cdx (mC m176) 17 = some (17, .ifCond .eq 7, 3, 24, 0, 0, 0, []) := rfl
theorem c176_20 : cdx (mC m176) 20 = some (20, .iconst 1, 1, 0, 0, 0, 0, []) := rfl
theorem c176_21 : cdx (mC m176) 21 = some (21, .goto 4, 3, 25, 0, 0, 0, []) := rfl
theorem c176_24 : cdx (mC m176) 24 = some (24, .iconst 0, 1, 0, 0, 0, 0, []) := rfl
theorem c176_25 : cdx (mC m176) 25 = some (25, .iadd, 1, 0, 0, 0, 0, []) := rfl
theorem c176_26 : cdx (mC m176) 26 = some (26, .istore_n 3, 1, 3, 0, 0, 0, []) := rfl
theorem c176_27 : cdx (mC m176) 27 = some (27, .iload_n 3, 1, 3, 0, 0, 0, []) := rfl
theorem c176_28 : cdx (mC m176) 28 = some (28, .iload_n 2, 1, 2, 0, 0, 0, []) := rfl
theorem c176_29 : cdx (mC m176) 29 = some (29, .iconst 4, 1, 0, 0, 0, 0, []) := rfl
theorem c176_30 : cdx (mC m176) 30 = some (30, .irem, 1, 0, 0, 0, 0, []) := rfl
theorem c176_31 : cdx (mC m176) 31 = some (31, .iconst 3, 1, 0, 0, 0, 0, []) := rfl
theorem c176_32 : cdx (mC m176) 32 = some (32, .if_icmp .ge 18, 3, 50, 0, 0, 0, []) := rfl
theorem c176_35 : cdx (mC m176) 35 = some (35, .aload_n 0, 1, 0, 0, 0, 0, []) := rfl
theorem c176_36 : cdx (mC m176) 36 = some (36, .iload_n 1, 1, 1, 0, 0, 0, []) := rfl
theorem c176_37 : cdx (mC m176) 37 = some (37, .iload_n 2, 1, 2, 0, 0, 0, []) := rfl
theorem c176_38 : cdx (mC m176) 38 = some (38, .iconst 1, 1, 0, 0, 0, 0, []) := rfl
theorem c176_39 : cdx (mC m176) 39 = some (39, .iadd, 1, 0, 0, 0, 0, []) := rfl
theorem c176_40 : cdx (mC m176) 40 = some (40, .invokevirtual 209, 3, 170, 2, 0, 5199, [(10, 0)]) := rfl
theorem c176_43 : cdx (mC m176) 43 = some (43, .ifCond .eq 7, 3, 50, 0, 0, 0, []) := rfl
theorem c176_46 : cdx (mC m176) 46 = some (46, .iconst 1, 1, 0, 0, 0, 0, []) := rfl
theorem c176_47 : cdx (mC m176) 47 = some (47, .goto 4, 3, 51, 0, 0, 0, []) := rfl
theorem c176_50 : cdx (mC m176) 50 = some (50, .iconst 0, 1, 0, 0, 0, 0, []) := rfl
theorem c176_51 : cdx (mC m176) 51 = some (51, .iadd, 1, 0, 0, 0, 0, []) := rfl
theorem c176_52 : cdx (mC m176) 52 = some (52, .istore_n 3, 1, 3, 0, 0, 0, []) := rfl
theorem c176_53 : cdx (mC m176) 53 = some (53, .iload_n 3, 1, 3, 0, 0, 0, []) := rfl
theorem c176_54 : cdx (mC m176) 54 = some (54, .iload_n 2, 1, 2, 0, 0, 0, []) := rfl
theorem c176_55 : cdx (mC m176) 55 = some (55, .iconst 3, 1, 0, 0, 0, 0, []) := rfl
theorem c176_56 : cdx (mC m176) 56 = some (56, .if_icmp .le 18, 3, 74, 0, 0, 0, []) := rfl
theorem c176_59 : cdx (mC m176) 59 = some (59, .aload_n 0, 1, 0, 0, 0, 0, []) := rfl
theorem c176_60 : cdx (mC m176) 60 = some (60, .iload_n 1, 1, 1, 0, 0, 0, []) := rfl
theorem c176_61 : cdx (mC m176) 61 = some (61, .iload_n 2, 1, 2, 0, 0, 0, []) := rfl
theorem c176_62 : cdx (mC m176) 62 = some (62, .iconst 4, 1, 0, 0, 0, 0, []) := rfl
theorem c176_63 : cdx (mC m176) 63 = some (63, .isub, 1, 0, 0, 0, 0, []) := rfl
theorem c176_64 : cdx (mC m176) 64 = some (64, .invokevirtual 209, 3, 170, 2, 0, 5199, [(10, 0)]) := rfl
theorem c176_67 : cdx (mC m176) 67 = some (67, .ifCond .eq 7, 3, 74, 0, 0, 0, []) := rfl
theorem c176_70 : cdx (mC m176) 70 = some (70, .iconst 1, 1, 0, 0, 0, 0, []) := rfl
theorem c176_71 : cdx (mC m176) 71 = some (71, .goto 4, 3, 75, 0, 0, 0, []) := rfl
theorem c176_74 : cdx (mC m176) 74 = some (74, .iconst 0, 1, 0, 0, 0, 0, []) := rfl
theorem c176_75 : cdx (mC m176) 75 = some (75, .iadd, 1, 0, 0, 0, 0, []) := rfl
theorem c176_76 : cdx (mC m176) 76 = some (76, .istore_n 3, 1, 3, 0, 0, 0, []) := rfl
theorem c176_77 : cdx (mC m176) 77 = some (77, .iload_n 3, 1, 3, 0, 0, 0, []) := rfl
theorem c176_78 : cdx (mC m176) 78 = some (78, .iload_n 2, 1, 2, 0, 0, 0, []) := rfl
theorem c176_79 : cdx (mC m176) 79 = some (79, .bipush 8, 2, 0, 0, 0, 0, []) := rfl
theorem c176_81 : cdx (mC m176) 81 = some (81, .if_icmp .ge 18, 3, 99, 0, 0, 0, []) := rfl
theorem c176_84 : cdx (mC m176) 84 = some (84, .aload_n 0, 1, 0, 0, 0, 0, []) := rfl
theorem c176_85 : cdx (mC m176) 85 = some (85, .iload_n 1, 1, 1, 0, 0, 0, []) := rfl
theorem c176_86 : cdx (mC m176) 86 = some (86, .iload_n 2, 1, 2, 0, 0, 0, []) := rfl
theorem c176_87 : cdx (mC m176) 87 = some (87, .iconst 4, 1, 0, 0, 0, 0, []) := rfl
theorem c176_88 : cdx (mC m176) 88 = some (88, .iadd, 1, 0, 0, 0, 0, []) := rfl
theorem c176_89 : cdx (mC m176) 89 = some (89, .invokevirtual 209, 3, 170, 2, 0, 5199, [(10, 0)]) := rfl
theorem c176_92 : cdx (mC m176) 92 = some (92, .ifCond .eq 7, 3, 99, 0, 0, 0, []) := rfl
theorem c176_95 : cdx (mC m176) 95 = some (95, .iconst 1, 1, 0, 0, 0, 0, []) := rfl
theorem c176_96 : cdx (mC m176) 96 = some (96, .goto 4, 3, 100, 0, 0, 0, []) := rfl
theorem c176_99 : cdx (mC m176) 99 = some (99, .iconst 0, 1, 0, 0, 0, 0, []) := rfl
theorem c176_100 : cdx (mC m176) 100 = some (100, .iadd, 1, 0, 0, 0, 0, []) := rfl
theorem c176_101 : cdx (mC m176) 101 = some (101, .istore_n 3, 1, 3, 0, 0, 0, []) := rfl
theorem c176_102 : cdx (mC m176) 102 = some (102, .iload_n 3, 1, 3, 0, 0, 0, []) := rfl
theorem c176_103 : cdx (mC m176) 103 = some (103, .ireturn, 1, 0, 0, 0, 0, []) := rfl
def lv176 : List (Nat × List Nat) := [(0, [0, 1, 2]), (1, [0, 1, 2]), (2, [0, 1, 2, 3]), (3, [0, 1, 2]), (4, [0, 1, 2]), (5, [0, 1, 2]), (6, [0, 1, 2]), (9, [0, 1, 2]), (10, [0, 1, 2]), (11, [0, 1, 2]), (12, [0, 1, 2]), (13, [0, 1, 2]), (14, [0, 1, 2]), (17, [0, 1, 2]), (20, [0, 1, 2]), (21, [0, 1, 2]), (24, [0, 1, 2]), (25, [0, 1, 2]), (26, [0, 1, 2]), (27, [0, 1, 2, 3]), (28, [0, 1, 2]), (29, [0, 1, 2]), (30, [0, 1, 2]), (31, [0, 1, 2]), (32, [0, 1, 2]), (35, [0, 1, 2]), (36, [0, 1, 2]), (37, [0, 1, 2]), (38, [0, 1, 2]), (39, [0, 1, 2]), (40, [0, 1, 2]), (43, [0, 1, 2]), (46, [0, 1, 2]), (47, [0, 1, 2]), (50, [0, 1, 2]), (51, [0, 1, 2]), (52, [0, 1, 2]), (53, [0, 1, 2, 3]), (54, [0, 1, 2]), (55, [0, 1, 2]), (56, [0, 1, 2]), (59, [0, 1, 2]), (60, [0, 1, 2]), (61, [0, 1, 2]), (62, [0, 1, 2]), (63, [0, 1, 2]), (64, [0, 1, 2]), (67, [0, 1, 2]), (70, [0, 1, 2]), (71, [0, 1, 2]), (74, [0, 1, 2]), (75, [0, 1, 2]), (76, [0, 1, 2]), (77, [0, 1, 2, 3]), (78, [0, 1, 2]), (79, [0, 1, 2]), (81, [0, 1, 2]), (84, [0, 1, 2]), (85, [1, 2]), (86, [2]), (102, [3])]
theorem lvok176 : lvOk (mC m176) lv176 = true := by decide +kernel
theorem b176_0 {X : Nat × (Nat → Int32)} {d : Nat} {I : Nat → Nat → Int32} {L : Nat → Nat → Int64} {Q : Option Value → XW → Prop} {x1 : Int32} {x2 : Int32}  : wp X (d + 1) m176 0 [some (.ref 124), some (.int x1), some (.int x2), none] [] (K0, R0, I, L) Q ↔ (if 0 < (x2 - x2 / 4 * 4) then wp X d m170 0 [some (.ref 124), some (.int x1), some (.int (x2 - 1))] [] (K0, R0, I, L) (fun r w1 => wp X (d + 1) m176 17 [some (.ref 124), some (.int x1), some (.int x2), none] (r.toList ++ [(.int 0)]) w1 Q) else wp X (d + 1) m176 25 [some (.ref 124), some (.int x1), some (.int x2), none] [(.int 0), (.int 0)] (K0, R0, I, L) Q) := (w_iconst (pc' := 1) (v := 0) c176_0 rfl rfl).trans ((w_istore_n (pc' := 2) (ls' := [some (.ref 124), some (.int x1), some (.int x2), some (.int 0)]) c176_1 (Nat.le_of_ble_eq_true rfl) rfl rfl).trans ((w_iload_n (pc' := 3) c176_2 rfl rfl).trans ((w_iload_n (pc' := 4) c176_3 rfl rfl).trans ((w_iconst (pc' := 5) (v := 4) c176_4 rfl rfl).trans (((w_irem (pc' := 6) c176_5 rfl).trans (and_iff_right (by decide))).trans ((w_if_le (pc' := 9) c176_6 rfl).trans (ite_iff ((w_aload_n (pc' := 10) c176_9 rfl rfl).trans ((w_iload_n (pc' := 11) c176_10 rfl rfl).trans ((w_iload_n (pc' := 12) c176_11 rfl rfl).trans ((w_iconst (pc' := 13) (v := 1) c176_12 rfl rfl).trans ((w_isub (pc' := 14) c176_13 rfl).trans ((w_callv (pc' := 17) c176_14 mt170 rfl (Nat.le_of_ble_eq_true rfl) rfl kd_124 rfl rfl (Nat.le_of_ble_eq_true rfl) rfl rfl).trans (wp_congr (fun r w1 => wp_msk lvok176 rfl)))))))) ((w_iconst (pc' := 25) (v := 0) c176_24 rfl rfl).trans ((wp_msk lvok176 rfl))))))))))
theorem b176_17 {X : Nat × (Nat → Int32)} {d : Nat} {I : Nat → Nat → Int32} {L : Nat → Nat → Int64} {Q : Option Value → XW → Prop} {x1 : Int32} {x2 : Int32} {s0 : Int32} {s1 : Int32}  : wp X d m176 17 [some (.ref 124), some (.int x1), some (.int x2), none] [(.int s1), (.int s0)] (K0, R0, I, L) Q ↔ wp X d m176 25 [some (.ref 124), some (.int x1), some (.int x2), none] [(.int (if s1 = 0 then 0 else 1)), (.int s0)] (K0, R0, I, L) Q := (w_if_eq (pc' := 20) c176_17 rfl).trans ((ite_iff ((w_iconst (pc' := 25) (v := 0) c176_24 rfl rfl)) ((w_iconst (pc' := 21) (v := 1) c176_20 rfl rfl).trans ((w_goto c176_21)))).trans (ite_val (fun z => wp X d m176 25 [some (.ref 124), some (.int x1), some (.int x2), none] [(.int z), (.int s0)] (K0, R0, I, L) Q)))
theorem b176_25 {X : Nat × (Nat → Int32)} {d : Nat} {I : Nat → Nat → Int32} {L : Nat → Nat → Int64} {Q : Option Value → XW → Prop} {x1 : Int32} {x2 : Int32} {s0 : Int32} {s1 : Int32}  : wp X (d + 1) m176 25 [some (.ref 124), some (.int x1), some (.int x2), none] [(.int s1), (.int s0)] (K0, R0, I, L) Q ↔ (if (x2 - x2 / 4 * 4) < 3 then wp X d m170 0 [some (.ref 124), some (.int x1), some (.int (x2 + 1))] [] (K0, R0, I, L) (fun r w1 => wp X (d + 1) m176 43 [some (.ref 124), some (.int x1), some (.int x2), none] (r.toList ++ [(.int (s0 + s1))]) w1 Q) else wp X (d + 1) m176 51 [some (.ref 124), some (.int x1), some (.int x2), none] [(.int 0), (.int (s0 + s1))] (K0, R0, I, L) Q) := (w_iadd (pc' := 26) c176_25 rfl).trans ((w_istore_n (pc' := 27) (ls' := [some (.ref 124), some (.int x1), some (.int x2), some (.int (s0 + s1))]) c176_26 (Nat.le_of_ble_eq_true rfl) rfl rfl).trans ((w_iload_n (pc' := 28) c176_27 rfl rfl).trans ((w_iload_n (pc' := 29) c176_28 rfl rfl).trans ((w_iconst (pc' := 30) (v := 4) c176_29 rfl rfl).trans (((w_irem (pc' := 31) c176_30 rfl).trans (and_iff_right (by decide))).trans ((w_iconst (pc' := 32) (v := 3) c176_31 rfl rfl).trans ((w_icmp_ge (pc' := 35) c176_32 rfl).trans (ite_iff ((w_aload_n (pc' := 36) c176_35 rfl rfl).trans ((w_iload_n (pc' := 37) c176_36 rfl rfl).trans ((w_iload_n (pc' := 38) c176_37 rfl rfl).trans ((w_iconst (pc' := 39) (v := 1) c176_38 rfl rfl).trans ((w_iadd (pc' := 40) c176_39 rfl).trans ((w_callv (pc' := 43) c176_40 mt170 rfl (Nat.le_of_ble_eq_true rfl) rfl kd_124 rfl rfl (Nat.le_of_ble_eq_true rfl) rfl rfl).trans (wp_congr (fun r w1 => wp_msk lvok176 rfl)))))))) ((w_iconst (pc' := 51) (v := 0) c176_50 rfl rfl).trans ((wp_msk lvok176 rfl)))))))))))
theorem b176_43 {X : Nat × (Nat → Int32)} {d : Nat} {I : Nat → Nat → Int32} {L : Nat → Nat → Int64} {Q : Option Value → XW → Prop} {x1 : Int32} {x2 : Int32} {s0 : Int32} {s1 : Int32}  : wp X d m176 43 [some (.ref 124), some (.int x1), some (.int x2), none] [(.int s1), (.int s0)] (K0, R0, I, L) Q ↔ wp X d m176 51 [some (.ref 124), some (.int x1), some (.int x2), none] [(.int (if s1 = 0 then 0 else 1)), (.int s0)] (K0, R0, I, L) Q := (w_if_eq (pc' := 46) c176_43 rfl).trans ((ite_iff ((w_iconst (pc' := 51) (v := 0) c176_50 rfl rfl)) ((w_iconst (pc' := 47) (v := 1) c176_46 rfl rfl).trans ((w_goto c176_47)))).trans (ite_val (fun z => wp X d m176 51 [some (.ref 124), some (.int x1), some (.int x2), none] [(.int z), (.int s0)] (K0, R0, I, L) Q)))
theorem b176_51 {X : Nat × (Nat → Int32)} {d : Nat} {I : Nat → Nat → Int32} {L : Nat → Nat → Int64} {Q : Option Value → XW → Prop} {x1 : Int32} {x2 : Int32} {s0 : Int32} {s1 : Int32}  : wp X (d + 1) m176 51 [some (.ref 124), some (.int x1), some (.int x2), none] [(.int s1), (.int s0)] (K0, R0, I, L) Q ↔ (if 3 < x2 then wp X d m170 0 [some (.ref 124), some (.int x1), some (.int (x2 - 4))] [] (K0, R0, I, L) (fun r w1 => wp X (d + 1) m176 67 [some (.ref 124), some (.int x1), some (.int x2), none] (r.toList ++ [(.int (s0 + s1))]) w1 Q) else wp X (d + 1) m176 75 [some (.ref 124), some (.int x1), some (.int x2), none] [(.int 0), (.int (s0 + s1))] (K0, R0, I, L) Q) := (w_iadd (pc' := 52) c176_51 rfl).trans ((w_istore_n (pc' := 53) (ls' := [some (.ref 124), some (.int x1), some (.int x2), some (.int (s0 + s1))]) c176_52 (Nat.le_of_ble_eq_true rfl) rfl rfl).trans ((w_iload_n (pc' := 54) c176_53 rfl rfl).trans ((w_iload_n (pc' := 55) c176_54 rfl rfl).trans ((w_iconst (pc' := 56) (v := 3) c176_55 rfl rfl).trans ((w_icmp_le (pc' := 59) c176_56 rfl).trans (ite_iff ((w_aload_n (pc' := 60) c176_59 rfl rfl).trans ((w_iload_n (pc' := 61) c176_60 rfl rfl).trans ((w_iload_n (pc' := 62) c176_61 rfl rfl).trans ((w_iconst (pc' := 63) (v := 4) c176_62 rfl rfl).trans ((w_isub (pc' := 64) c176_63 rfl).trans ((w_callv (pc' := 67) c176_64 mt170 rfl (Nat.le_of_ble_eq_true rfl) rfl kd_124 rfl rfl (Nat.le_of_ble_eq_true rfl) rfl rfl).trans (wp_congr (fun r w1 => wp_msk lvok176 rfl)))))))) ((w_iconst (pc' := 75) (v := 0) c176_74 rfl rfl).trans ((wp_msk lvok176 rfl)))))))))
theorem b176_67 {X : Nat × (Nat → Int32)} {d : Nat} {I : Nat → Nat → Int32} {L : Nat → Nat → Int64} {Q : Option Value → XW → Prop} {x1 : Int32} {x2 : Int32} {s0 : Int32} {s1 : Int32}  : wp X d m176 67 [some (.ref 124), some (.int x1), some (.int x2), none] [(.int s1), (.int s0)] (K0, R0, I, L) Q ↔ wp X d m176 75 [some (.ref 124), some (.int x1), some (.int x2), none] [(.int (if s1 = 0 then 0 else 1)), (.int s0)] (K0, R0, I, L) Q := (w_if_eq (pc' := 70) c176_67 rfl).trans ((ite_iff ((w_iconst (pc' := 75) (v := 0) c176_74 rfl rfl)) ((w_iconst (pc' := 71) (v := 1) c176_70 rfl rfl).trans ((w_goto c176_71)))).trans (ite_val (fun z => wp X d m176 75 [some (.ref 124), some (.int x1), some (.int x2), none] [(.int z), (.int s0)] (K0, R0, I, L) Q)))
theorem b176_75 {X : Nat × (Nat → Int32)} {d : Nat} {I : Nat → Nat → Int32} {L : Nat → Nat → Int64} {Q : Option Value → XW → Prop} {x1 : Int32} {x2 : Int32} {s0 : Int32} {s1 : Int32}  : wp X (d + 1) m176 75 [some (.ref 124), some (.int x1), some (.int x2), none] [(.int s1), (.int s0)] (K0, R0, I, L) Q ↔ (if x2 < 8 then wp X d m170 0 [some (.ref 124), some (.int x1), some (.int (x2 + 4))] [] (K0, R0, I, L) (fun r w1 => wp X (d + 1) m176 92 [none, none, none, none] (r.toList ++ [(.int (s0 + s1))]) w1 Q) else Q (some (.int ((s0 + s1) + 0))) (K0, R0, I, L)) := (w_iadd (pc' := 76) c176_75 rfl).trans ((w_istore_n (pc' := 77) (ls' := [some (.ref 124), some (.int x1), some (.int x2), some (.int (s0 + s1))]) c176_76 (Nat.le_of_ble_eq_true rfl) rfl rfl).trans ((w_iload_n (pc' := 78) c176_77 rfl rfl).trans ((w_iload_n (pc' := 79) c176_78 rfl rfl).trans ((w_bipush (pc' := 81) (v := 8) c176_79 rfl rfl).trans ((w_icmp_ge (pc' := 84) c176_81 rfl).trans (ite_iff ((w_aload_n (pc' := 85) c176_84 rfl rfl).trans ((w_iload_n (pc' := 86) c176_85 rfl rfl).trans ((w_iload_n (pc' := 87) c176_86 rfl rfl).trans ((w_iconst (pc' := 88) (v := 4) c176_87 rfl rfl).trans ((w_iadd (pc' := 89) c176_88 rfl).trans ((w_callv (pc' := 92) c176_89 mt170 rfl (Nat.le_of_ble_eq_true rfl) rfl kd_124 rfl rfl (Nat.le_of_ble_eq_true rfl) rfl rfl).trans (wp_congr (fun r w1 => wp_msk lvok176 rfl)))))))) ((w_iconst (pc' := 100) (v := 0) c176_99 rfl rfl).trans ((w_iadd (pc' := 101) c176_100 rfl).trans ((w_istore_n (pc' := 102) (ls' := [some (.ref 124), some (.int x1), some (.int x2), some (.int ((s0 + s1) + 0))]) c176_101 (Nat.le_of_ble_eq_true rfl) rfl rfl).trans ((w_iload_n (pc' := 103) c176_102 rfl rfl).trans (w_iret c176_103 rfl)))))))))))
theorem b176_92 {X : Nat × (Nat → Int32)} {d : Nat} {I : Nat → Nat → Int32} {L : Nat → Nat → Int64} {Q : Option Value → XW → Prop} {s0 : Int32} {s1 : Int32}  : wp X d m176 92 [none, none, none, none] [(.int s1), (.int s0)] (K0, R0, I, L) Q ↔ Q (some (.int (if s1 = 0 then (s0 + 0) else (s0 + 1)))) (K0, R0, I, L) := (w_if_eq (pc' := 95) c176_92 rfl).trans ((ite_iff ((w_iconst (pc' := 100) (v := 0) c176_99 rfl rfl).trans ((w_iadd (pc' := 101) c176_100 rfl).trans ((w_istore_n (pc' := 102) (ls' := [none, none, none, some (.int (s0 + 0))]) c176_101 (Nat.le_of_ble_eq_true rfl) rfl rfl).trans ((w_iload_n (pc' := 103) c176_102 rfl rfl).trans (w_iret c176_103 rfl))))) ((w_iconst (pc' := 96) (v := 1) c176_95 rfl rfl).trans ((w_goto c176_96).trans ((w_iadd (pc' := 101) c176_100 rfl).trans ((w_istore_n (pc' := 102) (ls' := [none, none, none, some (.int (s0 + 1))]) c176_101 (Nat.le_of_ble_eq_true rfl) rfl rfl).trans ((w_iload_n (pc' := 103) c176_102 rfl rfl).trans (w_iret c176_103 rfl))))))).trans (ite_val (fun z => Q (some (.int z)) (K0, R0, I, L))))
-- LeavesObjectModel.moved(III)I
theorem c177_0 : cdx (mC m177) 0 = some (0, .iconst 0, 1, 0, 0, 0, 0, []) := rfl
theorem c177_1 : cdx (mC m177) 1 = some (1, .istore 4, 2, 4, 0, 0, 0, []) := rfl
theorem c177_3 : cdx (mC m177) 3 = some (3, .iconst 0, 1, 0, 0, 0, 0, []) := rfl
theorem c177_4 : cdx (mC m177) 4 = some (4, .istore 5, 2, 5, 0, 0, 0, []) := rfl
theorem c177_6 : cdx (mC m177) 6 = some (6, .iload 5, 2, 5, 0, 0, 0, []) := rfl
theorem c177_8 : cdx (mC m177) 8 = some (8, .bipush 12, 2, 0, 0, 0, 0, []) := rfl
theorem c177_10 : cdx (mC m177) 10 = some (10, .if_icmp .ge 49, 3, 59, 0, 0, 0, []) := rfl
theorem c177_13 : cdx (mC m177) 13 = some (13, .iload 4, 2, 4, 0, 0, 0, []) := rfl
theorem c177_15 : cdx (mC m177) 15 = some (15, .aload_n 0, 1, 0, 0, 0, 0, []) := rfl
theorem c177_16 : cdx (mC m177) 16 = some (16, .iload_n 1, 1, 1, 0, 0, 0, []) := rfl
theorem c177_17 : cdx (mC m177) 17 = some (17, .iload 5, 2, 5, 0, 0, 0, []) := rfl
theorem c177_19 : cdx (mC m177) 19 = some (19, .invokevirtual 209, 3, 170, 2, 0, 5199, [(10, 0)]) := rfl
theorem c177_22 : cdx (mC m177) 22 = some (22, .ifCond .eq 27, 3, 49, 0, 0, 0, []) := rfl
theorem c177_25 : cdx (mC m177) 25 = some (25, .iconst 1, 1, 0, 0, 0, 0, []) := rfl
theorem c177_26 : cdx (mC m177) 26 = some (26, .iload 5, 2, 5, 0, 0, 0, []) := rfl
theorem c177_28 : cdx (mC m177) 28 = some (28, .iconst 4, 1, 0, 0, 0, 0, []) := rfl
theorem c177_29 : cdx (mC m177) 29 = some (29, .idiv, 1, 0, 0, 0, 0, []) := rfl
theorem c177_30 : cdx (mC m177) 30 = some (30, .iload_n 2, 1, 2, 0, 0, 0, []) := rfl
theorem c177_31 : cdx (mC m177) 31 = some (31, .iadd, 1, 0, 0, 0, 0, []) := rfl
theorem c177_32 : cdx (mC m177) 32 = some (32, .iconst 3, 1, 0, 0, 0, 0, []) := rfl
theorem c177_33 : cdx (mC m177) 33 = some (33, .irem, 1, 0, 0, 0, 0, []) := rfl
theorem c177_34 : cdx (mC m177) 34 = some (34, .iconst 4, 1, 0, 0, 0, 0, []) := rfl
theorem c177_35 : cdx (mC m177) 35 = some (35, .imul, 1, 0, 0, 0, 0, []) := rfl
theorem c177_36 : cdx (mC m177) 36 = some (36, .iload 5, 2, 5, 0, 0, 0, []) := rfl
theorem c177_38 : cdx (mC m177) 38 = some (38, .iconst 4, 1, 0, 0, 0, 0, []) := rfl
theorem c177_39 : cdx (mC m177) 39 = some (39, .irem, 1, 0, 0, 0, 0, []) := rfl
theorem c177_40 : cdx (mC m177) 40 = some (40, .iload_n 3, 1, 3, 0, 0, 0, []) := rfl
theorem c177_41 : cdx (mC m177) 41 = some (41, .iadd, 1, 0, 0, 0, 0, []) := rfl
theorem c177_42 : cdx (mC m177) 42 = some (42, .iconst 4, 1, 0, 0, 0, 0, []) := rfl
theorem c177_43 : cdx (mC m177) 43 = some (43, .irem, 1, 0, 0, 0, 0, []) := rfl
theorem c177_44 : cdx (mC m177) 44 = some (44, .iadd, 1, 0, 0, 0, 0, []) := rfl
theorem c177_45 : cdx (mC m177) 45 = some (45, .ishl, 1, 0, 0, 0, 0, []) := rfl
theorem c177_46 : cdx (mC m177) 46 = some (46, .goto 4, 3, 50, 0, 0, 0, []) := rfl
theorem c177_49 : cdx (mC m177) 49 = some (49, .iconst 0, 1, 0, 0, 0, 0, []) := rfl
theorem c177_50 : cdx (mC m177) 50 = some (50, .ior, 1, 0, 0, 0, 0, []) := rfl
theorem c177_51 : cdx (mC m177) 51 = some (51, .istore 4, 2, 4, 0, 0, 0, []) := rfl
theorem c177_53 : cdx (mC m177) 53 = some (53, .iinc 5 1, 3, 5, 0, 0, 0, []) := rfl
theorem c177_56 : cdx (mC m177) 56 = some (56, .goto (-50), 3, 6, 0, 0, 0, []) := rfl
theorem c177_59 : cdx (mC m177) 59 = some (59, .iload 4, 2, 4, 0, 0, 0, []) := rfl
theorem c177_61 : cdx (mC m177) 61 = some (61, .ireturn, 1, 0, 0, 0, 0, []) := rfl
def lv177 : List (Nat × List Nat) := [(0, [0, 1, 2, 3]), (1, [0, 1, 2, 3]), (3, [0, 1, 2, 3, 4]), (4, [0, 1, 2, 3, 4]), (6, [0, 1, 2, 3, 4, 5]), (8, [0, 1, 2, 3, 4, 5]), (10, [0, 1, 2, 3, 4, 5]), (13, [0, 1, 2, 3, 4, 5]), (15, [0, 1, 2, 3, 5]), (16, [0, 1, 2, 3, 5]), (17, [0, 1, 2, 3, 5]), (19, [0, 1, 2, 3, 5]), (22, [0, 1, 2, 3, 5]), (25, [0, 1, 2, 3, 5]), (26, [0, 1, 2, 3, 5]), (28, [0, 1, 2, 3, 5]), (29, [0, 1, 2, 3, 5]), (30, [0, 1, 2, 3, 5]), (31, [0, 1, 2, 3, 5]), (32, [0, 1, 2, 3, 5]), (33, [0, 1, 2, 3, 5]), (34, [0, 1, 2, 3, 5]), (35, [0, 1, 2, 3, 5]), (36, [0, 1, 2, 3, 5]), (38, [0, 1, 2, 3, 5]), (39, [0, 1, 2, 3, 5]), (40, [0, 1, 2, 3, 5]), (41, [0, 1, 2, 3, 5]), (42, [0, 1, 2, 3, 5]), (43, [0, 1, 2, 3, 5]), (44, [0, 1, 2, 3, 5]), (45, [0, 1, 2, 3, 5]), (46, [0, 1, 2, 3, 5]), (49, [0, 1, 2, 3, 5]), (50, [0, 1, 2, 3, 5]), (51, [0, 1, 2, 3, 5]), (53, [0, 1, 2, 3, 4, 5]), (56, [0, 1, 2, 3, 4, 5]), (59, [4])]
theorem lvok177 : lvOk (mC m177) lv177 = true := by decide +kernel
theorem b177_0 {X : Nat × (Nat → Int32)} {d : Nat} {I : Nat → Nat → Int32} {L : Nat → Nat → Int64} {Q : Option Value → XW → Prop} {x1 : Int32} {x2 : Int32} {x3 : Int32}  : wp X d m177 0 [some (.ref 124), some (.int x1), some (.int x2), some (.int x3), none, none] [] (K0, R0, I, L) Q ↔ wp X d m177 6 [some (.ref 124), some (.int x1), some (.int x2), some (.int x3), some (.int 0), some (.int 0)] [] (K0, R0, I, L) Q := (w_iconst (pc' := 1) (v := 0) c177_0 rfl rfl).trans ((w_istore (pc' := 3) (ls' := [some (.ref 124), some (.int x1), some (.int x2), some (.int x3), some (.int 0), none]) c177_1 (Nat.le_of_ble_eq_true rfl) rfl rfl).trans ((w_iconst (pc' := 4) (v := 0) c177_3 rfl rfl).trans ((w_istore (pc' := 6) (ls' := [some (.ref 124), some (.int x1), some (.int x2), some (.int x3), some (.int 0), some (.int 0)]) c177_4 (Nat.le_of_ble_eq_true rfl) rfl rfl))))
theorem b177_6 {X : Nat × (Nat → Int32)} {d : Nat} {I : Nat → Nat → Int32} {L : Nat → Nat → Int64} {Q : Option Value → XW → Prop} {x1 : Int32} {x2 : Int32} {x3 : Int32} {x4 : Int32} {x5 : Int32}  : wp X (d + 1) m177 6 [some (.ref 124), some (.int x1), some (.int x2), some (.int x3), some (.int x4), some (.int x5)] [] (K0, R0, I, L) Q ↔ (if x5 < 12 then wp X d m170 0 [some (.ref 124), some (.int x1), some (.int x5)] [] (K0, R0, I, L) (fun r w1 => wp X (d + 1) m177 22 [some (.ref 124), some (.int x1), some (.int x2), some (.int x3), none, some (.int x5)] (r.toList ++ [(.int x4)]) w1 Q) else Q (some (.int x4)) (K0, R0, I, L)) := (w_iload (pc' := 8) c177_6 rfl rfl).trans ((w_bipush (pc' := 10) (v := 12) c177_8 rfl rfl).trans ((w_icmp_ge (pc' := 13) c177_10 rfl).trans (ite_iff ((w_iload (pc' := 15) c177_13 rfl rfl).trans ((w_aload_n (pc' := 16) c177_15 rfl rfl).trans ((w_iload_n (pc' := 17) c177_16 rfl rfl).trans ((w_iload (pc' := 19) c177_17 rfl rfl).trans ((w_callv (pc' := 22) c177_19 mt170 rfl (Nat.le_of_ble_eq_true rfl) rfl kd_124 rfl rfl (Nat.le_of_ble_eq_true rfl) rfl rfl).trans (wp_congr (fun r w1 => wp_msk lvok177 rfl))))))) ((w_iload (pc' := 61) c177_59 rfl rfl).trans (w_iret c177_61 rfl)))))
theorem b177_22 {X : Nat × (Nat → Int32)} {d : Nat} {I : Nat → Nat → Int32} {L : Nat → Nat → Int64} {Q : Option Value → XW → Prop} {x1 : Int32} {x2 : Int32} {x3 : Int32} {x5 : Int32} {s0 : Int32} {s1 : Int32}  : wp X d m177 22 [some (.ref 124), some (.int x1), some (.int x2), some (.int x3), none, some (.int x5)] [(.int s1), (.int s0)] (K0, R0, I, L) Q ↔ wp X d m177 6 [some (.ref 124), some (.int x1), some (.int x2), some (.int x3), some (.int (if s1 = 0 then (s0 ||| (0 : Int32)) else (s0 ||| ((1 : Int32) <<< ((((((x5 / 4) + x2) - ((x5 / 4) + x2) / 3 * 3) * 4) + (((x5 - x5 / 4 * 4) + x3) - ((x5 - x5 / 4 * 4) + x3) / 4 * 4)) &&& 31))))), some (.int (x5 + 1))] [] (K0, R0, I, L) Q := (w_if_eq (pc' := 25) c177_22 rfl).trans ((ite_iff ((w_iconst (pc' := 50) (v := 0) c177_49 rfl rfl).trans ((w_ior (pc' := 51) c177_50 rfl).trans ((w_istore (pc' := 53) (ls' := [some (.ref 124), some (.int x1), some (.int x2), some (.int x3), some (.int (s0 ||| (0 : Int32))), some (.int x5)]) c177_51 (Nat.le_of_ble_eq_true rfl) rfl rfl).trans ((w_iinc (pc' := 56) (v := (x5 + 1)) (ls' := [some (.ref 124), some (.int x1), some (.int x2), some (.int x3), some (.int (s0 ||| (0 : Int32))), some (.int (x5 + 1))]) c177_53 (Nat.le_of_ble_eq_true rfl) rfl rfl rfl rfl).trans ((w_goto c177_56)))))) ((w_iconst (pc' := 26) (v := 1) c177_25 rfl rfl).trans ((w_iload (pc' := 28) c177_26 rfl rfl).trans ((w_iconst (pc' := 29) (v := 4) c177_28 rfl rfl).trans (((w_idiv (pc' := 30) c177_29 rfl).trans (and_iff_right (by decide))).trans ((w_iload_n (pc' := 31) c177_30 rfl rfl).trans ((w_iadd (pc' := 32) c177_31 rfl).trans ((w_iconst (pc' := 33) (v := 3) c177_32 rfl rfl).trans (((w_irem (pc' := 34) c177_33 rfl).trans (and_iff_right (by decide))).trans ((w_iconst (pc' := 35) (v := 4) c177_34 rfl rfl).trans ((w_imul (pc' := 36) c177_35 rfl).trans ((w_iload (pc' := 38) c177_36 rfl rfl).trans ((w_iconst (pc' := 39) (v := 4) c177_38 rfl rfl).trans (((w_irem (pc' := 40) c177_39 rfl).trans (and_iff_right (by decide))).trans ((w_iload_n (pc' := 41) c177_40 rfl rfl).trans ((w_iadd (pc' := 42) c177_41 rfl).trans ((w_iconst (pc' := 43) (v := 4) c177_42 rfl rfl).trans (((w_irem (pc' := 44) c177_43 rfl).trans (and_iff_right (by decide))).trans ((w_iadd (pc' := 45) c177_44 rfl).trans ((w_ishl (pc' := 46) c177_45 rfl).trans ((w_goto c177_46).trans ((w_ior (pc' := 51) c177_50 rfl).trans ((w_istore (pc' := 53) (ls' := [some (.ref 124), some (.int x1), some (.int x2), some (.int x3), some (.int (s0 ||| ((1 : Int32) <<< ((((((x5 / 4) + x2) - ((x5 / 4) + x2) / 3 * 3) * 4) + (((x5 - x5 / 4 * 4) + x3) - ((x5 - x5 / 4 * 4) + x3) / 4 * 4)) &&& 31)))), some (.int x5)]) c177_51 (Nat.le_of_ble_eq_true rfl) rfl rfl).trans ((w_iinc (pc' := 56) (v := (x5 + 1)) (ls' := [some (.ref 124), some (.int x1), some (.int x2), some (.int x3), some (.int (s0 ||| ((1 : Int32) <<< ((((((x5 / 4) + x2) - ((x5 / 4) + x2) / 3 * 3) * 4) + (((x5 - x5 / 4 * 4) + x3) - ((x5 - x5 / 4 * 4) + x3) / 4 * 4)) &&& 31)))), some (.int (x5 + 1))]) c177_53 (Nat.le_of_ble_eq_true rfl) rfl rfl rfl rfl).trans ((w_goto c177_56)))))))))))))))))))))))))).trans (ite_val (fun z => wp X d m177 6 [some (.ref 124), some (.int x1), some (.int x2), some (.int x3), some (.int z), some (.int (x5 + 1))] [] (K0, R0, I, L) Q)))
