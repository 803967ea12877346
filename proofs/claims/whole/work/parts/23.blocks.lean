/-! Block equations of the methods 10 to 46 (printed by a program of ours out of their code). -/
-- java/lang/Math.max(II)I
theorem c3_0 : cdx (mC m3) 0 = some (0, .iload_n 0, 1, 0, 0, 0, 0, []) := rfl
theorem c3_1 : cdx (mC m3) 1 = some (1, .iload_n 1, 1, 1, 0, 0, 0, []) := rfl
theorem c3_2 : cdx (mC m3) 2 = some (2, .if_icmp .lt 7, 3, 9, 0, 0, 0, []) := rfl
theorem c3_5 : cdx (mC m3) 5 = some (5, .iload_n 0, 1, 0, 0, 0, 0, []) := rfl
theorem c3_6 : cdx (mC m3) 6 = some (6, .goto 4, 3, 10, 0, 0, 0, []) := rfl
theorem c3_9 : cdx (mC m3) 9 = some (9, .iload_n 1, 1, 1, 0, 0, 0, []) := rfl
theorem c3_10 : cdx (mC m3) 10 = some (10, .ireturn, 1, 0, 0, 0, 0, []) := rfl
theorem b3_0 {X : Nat × (Nat → Int32)} {d : Nat} {I : Nat → Nat → Int32} {L : Nat → Nat → Int64} {Q : Option Value → XW → Prop} {x0 : Int32} {x1 : Int32}  : wp X d m3 0 [some (.int x0), some (.int x1)] [] (K0, R0, I, L) Q ↔ Q (some (.int (if x0 < x1 then x1 else x0))) (K0, R0, I, L) := (w_iload_n (pc' := 1) c3_0 rfl rfl).trans ((w_iload_n (pc' := 2) c3_1 rfl rfl).trans ((w_icmp_lt (pc' := 5) c3_2 rfl).trans ((ite_iff ((w_iload_n (pc' := 10) c3_9 rfl rfl).trans (w_iret c3_10 rfl)) ((w_iload_n (pc' := 6) c3_5 rfl rfl).trans ((w_goto c3_6).trans (w_iret c3_10 rfl)))).trans (ite_val (fun z => Q (some (.int z)) (K0, R0, I, L))))))
-- LeavesObject.cup(III)I
theorem c10_0 : cdx (mC m10) 0 = some (0, .iload_n 1, 1, 1, 0, 0, 0, []) := rfl
theorem c10_1 : cdx (mC m10) 1 = some (1, .ifCond .lt 9, 3, 10, 0, 0, 0, []) := rfl
theorem c10_4 : cdx (mC m10) 4 = some (4, .iload_n 1, 1, 1, 0, 0, 0, []) := rfl
theorem c10_5 : cdx (mC m10) 5 = some (5, .bipush 7, 2, 0, 0, 0, 0, []) := rfl
theorem c10_7 : cdx (mC m10) 7 = some (7, .if_icmp .lt 5, 3, 12, 0, 0, 0, []) := rfl
theorem c10_10 : cdx (mC m10) 10 = some (10, .iconst (-1), 1, 0, 0, 0, 0, []) := rfl
theorem c10_11 : cdx (mC m10) 11 = some (11, .ireturn, 1, 0, 0, 0, 0, []) := rfl
theorem c10_12 : cdx (mC m10) 12 = some (12, .iload_n 2, 1, 2, 0, 0, 0, []) := rfl
theorem c10_13 : cdx (mC m10) 13 = some (13, .invokestatic 70, 3, 11, 1, 4, 2040, []) := rfl
theorem c10_16 : cdx (mC m10) 16 = some (16, .ifCond .eq 10, 3, 26, 0, 0, 0, []) := rfl
theorem c10_19 : cdx (mC m10) 19 = some (19, .iload_n 3, 1, 3, 0, 0, 0, []) := rfl
theorem c10_20 : cdx (mC m10) 20 = some (20, .invokestatic 74, 3, 12, 1, 4, 2043, []) := rfl
theorem c10_23 : cdx (mC m10) 23 = some (23, .ifCond .ne 6, 3, 29, 0, 0, 0, []) := rfl
theorem c10_26 : cdx (mC m10) 26 = some (26, .bipush (-2), 2, 0, 0, 0, 0, []) := rfl
theorem c10_28 : cdx (mC m10) 28 = some (28, .ireturn, 1, 0, 0, 0, 0, []) := rfl
theorem c10_29 : cdx (mC m10) 29 = some (29, .aload_n 0, 1, 0, 0, 0, 0, []) := rfl
theorem c10_30 : cdx (mC m10) 30 = some (30, .getfield 12, 3, 9, 0, 0, 1239, []) := rfl
theorem c10_33 : cdx (mC m10) 33 = some (33, .aload_n 0, 1, 0, 0, 0, 0, []) := rfl
theorem c10_34 : cdx (mC m10) 34 = some (34, .getfield 12, 3, 9, 0, 0, 1239, []) := rfl
theorem c10_37 : cdx (mC m10) 37 = some (37, .getfield 77, 3, 5, 1, 0, 1102, []) := rfl
theorem c10_40 : cdx (mC m10) 40 = some (40, .invokevirtual 81, 3, 13, 1, 0, 2046, [(5, 0)]) := rfl
theorem c10_43 : cdx (mC m10) 43 = some (43, .astore 4, 2, 4, 0, 0, 0, []) := rfl
theorem c10_45 : cdx (mC m10) 45 = some (45, .aload 4, 2, 4, 0, 0, 0, []) := rfl
theorem c10_47 : cdx (mC m10) 47 = some (47, .ifnonnull 6, 3, 53, 0, 0, 0, []) := rfl
theorem c10_50 : cdx (mC m10) 50 = some (50, .bipush (-4), 2, 0, 0, 0, 0, []) := rfl
theorem c10_52 : cdx (mC m10) 52 = some (52, .ireturn, 1, 0, 0, 0, 0, []) := rfl
theorem c10_53 : cdx (mC m10) 53 = some (53, .aload 4, 2, 4, 0, 0, 0, []) := rfl
theorem c10_55 : cdx (mC m10) 55 = some (55, .aload_n 0, 1, 0, 0, 0, 0, []) := rfl
theorem c10_56 : cdx (mC m10) 56 = some (56, .getfield 12, 3, 9, 0, 0, 1239, []) := rfl
theorem c10_59 : cdx (mC m10) 59 = some (59, .getfield 77, 3, 5, 1, 0, 1102, []) := rfl
theorem c10_62 : cdx (mC m10) 62 = some (62, .iload_n 1, 1, 1, 0, 0, 0, []) := rfl
theorem c10_63 : cdx (mC m10) 63 = some (63, .iload_n 2, 1, 2, 0, 0, 0, []) := rfl
theorem c10_64 : cdx (mC m10) 64 = some (64, .iload_n 3, 1, 3, 0, 0, 0, []) := rfl
theorem c10_65 : cdx (mC m10) 65 = some (65, .invokevirtual 85, 3, 14, 4, 0, 2050, [(1, 0)]) := rfl
theorem c10_68 : cdx (mC m10) 68 = some (68, .aload_n 0, 1, 0, 0, 0, 0, []) := rfl
theorem c10_69 : cdx (mC m10) 69 = some (69, .getfield 12, 3, 9, 0, 0, 1239, []) := rfl
theorem c10_72 : cdx (mC m10) 72 = some (72, .dup, 1, 0, 0, 0, 0, []) := rfl
theorem c10_73 : cdx (mC m10) 73 = some (73, .getfield 77, 3, 5, 1, 0, 1102, []) := rfl
theorem c10_76 : cdx (mC m10) 76 = some (76, .iconst 1, 1, 0, 0, 0, 0, []) := rfl
theorem c10_77 : cdx (mC m10) 77 = some (77, .iadd, 1, 0, 0, 0, 0, []) := rfl
theorem c10_78 : cdx (mC m10) 78 = some (78, .putfield 77, 3, 5, 1, 0, 1102, []) := rfl
theorem c10_81 : cdx (mC m10) 81 = some (81, .aload 4, 2, 4, 0, 0, 0, []) := rfl
theorem c10_83 : cdx (mC m10) 83 = some (83, .getfield 89, 3, 1, 0, 0, 1063, []) := rfl
theorem c10_86 : cdx (mC m10) 86 = some (86, .ireturn, 1, 0, 0, 0, 0, []) := rfl
def lv10 : List (Nat × List Nat) := [(0, [0, 1, 2, 3]), (1, [0, 1, 2, 3]), (4, [0, 1, 2, 3]), (5, [0, 1, 2, 3]), (7, [0, 1, 2, 3]), (12, [0, 1, 2, 3]), (13, [0, 1, 2, 3]), (16, [0, 1, 2, 3]), (19, [0, 1, 2, 3]), (20, [0, 1, 2, 3]), (23, [0, 1, 2, 3]), (29, [0, 1, 2, 3]), (30, [0, 1, 2, 3]), (33, [0, 1, 2, 3]), (34, [0, 1, 2, 3]), (37, [0, 1, 2, 3]), (40, [0, 1, 2, 3]), (43, [0, 1, 2, 3]), (45, [0, 1, 2, 3, 4]), (47, [0, 1, 2, 3, 4]), (53, [0, 1, 2, 3, 4]), (55, [0, 1, 2, 3, 4]), (56, [0, 1, 2, 3, 4]), (59, [0, 1, 2, 3, 4]), (62, [0, 1, 2, 3, 4]), (63, [0, 2, 3, 4]), (64, [0, 3, 4]), (65, [0, 4]), (68, [0, 4]), (69, [4]), (72, [4]), (73, [4]), (76, [4]), (77, [4]), (78, [4]), (81, [4])]
theorem lvok10 : lvOk (mC m10) lv10 = true := by decide +kernel
theorem b10_0 {X : Nat × (Nat → Int32)} {d : Nat} {I : Nat → Nat → Int32} {L : Nat → Nat → Int64} {Q : Option Value → XW → Prop} {x1 : Int32} {x2 : Int32} {x3 : Int32}  : wp X (d + 1) m10 0 [some (.ref 0), some (.int x1), some (.int x2), some (.int x3), none] [] (K0, R0, I, L) Q ↔ (if x1 < 0 then Q (some (.int (-1))) (K0, R0, I, L) else (if x1 < 7 then wp X d m11 0 [some (.int x2)] [] (K0, R0, I, L) (fun r w1 => wp X (d + 1) m10 16 [some (.ref 0), some (.int x1), some (.int x2), some (.int x3), none] (r.toList ++ []) w1 Q) else Q (some (.int (-1))) (K0, R0, I, L))) := (w_iload_n (pc' := 1) c10_0 rfl rfl).trans ((w_if_lt (pc' := 4) c10_1 rfl).trans (ite_iff ((w_iconst (pc' := 11) (v := (-1)) c10_10 rfl rfl).trans (w_iret c10_11 rfl)) ((w_iload_n (pc' := 5) c10_4 rfl rfl).trans ((w_bipush (pc' := 7) (v := 7) c10_5 rfl rfl).trans ((w_icmp_lt (pc' := 10) c10_7 rfl).trans (ite_iff ((w_iload_n (pc' := 13) c10_12 rfl rfl).trans ((w_callst (pc' := 16) c10_13 (by decide) mt11 rfl (Nat.le_of_ble_eq_true rfl) rfl rfl (Nat.le_of_ble_eq_true rfl) rfl rfl))) ((w_iconst (pc' := 11) (v := (-1)) c10_10 rfl rfl).trans (w_iret c10_11 rfl))))))))
theorem b10_16 {X : Nat × (Nat → Int32)} {d : Nat} {I : Nat → Nat → Int32} {L : Nat → Nat → Int64} {Q : Option Value → XW → Prop} {x1 : Int32} {x2 : Int32} {x3 : Int32} {s0 : Int32}  : wp X (d + 1) m10 16 [some (.ref 0), some (.int x1), some (.int x2), some (.int x3), none] [(.int s0)] (K0, R0, I, L) Q ↔ (if s0 = 0 then Q (some (.int (-2))) (K0, R0, I, L) else wp X d m12 0 [some (.int x3)] [] (K0, R0, I, L) (fun r w1 => wp X (d + 1) m10 23 [some (.ref 0), some (.int x1), some (.int x2), some (.int x3), none] (r.toList ++ []) w1 Q)) := (w_if_eq (pc' := 19) c10_16 rfl).trans (ite_iff ((w_bipush (pc' := 28) (v := (-2)) c10_26 rfl rfl).trans (w_iret c10_28 rfl)) ((w_iload_n (pc' := 20) c10_19 rfl rfl).trans ((w_callst (pc' := 23) c10_20 (by decide) mt12 rfl (Nat.le_of_ble_eq_true rfl) rfl rfl (Nat.le_of_ble_eq_true rfl) rfl rfl))))
theorem b10_23 {X : Nat × (Nat → Int32)} {d : Nat} {I : Nat → Nat → Int32} {L : Nat → Nat → Int64} {Q : Option Value → XW → Prop} {x1 : Int32} {x2 : Int32} {x3 : Int32} {s0 : Int32}  : wp X (d + 1) m10 23 [some (.ref 0), some (.int x1), some (.int x2), some (.int x3), none] [(.int s0)] (K0, R0, I, L) Q ↔ (if s0 = 0 then Q (some (.int (-2))) (K0, R0, I, L) else wp X d m13 0 [some (.ref 1), some (.int (I 1 1))] [] (K0, R0, I, L) (fun r w1 => wp X (d + 1) m10 43 [some (.ref 0), some (.int x1), some (.int x2), some (.int x3), none] (r.toList ++ []) w1 Q)) := (w_if_ne (pc' := 26) c10_23 rfl).trans (ite_iff ((w_bipush (pc' := 28) (v := (-2)) c10_26 rfl rfl).trans (w_iret c10_28 rfl)) ((w_aload_n (pc' := 30) c10_29 rfl rfl).trans ((w_getR (pc' := 33) (q := 1) c10_30 kd_0 (by decide) rfl rd_0_0 rfl).trans ((w_aload_n (pc' := 34) c10_33 rfl rfl).trans ((w_getR (pc' := 37) (q := 1) c10_34 kd_0 (by decide) rfl rd_0_0 rfl).trans ((w_getIv (pc' := 40) (v := (I 1 1)) c10_37 tbl_1.1 (by decide) rfl (rfl) rfl).trans ((w_callv (pc' := 43) c10_40 mt13 rfl (Nat.le_of_ble_eq_true rfl) rfl tbl_1.1 rfl rfl (Nat.le_of_ble_eq_true rfl) rfl rfl))))))))
theorem b10_43 {X : Nat × (Nat → Int32)} {d : Nat} {I : Nat → Nat → Int32} {L : Nat → Nat → Int64} {Q : Option Value → XW → Prop} {x1 : Int32} {x2 : Int32} {x3 : Int32} {q0 : Nat} (hq0 : isCup q0) : wp X (d + 1) m10 43 [some (.ref 0), some (.int x1), some (.int x2), some (.int x3), none] [(.ref q0)] (K0, R0, I, L) Q ↔ wp X d m14 0 [some (.ref q0), some (.int (I 1 1)), some (.int x1), some (.int x2), some (.int x3)] [] (K0, R0, I, L) (fun r w1 => wp X (d + 1) m10 68 [some (.ref 0), none, none, none, some (.ref q0)] (r.toList ++ []) w1 Q) := (w_astore (pc' := 45) (ls' := [some (.ref 0), some (.int x1), some (.int x2), some (.int x3), some (.ref q0)]) c10_43 (Nat.le_of_ble_eq_true rfl) rfl rfl).trans ((w_aload (pc' := 47) c10_45 rfl rfl).trans ((w_ifnonnull c10_47 (k_lt hq0.1)).trans ((w_aload (pc' := 55) c10_53 rfl rfl).trans ((w_aload_n (pc' := 56) c10_55 rfl rfl).trans ((w_getR (pc' := 59) (q := 1) c10_56 kd_0 (by decide) rfl rd_0_0 rfl).trans ((w_getIv (pc' := 62) (v := (I 1 1)) c10_59 tbl_1.1 (by decide) rfl (rfl) rfl).trans ((w_iload_n (pc' := 63) c10_62 rfl rfl).trans ((w_iload_n (pc' := 64) c10_63 rfl rfl).trans ((w_iload_n (pc' := 65) c10_64 rfl rfl).trans ((w_callv (pc' := 68) c10_65 mt14 rfl (Nat.le_of_ble_eq_true rfl) rfl hq0.1 rfl rfl (Nat.le_of_ble_eq_true rfl) rfl rfl).trans (wp_congr (fun r w1 => wp_msk lvok10 rfl))))))))))))
theorem b10_43_1 {X : Nat × (Nat → Int32)} {d : Nat} {I : Nat → Nat → Int32} {L : Nat → Nat → Int64} {Q : Option Value → XW → Prop} {x1 : Int32} {x2 : Int32} {x3 : Int32}  : wp X d m10 43 [some (.ref 0), some (.int x1), some (.int x2), some (.int x3), none] [.null] (K0, R0, I, L) Q ↔ Q (some (.int (-4))) (K0, R0, I, L) := (w_astoreN (pc' := 45) (ls' := [some (.ref 0), some (.int x1), some (.int x2), some (.int x3), some .null]) c10_43 (Nat.le_of_ble_eq_true rfl) rfl rfl).trans ((w_aloadN (pc' := 47) c10_45 rfl rfl).trans ((w_ifnonnullN (pc' := 50) c10_47 rfl).trans ((w_bipush (pc' := 52) (v := (-4)) c10_50 rfl rfl).trans (w_iret c10_52 rfl))))
theorem b10_68 {X : Nat × (Nat → Int32)} {d : Nat} {I : Nat → Nat → Int32} {L : Nat → Nat → Int64} {Q : Option Value → XW → Prop} {r4 : Nat} (hr4 : isCup r4) : wp X d m10 68 [some (.ref 0), none, none, none, some (.ref r4)] [] (K0, R0, I, L) Q ↔ Q (some (.int (I r4 0))) (K0, R0, (updR I 1 1 ((I 1 1) + 1)), L) := (w_aload_n (pc' := 69) c10_68 rfl rfl).trans ((w_getR (pc' := 72) (q := 1) c10_69 kd_0 (by decide) rfl rd_0_0 rfl).trans ((w_dup (pc' := 73) c10_72 rfl rfl).trans ((w_getIv (pc' := 76) (v := (I 1 1)) c10_73 tbl_1.1 (by decide) rfl (rfl) rfl).trans ((w_iconst (pc' := 77) (v := 1) c10_76 rfl rfl).trans ((w_iadd (pc' := 78) c10_77 rfl).trans ((w_putI (pc' := 81) c10_78 tbl_1.1 (by decide) rfl rfl rfl).trans ((w_aload (pc' := 83) c10_81 rfl rfl).trans ((w_getIv (pc' := 86) (v := (I r4 0)) c10_83 hr4.1 (by decide) rfl ((updR_j (by decide)).trans (rfl)) rfl).trans (w_iret c10_86 rfl)))))))))
-- LeavesObject.isDigit(I)Z
theorem c11_0 : cdx (mC m11) 0 = some (0, .iload_n 0, 1, 0, 0, 0, 0, []) := rfl
theorem c11_1 : cdx (mC m11) 1 = some (1, .ifCond .lt 13, 3, 14, 0, 0, 0, []) := rfl
theorem c11_4 : cdx (mC m11) 4 = some (4, .iload_n 0, 1, 0, 0, 0, 0, []) := rfl
theorem c11_5 : cdx (mC m11) 5 = some (5, .bipush 10, 2, 0, 0, 0, 0, []) := rfl
theorem c11_7 : cdx (mC m11) 7 = some (7, .if_icmp .ge 7, 3, 14, 0, 0, 0, []) := rfl
theorem c11_10 : cdx (mC m11) 10 = some (10, .iconst 1, 1, 0, 0, 0, 0, []) := rfl
theorem c11_11 : cdx (mC m11) 11 = some (11, .goto 4, 3, 15, 0, 0, 0, []) := rfl
theorem c11_14 : cdx (mC m11) 14 = some (14, .iconst 0, 1, 0, 0, 0, 0, []) := rfl
theorem c11_15 : cdx (mC m11) 15 = some (15, .ireturn, 1, 0, 0, 0, 0, []) := rfl
theorem b11_0 {X : Nat × (Nat → Int32)} {d : Nat} {I : Nat → Nat → Int32} {L : Nat → Nat → Int64} {Q : Option Value → XW → Prop} {x0 : Int32}  : wp X d m11 0 [some (.int x0)] [] (K0, R0, I, L) Q ↔ Q (some (.int (if x0 < 0 then 0 else (if x0 < 10 then 1 else 0)))) (K0, R0, I, L) := (w_iload_n (pc' := 1) c11_0 rfl rfl).trans ((w_if_lt (pc' := 4) c11_1 rfl).trans ((ite_iff ((w_iconst (pc' := 15) (v := 0) c11_14 rfl rfl).trans ((w_zret (ty := .boolean) c11_15 rfl (by decide)).trans (and_iff_right (by decide)))) ((w_iload_n (pc' := 5) c11_4 rfl rfl).trans ((w_bipush (pc' := 7) (v := 10) c11_5 rfl rfl).trans ((w_icmp_ge (pc' := 10) c11_7 rfl).trans ((ite_iff ((w_iconst (pc' := 11) (v := 1) c11_10 rfl rfl).trans ((w_goto c11_11).trans ((w_zret (ty := .boolean) c11_15 rfl (by decide)).trans (and_iff_right (by decide))))) ((w_iconst (pc' := 15) (v := 0) c11_14 rfl rfl).trans ((w_zret (ty := .boolean) c11_15 rfl (by decide)).trans (and_iff_right (by decide))))).trans (ite_val (fun z => Q (some (.int z)) (K0, R0, I, L)))))))).trans (ite_val (fun z => Q (some (.int z)) (K0, R0, I, L)))))
-- LeavesObject.areLeaves(I)Z
theorem c12_0 : cdx (mC m12) 0 = some (0, .iload_n 0, 1, 0, 0, 0, 0, []) := rfl
theorem c12_1 : cdx (mC m12) 1 = some (1, .ifCond .lt 14, 3, 15, 0, 0, 0, []) := rfl
theorem c12_4 : cdx (mC m12) 4 = some (4, .iload_n 0, 1, 0, 0, 0, 0, []) := rfl
theorem c12_5 : cdx (mC m12) 5 = some (5, .sipush 4095, 3, 0, 0, 0, 0, []) := rfl
theorem c12_8 : cdx (mC m12) 8 = some (8, .if_icmp .gt 7, 3, 15, 0, 0, 0, []) := rfl
theorem c12_11 : cdx (mC m12) 11 = some (11, .iconst 1, 1, 0, 0, 0, 0, []) := rfl
theorem c12_12 : cdx (mC m12) 12 = some (12, .goto 4, 3, 16, 0, 0, 0, []) := rfl
theorem c12_15 : cdx (mC m12) 15 = some (15, .iconst 0, 1, 0, 0, 0, 0, []) := rfl
theorem c12_16 : cdx (mC m12) 16 = some (16, .ireturn, 1, 0, 0, 0, 0, []) := rfl
theorem b12_0 {X : Nat × (Nat → Int32)} {d : Nat} {I : Nat → Nat → Int32} {L : Nat → Nat → Int64} {Q : Option Value → XW → Prop} {x0 : Int32}  : wp X d m12 0 [some (.int x0)] [] (K0, R0, I, L) Q ↔ Q (some (.int (if x0 < 0 then 0 else (if 4095 < x0 then 0 else 1)))) (K0, R0, I, L) := (w_iload_n (pc' := 1) c12_0 rfl rfl).trans ((w_if_lt (pc' := 4) c12_1 rfl).trans ((ite_iff ((w_iconst (pc' := 16) (v := 0) c12_15 rfl rfl).trans ((w_zret (ty := .boolean) c12_16 rfl (by decide)).trans (and_iff_right (by decide)))) ((w_iload_n (pc' := 5) c12_4 rfl rfl).trans ((w_sipush (pc' := 8) (v := 4095) c12_5 rfl rfl).trans ((w_icmp_gt (pc' := 11) c12_8 rfl).trans ((ite_iff ((w_iconst (pc' := 16) (v := 0) c12_15 rfl rfl).trans ((w_zret (ty := .boolean) c12_16 rfl (by decide)).trans (and_iff_right (by decide)))) ((w_iconst (pc' := 12) (v := 1) c12_11 rfl rfl).trans ((w_goto c12_12).trans ((w_zret (ty := .boolean) c12_16 rfl (by decide)).trans (and_iff_right (by decide)))))).trans (ite_val (fun z => Q (some (.int z)) (K0, R0, I, L)))))))).trans (ite_val (fun z => Q (some (.int z)) (K0, R0, I, L)))))
-- LeavesObject$Table.slotAt(I)LLeavesObject$Cup;
theorem c13_0 : cdx (mC m13) 0 = some (0, .iload_n 1, 1, 1, 0, 0, 0, []) := rfl
theorem c13_1 : cdx (mC m13) 1 = some (1, .ifCond .lt 21, 3, 22, 0, 0, 0, []) := rfl
theorem c13_4 : cdx (mC m13) 4 = some (4, .iload_n 1, 1, 1, 0, 0, 0, []) := rfl
theorem c13_5 : cdx (mC m13) 5 = some (5, .aload_n 0, 1, 0, 0, 0, 0, []) := rfl
theorem c13_6 : cdx (mC m13) 6 = some (6, .getfield 11, 3, 5, 0, 0, 1101, []) := rfl
theorem c13_9 : cdx (mC m13) 9 = some (9, .arraylength, 1, 0, 0, 0, 0, []) := rfl
theorem c13_10 : cdx (mC m13) 10 = some (10, .if_icmp .ge 12, 3, 22, 0, 0, 0, []) := rfl
theorem c13_13 : cdx (mC m13) 13 = some (13, .aload_n 0, 1, 0, 0, 0, 0, []) := rfl
theorem c13_14 : cdx (mC m13) 14 = some (14, .getfield 11, 3, 5, 0, 0, 1101, []) := rfl
theorem c13_17 : cdx (mC m13) 17 = some (17, .iload_n 1, 1, 1, 0, 0, 0, []) := rfl
theorem c13_18 : cdx (mC m13) 18 = some (18, .aaload, 1, 0, 0, 0, 0, []) := rfl
theorem c13_19 : cdx (mC m13) 19 = some (19, .goto 4, 3, 23, 0, 0, 0, []) := rfl
theorem c13_22 : cdx (mC m13) 22 = some (22, .aconst_null, 1, 0, 0, 0, 0, []) := rfl
theorem c13_23 : cdx (mC m13) 23 = some (23, .areturn, 1, 0, 0, 0, 0, []) := rfl
theorem b13_0 {X : Nat × (Nat → Int32)} {d : Nat} {I : Nat → Nat → Int32} {L : Nat → Nat → Int64} {Q : Option Value → XW → Prop} {r0 : Nat} {x1 : Int32} (hr0 : isTable r0) : wp X d m13 0 [some (.ref r0), some (.int x1)] [] (K0, R0, I, L) Q ↔ (if x1 < 0 then Q (some .null) (K0, R0, I, L) else (if x1 < 5 then (inA x1 5 = true ∧ Q (some (.ref (r0 + 11 + 2 * (Int32.toNatClampNeg x1)))) (K0, R0, I, L)) else Q (some .null) (K0, R0, I, L))) := (w_iload_n (pc' := 1) c13_0 rfl rfl).trans ((w_if_lt (pc' := 4) c13_1 rfl).trans (ite_iff ((w_aconst_null (pc' := 23) c13_22 rfl).trans (w_aretN c13_23 rfl)) ((w_iload_n (pc' := 5) c13_4 rfl rfl).trans ((w_aload_n (pc' := 6) c13_5 rfl rfl).trans ((w_getR (pc' := 9) (q := (r0 + 1)) c13_6 hr0.1 (by decide) rfl hr0.2.1 rfl).trans ((w_alen (pc' := 10) (v := 5) c13_9 hr0.2.2.2.2.2.1 rfl rfl).trans ((w_icmp_ge (pc' := 13) c13_10 rfl).trans (ite_iff ((w_aload_n (pc' := 14) c13_13 rfl rfl).trans ((w_getR (pc' := 17) (q := (r0 + 1)) c13_14 hr0.1 (by decide) rfl hr0.2.1 rfl).trans ((w_iload_n (pc' := 18) c13_17 rfl rfl).trans ((w_aaldR (pc' := 19) (q := (r0 + 11 + 2 * (Int32.toNatClampNeg x1))) c13_18 hr0.2.2.2.2.2.1 (fun h => (hr0.2.2.2.2.2.2.2.2.2 _ (inA_lt h)).1) rfl).trans (and_congr_right (fun hg18 => (w_goto c13_19).trans (w_aret c13_23 rfl))))))) ((w_aconst_null (pc' := 23) c13_22 rfl).trans (w_aretN c13_23 rfl))))))))))
-- LeavesObject$Cup.become(IIII)V
theorem c14_0 : cdx (mC m14) 0 = some (0, .aload_n 0, 1, 0, 0, 0, 0, []) := rfl
theorem c14_1 : cdx (mC m14) 1 = some (1, .iload_n 1, 1, 1, 0, 0, 0, []) := rfl
theorem c14_2 : cdx (mC m14) 2 = some (2, .putfield 15, 3, 1, 0, 0, 1062, []) := rfl
theorem c14_5 : cdx (mC m14) 5 = some (5, .aload_n 0, 1, 0, 0, 0, 0, []) := rfl
theorem c14_6 : cdx (mC m14) 6 = some (6, .iload_n 2, 1, 2, 0, 0, 0, []) := rfl
theorem c14_7 : cdx (mC m14) 7 = some (7, .putfield 19, 3, 1, 1, 0, 1066, []) := rfl
theorem c14_10 : cdx (mC m14) 10 = some (10, .aload_n 0, 1, 0, 0, 0, 0, []) := rfl
theorem c14_11 : cdx (mC m14) 11 = some (11, .iload_n 3, 1, 3, 0, 0, 0, []) := rfl
theorem c14_12 : cdx (mC m14) 12 = some (12, .putfield 22, 3, 1, 2, 0, 1070, []) := rfl
theorem c14_15 : cdx (mC m14) 15 = some (15, .aload_n 0, 1, 0, 0, 0, 0, []) := rfl
theorem c14_16 : cdx (mC m14) 16 = some (16, .iload 4, 2, 4, 0, 0, 0, []) := rfl
theorem c14_18 : cdx (mC m14) 18 = some (18, .putfield 25, 3, 1, 3, 0, 1075, []) := rfl
theorem c14_21 : cdx (mC m14) 21 = some (21, .aload_n 0, 1, 0, 0, 0, 0, []) := rfl
theorem c14_22 : cdx (mC m14) 22 = some (22, .iconst 0, 1, 0, 0, 0, 0, []) := rfl
theorem c14_23 : cdx (mC m14) 23 = some (23, .putfield 28, 3, 1, 4, 0, 1079, []) := rfl
theorem c14_26 : cdx (mC m14) 26 = some (26, .aload_n 0, 1, 0, 0, 0, 0, []) := rfl
theorem c14_27 : cdx (mC m14) 27 = some (27, .iconst 0, 1, 0, 0, 0, 0, []) := rfl
theorem c14_28 : cdx (mC m14) 28 = some (28, .putfield 31, 3, 1, 5, 0, 1083, []) := rfl
theorem c14_31 : cdx (mC m14) 31 = some (31, .aload_n 0, 1, 0, 0, 0, 0, []) := rfl
theorem c14_32 : cdx (mC m14) 32 = some (32, .getfield 9, 3, 1, 6, 0, 1085, []) := rfl
theorem c14_35 : cdx (mC m14) 35 = some (35, .iconst 0, 1, 0, 0, 0, 0, []) := rfl
theorem c14_36 : cdx (mC m14) 36 = some (36, .invokestatic 34, 3, 15, 2, 5, 2054, []) := rfl
theorem c14_39 : cdx (mC m14) 39 = some (39, .return_, 1, 0, 0, 0, 0, []) := rfl
def lv14 : List (Nat × List Nat) := [(0, [0, 1, 2, 3, 4]), (1, [0, 1, 2, 3, 4]), (2, [0, 2, 3, 4]), (5, [0, 2, 3, 4]), (6, [0, 2, 3, 4]), (7, [0, 3, 4]), (10, [0, 3, 4]), (11, [0, 3, 4]), (12, [0, 4]), (15, [0, 4]), (16, [0, 4]), (18, [0]), (21, [0]), (22, [0]), (23, [0]), (26, [0]), (27, [0]), (28, [0]), (31, [0])]
theorem lvok14 : lvOk (mC m14) lv14 = true := by decide +kernel
theorem b14_0 {X : Nat × (Nat → Int32)} {d : Nat} {I : Nat → Nat → Int32} {L : Nat → Nat → Int64} {Q : Option Value → XW → Prop} {r0 : Nat} {x1 : Int32} {x2 : Int32} {x3 : Int32} {x4 : Int32} (hr0 : isCup r0) : wp X (d + 1) m14 0 [some (.ref r0), some (.int x1), some (.int x2), some (.int x3), some (.int x4)] [] (K0, R0, I, L) Q ↔ wp X d m15 0 [some (.ref (r0 + 1)), some (.int 0), none, none] [] (K0, R0, (updR (updR (updR (updR (updR (updR I r0 0 x1) r0 1 x2) r0 2 x3) r0 3 x4) r0 4 0) r0 5 0), L) (fun r w1 => wp X (d + 1) m14 39 [none, none, none, none, none] (r.toList ++ []) w1 Q) := (w_aload_n (pc' := 1) c14_0 rfl rfl).trans ((w_iload_n (pc' := 2) c14_1 rfl rfl).trans ((w_putI (pc' := 5) c14_2 hr0.1 (by decide) rfl rfl rfl).trans ((w_aload_n (pc' := 6) c14_5 rfl rfl).trans ((w_iload_n (pc' := 7) c14_6 rfl rfl).trans ((w_putI (pc' := 10) c14_7 hr0.1 (by decide) rfl rfl rfl).trans ((w_aload_n (pc' := 11) c14_10 rfl rfl).trans ((w_iload_n (pc' := 12) c14_11 rfl rfl).trans ((w_putI (pc' := 15) c14_12 hr0.1 (by decide) rfl rfl rfl).trans ((w_aload_n (pc' := 16) c14_15 rfl rfl).trans ((w_iload (pc' := 18) c14_16 rfl rfl).trans ((w_putI (pc' := 21) c14_18 hr0.1 (by decide) rfl rfl rfl).trans ((w_aload_n (pc' := 22) c14_21 rfl rfl).trans ((w_iconst (pc' := 23) (v := 0) c14_22 rfl rfl).trans ((w_putI (pc' := 26) c14_23 hr0.1 (by decide) rfl rfl rfl).trans ((w_aload_n (pc' := 27) c14_26 rfl rfl).trans ((w_iconst (pc' := 28) (v := 0) c14_27 rfl rfl).trans ((w_putI (pc' := 31) c14_28 hr0.1 (by decide) rfl rfl rfl).trans ((w_aload_n (pc' := 32) c14_31 rfl rfl).trans ((w_getR (pc' := 35) (q := (r0 + 1)) c14_32 hr0.1 (by decide) rfl hr0.2.1 rfl).trans ((w_iconst (pc' := 36) (v := 0) c14_35 rfl rfl).trans ((w_callst (pc' := 39) c14_36 (by decide) mt15 rfl (Nat.le_of_ble_eq_true rfl) rfl rfl (Nat.le_of_ble_eq_true rfl) rfl rfl).trans (wp_congr (fun r w1 => wp_msk lvok14 rfl)))))))))))))))))))))))
theorem b14_39 {X : Nat × (Nat → Int32)} {d : Nat} {I : Nat → Nat → Int32} {L : Nat → Nat → Int64} {Q : Option Value → XW → Prop}   : wp X d m14 39 [none, none, none, none, none] [] (K0, R0, I, L) Q ↔ Q none (K0, R0, I, L) := w_vret c14_39 rfl
-- java/util/Arrays.fill([II)V
theorem c15_0 : cdx (mC m15) 0 = some (0, .iconst 0, 1, 0, 0, 0, 0, []) := rfl
theorem c15_1 : cdx (mC m15) 1 = some (1, .istore_n 2, 1, 2, 0, 0, 0, []) := rfl
theorem c15_2 : cdx (mC m15) 2 = some (2, .aload_n 0, 1, 0, 0, 0, 0, []) := rfl
theorem c15_3 : cdx (mC m15) 3 = some (3, .arraylength, 1, 0, 0, 0, 0, []) := rfl
theorem c15_4 : cdx (mC m15) 4 = some (4, .istore_n 3, 1, 3, 0, 0, 0, []) := rfl
theorem c15_5 : cdx (mC m15) 5 = some (5, .iload_n 2, 1, 2, 0, 0, 0, []) := rfl
theorem c15_6 : cdx (mC m15) 6 = some (6, .iload_n 3, 1, 3, 0, 0, 0, []) := rfl
theorem c15_7 : cdx (mC m15) 7 = some (7, .if_icmp .ge 13, 3, 20, 0, 0, 0, []) := rfl
theorem c15_10 : cdx (mC m15) 10 = some (10, .aload_n 0, 1, 0, 0, 0, 0, []) := rfl
theorem c15_11 : cdx (mC m15) 11 = some (11, .iload_n 2, 1, 2, 0, 0, 0, []) := rfl
theorem c15_12 : cdx (mC m15) 12 = some (12, .iload_n 1, 1, 1, 0, 0, 0, []) := rfl
theorem c15_13 : cdx (mC m15) 13 = some (13, .iastore, 1, 0, 0, 0, 0, []) := rfl
theorem c15_14 : cdx (mC m15) 14 = some (14, .iinc 2 1, 3, 2, 0, 0, 0, []) := rfl
theorem c15_17 : cdx (mC m15) 17 = some (17, .goto (-12), 3, 5, 0, 0, 0, []) := rfl
theorem c15_20 : cdx (mC m15) 20 = some (20, .return_, 1, 0, 0, 0, 0, []) := rfl
theorem b15_0 {X : Nat × (Nat → Int32)} {d : Nat} {I : Nat → Nat → Int32} {L : Nat → Nat → Int64} {Q : Option Value → XW → Prop} {r0 nr0 : Nat} {x1 : Int32} (hr0 : K0[r0]? = some (.inl (.int, nr0))) : wp X d m15 0 [some (.ref r0), some (.int x1), none, none] [] (K0, R0, I, L) Q ↔ wp X d m15 5 [some (.ref r0), some (.int x1), some (.int 0), some (.int (Int32.ofNat nr0))] [] (K0, R0, I, L) Q := (w_iconst (pc' := 1) (v := 0) c15_0 rfl rfl).trans ((w_istore_n (pc' := 2) (ls' := [some (.ref r0), some (.int x1), some (.int 0), none]) c15_1 (Nat.le_of_ble_eq_true rfl) rfl rfl).trans ((w_aload_n (pc' := 3) c15_2 rfl rfl).trans ((w_alen (pc' := 4) (v := (Int32.ofNat nr0)) c15_3 hr0 rfl rfl).trans ((w_istore_n (pc' := 5) (ls' := [some (.ref r0), some (.int x1), some (.int 0), some (.int (Int32.ofNat nr0))]) c15_4 (Nat.le_of_ble_eq_true rfl) rfl rfl)))))
theorem b15_5 {X : Nat × (Nat → Int32)} {d : Nat} {I : Nat → Nat → Int32} {L : Nat → Nat → Int64} {Q : Option Value → XW → Prop} {r0 nr0 : Nat} {x1 : Int32} {x2 : Int32} {x3 : Int32} (hr0 : K0[r0]? = some (.inl (.int, nr0))) : wp X d m15 5 [some (.ref r0), some (.int x1), some (.int x2), some (.int x3)] [] (K0, R0, I, L) Q ↔ (if x2 < x3 then (inA x2 nr0 = true ∧ wp X d m15 5 [some (.ref r0), some (.int x1), some (.int (x2 + 1)), some (.int x3)] [] (K0, R0, (updR I r0 (Int32.toNatClampNeg x2) x1), L) Q) else Q none (K0, R0, I, L)) := (w_iload_n (pc' := 6) c15_5 rfl rfl).trans ((w_iload_n (pc' := 7) c15_6 rfl rfl).trans ((w_icmp_ge (pc' := 10) c15_7 rfl).trans (ite_iff ((w_aload_n (pc' := 11) c15_10 rfl rfl).trans ((w_iload_n (pc' := 12) c15_11 rfl rfl).trans ((w_iload_n (pc' := 13) c15_12 rfl rfl).trans ((w_iast (pc' := 14) c15_13 hr0 rfl).trans (and_congr_right (fun _ => (w_iinc (pc' := 17) (v := (x2 + 1)) (ls' := [some (.ref r0), some (.int x1), some (.int (x2 + 1)), some (.int x3)]) c15_14 (Nat.le_of_ble_eq_true rfl) rfl rfl rfl rfl).trans ((w_goto c15_17)))))))) (w_vret c15_20 rfl))))
-- LeavesObject.of(II)I
theorem c16_0 : cdx (mC m16) 0 = some (0, .aload_n 0, 1, 0, 0, 0, 0, []) := rfl
theorem c16_1 : cdx (mC m16) 1 = some (1, .getfield 12, 3, 9, 0, 0, 1239, []) := rfl
theorem c16_4 : cdx (mC m16) 4 = some (4, .iload_n 1, 1, 1, 0, 0, 0, []) := rfl
theorem c16_5 : cdx (mC m16) 5 = some (5, .invokevirtual 92, 3, 17, 1, 0, 2061, [(5, 0)]) := rfl
theorem c16_8 : cdx (mC m16) 8 = some (8, .astore_n 3, 1, 3, 0, 0, 0, []) := rfl
theorem c16_9 : cdx (mC m16) 9 = some (9, .aload_n 3, 1, 3, 0, 0, 0, []) := rfl
theorem c16_10 : cdx (mC m16) 10 = some (10, .ifnonnull 5, 3, 15, 0, 0, 0, []) := rfl
theorem c16_13 : cdx (mC m16) 13 = some (13, .iconst (-1), 1, 0, 0, 0, 0, []) := rfl
theorem c16_14 : cdx (mC m16) 14 = some (14, .ireturn, 1, 0, 0, 0, 0, []) := rfl
theorem c16_15 : cdx (mC m16) 15 = some (15, .iload_n 2, 1, 2, 0, 0, 0, []) := rfl
theorem c16_16 : cdx (mC m16) 16 = some (16, .bipush 10, 2, 0, 0, 0, 0, []) := rfl
theorem c16_18 : cdx (mC m16) 18 = some (18, .isub, 1, 0, 0, 0, 0, []) := rfl
theorem c16_19 : cdx (mC m16) 19 = some (19, .invokestatic 95, 3, 18, 1, 4, 2066, []) := rfl
theorem c16_22 : cdx (mC m16) 22 = some (22, .ifCond .eq 23, 3, 45, 0, 0, 0, []) := rfl
theorem c16_25 : cdx (mC m16) 25 = some (25, .aload_n 0, 1, 0, 0, 0, 0, []) := rfl
theorem c16_26 : cdx (mC m16) 26 = some (26, .invokevirtual 98, 3, 19, 0, 0, 2069, [(9, 0)]) := rfl
theorem c16_29 : cdx (mC m16) 29 = some (29, .aload_n 3, 1, 3, 0, 0, 0, []) := rfl
theorem c16_30 : cdx (mC m16) 30 = some (30, .iload_n 2, 1, 2, 0, 0, 0, []) := rfl
theorem c16_31 : cdx (mC m16) 31 = some (31, .bipush 10, 2, 0, 0, 0, 0, []) := rfl
theorem c16_33 : cdx (mC m16) 33 = some (33, .isub, 1, 0, 0, 0, 0, []) := rfl
theorem c16_34 : cdx (mC m16) 34 = some (34, .aload_n 0, 1, 0, 0, 0, 0, []) := rfl
theorem c16_35 : cdx (mC m16) 35 = some (35, .getfield 12, 3, 9, 0, 0, 1239, []) := rfl
theorem c16_38 : cdx (mC m16) 38 = some (38, .getfield 102, 3, 5, 2, 0, 1104, []) := rfl
theorem c16_41 : cdx (mC m16) 41 = some (41, .invokevirtual 105, 3, 20, 3, 0, 2073, [(2, 0)]) := rfl
theorem c16_44 : cdx (mC m16) 44 = some (44, .ireturn, 1, 0, 0, 0, 0, []) := rfl
theorem c16_45 : cdx (mC m16) 45 = some (45, .iload_n 2, 1, 2, 0, 0, 0, []) := rfl
theorem c16_46 : cdx (mC m16) 46 = some (46, .bipush 20, 2, 0, 0, 0, 0, []) := rfl
theorem c16_48 : cdx (mC m16) 48 = some (48, .isub, 1, 0, 0, 0, 0, []) := rfl
theorem c16_49 : cdx (mC m16) 49 = some (49, .invokestatic 95, 3, 18, 1, 4, 2066, []) := rfl
theorem c16_52 : cdx (mC m16) 52 = some (52, .ifCond .eq 19, 3, 71, 0, 0, 0, []) := rfl
theorem c16_55 : cdx (mC m16) 55 = some (55, .aload_n 3, 1, 3, 0, 0, 0, []) := rfl
theorem c16_56 : cdx (mC m16) 56 = some (56, .iload_n 2, 1, 2, 0, 0, 0, []) := rfl
theorem c16_57 : cdx (mC m16) 57 = some (57, .bipush 20, 2, 0, 0, 0, 0, []) := rfl
theorem c16_59 : cdx (mC m16) 59 = some (59, .isub, 1, 0, 0, 0, 0, []) := rfl
theorem c16_60 : cdx (mC m16) 60 = some (60, .aload_n 0, 1, 0, 0, 0, 0, []) := rfl
theorem c16_61 : cdx (mC m16) 61 = some (61, .getfield 12, 3, 9, 0, 0, 1239, []) := rfl
theorem c16_64 : cdx (mC m16) 64 = some (64, .getfield 102, 3, 5, 2, 0, 1104, []) := rfl
theorem c16_67 : cdx (mC m16) 67 = some (67, .invokevirtual 109, 3, 25, 2, 0, 2096, [(1, 0)]) := rfl
theorem c16_70 : cdx (mC m16) 70 = some (70, .ireturn, 1, 0, 0, 0, 0, []) := rfl
theorem c16_71 : cdx (mC m16) 71 = some (71, .iload_n 2, 1, 2, 0, 0, 0, []) := rfl
theorem c16_72 : cdx (mC m16) 72 = some (72, .tableswitch 61 0 4 #[36, 41, 46, 51, 56], 36, 133, 0, 0, 0, [(0, 108), (1, 113), (2, 118), (3, 123), (4, 128)]) := rfl
theorem c16_108 : cdx (mC m16) 108 = some (108, .aload_n 3, 1, 3, 0, 0, 0, []) := rfl
theorem c16_109 : cdx (mC m16) 109 = some (109, .getfield 113, 3, 1, 1, 0, 1067, []) := rfl
theorem c16_112 : cdx (mC m16) 112 = some (112, .ireturn, 1, 0, 0, 0, 0, []) := rfl
theorem c16_113 : cdx (mC m16) 113 = some (113, .aload_n 3, 1, 3, 0, 0, 0, []) := rfl
theorem c16_114 : cdx (mC m16) 114 = some (114, .getfield 116, 3, 1, 2, 0, 1071, []) := rfl
theorem c16_117 : cdx (mC m16) 117 = some (117, .ireturn, 1, 0, 0, 0, 0, []) := rfl
theorem c16_118 : cdx (mC m16) 118 = some (118, .aload_n 3, 1, 3, 0, 0, 0, []) := rfl
theorem c16_119 : cdx (mC m16) 119 = some (119, .getfield 119, 3, 1, 3, 0, 1076, []) := rfl
theorem c16_122 : cdx (mC m16) 122 = some (122, .ireturn, 1, 0, 0, 0, 0, []) := rfl
theorem c16_123 : cdx (mC m16) 123 = some (123, .aload_n 3, 1, 3, 0, 0, 0, []) := rfl
theorem c16_124 : cdx (mC m16) 124 = some (124, .getfield 122, 3, 1, 4, 0, 1081, []) := rfl
theorem c16_127 : cdx (mC m16) 127 = some (127, .ireturn, 1, 0, 0, 0, 0, []) := rfl
theorem c16_128 : cdx (mC m16) 128 = some (128, .aload_n 3, 1, 3, 0, 0, 0, []) := rfl
theorem c16_129 : cdx (mC m16) 129 = some (129, .getfield 125, 3, 1, 5, 0, 1084, []) := rfl
theorem c16_132 : cdx (mC m16) 132 = some (132, .ireturn, 1, 0, 0, 0, 0, []) := rfl
theorem c16_133 : cdx (mC m16) 133 = some (133, .iconst (-1), 1, 0, 0, 0, 0, []) := rfl
theorem c16_134 : cdx (mC m16) 134 = some (134, .ireturn, 1, 0, 0, 0, 0, []) := rfl
def lv16 : List (Nat × List Nat) := [(0, [0, 1, 2]), (1, [0, 1, 2]), (4, [0, 1, 2]), (5, [0, 2]), (8, [0, 2]), (9, [0, 2, 3]), (10, [0, 2, 3]), (15, [0, 2, 3]), (16, [0, 2, 3]), (18, [0, 2, 3]), (19, [0, 2, 3]), (22, [0, 2, 3]), (25, [0, 2, 3]), (26, [0, 2, 3]), (29, [0, 2, 3]), (30, [0, 2]), (31, [0]), (33, [0]), (34, [0]), (45, [0, 2, 3]), (46, [0, 2, 3]), (48, [0, 2, 3]), (49, [0, 2, 3]), (52, [0, 2, 3]), (55, [0, 2, 3]), (56, [0, 2]), (57, [0]), (59, [0]), (60, [0]), (71, [2, 3]), (72, [3]), (108, [3]), (113, [3]), (118, [3]), (123, [3]), (128, [3])]
theorem lvok16 : lvOk (mC m16) lv16 = true := by decide +kernel
theorem b16_0 {X : Nat × (Nat → Int32)} {d : Nat} {I : Nat → Nat → Int32} {L : Nat → Nat → Int64} {Q : Option Value → XW → Prop} {x1 : Int32} {x2 : Int32}  : wp X (d + 1) m16 0 [some (.ref 0), some (.int x1), some (.int x2), none] [] (K0, R0, I, L) Q ↔ wp X d m17 0 [some (.ref 1), some (.int x1)] [] (K0, R0, I, L) (fun r w1 => wp X (d + 1) m16 8 [some (.ref 0), none, some (.int x2), none] (r.toList ++ []) w1 Q) := (w_aload_n (pc' := 1) c16_0 rfl rfl).trans ((w_getR (pc' := 4) (q := 1) c16_1 kd_0 (by decide) rfl rd_0_0 rfl).trans ((w_iload_n (pc' := 5) c16_4 rfl rfl).trans ((w_callv (pc' := 8) c16_5 mt17 rfl (Nat.le_of_ble_eq_true rfl) rfl tbl_1.1 rfl rfl (Nat.le_of_ble_eq_true rfl) rfl rfl).trans (wp_congr (fun r w1 => wp_msk lvok16 rfl)))))
theorem b16_8 {X : Nat × (Nat → Int32)} {d : Nat} {I : Nat → Nat → Int32} {L : Nat → Nat → Int64} {Q : Option Value → XW → Prop} {x2 : Int32} {q0 : Nat} (hq0 : isCup q0) : wp X (d + 1) m16 8 [some (.ref 0), none, some (.int x2), none] [(.ref q0)] (K0, R0, I, L) Q ↔ wp X d m18 0 [some (.int (x2 - 10))] [] (K0, R0, I, L) (fun r w1 => wp X (d + 1) m16 22 [some (.ref 0), none, some (.int x2), some (.ref q0)] (r.toList ++ []) w1 Q) := (w_astore_n (pc' := 9) (ls' := [some (.ref 0), none, some (.int x2), some (.ref q0)]) c16_8 (Nat.le_of_ble_eq_true rfl) rfl rfl).trans ((w_aload_n (pc' := 10) c16_9 rfl rfl).trans ((w_ifnonnull c16_10 (k_lt hq0.1)).trans ((w_iload_n (pc' := 16) c16_15 rfl rfl).trans ((w_bipush (pc' := 18) (v := 10) c16_16 rfl rfl).trans ((w_isub (pc' := 19) c16_18 rfl).trans ((w_callst (pc' := 22) c16_19 (by decide) mt18 rfl (Nat.le_of_ble_eq_true rfl) rfl rfl (Nat.le_of_ble_eq_true rfl) rfl rfl)))))))
theorem b16_8_1 {X : Nat × (Nat → Int32)} {d : Nat} {I : Nat → Nat → Int32} {L : Nat → Nat → Int64} {Q : Option Value → XW → Prop} {x2 : Int32}  : wp X d m16 8 [some (.ref 0), none, some (.int x2), none] [.null] (K0, R0, I, L) Q ↔ Q (some (.int (-1))) (K0, R0, I, L) := (w_astore_nN (pc' := 9) (ls' := [some (.ref 0), none, some (.int x2), some .null]) c16_8 (Nat.le_of_ble_eq_true rfl) rfl rfl).trans ((w_aload_nN (pc' := 10) c16_9 rfl rfl).trans ((w_ifnonnullN (pc' := 13) c16_10 rfl).trans ((w_iconst (pc' := 14) (v := (-1)) c16_13 rfl rfl).trans (w_iret c16_14 rfl))))
theorem b16_22 {X : Nat × (Nat → Int32)} {d : Nat} {I : Nat → Nat → Int32} {L : Nat → Nat → Int64} {Q : Option Value → XW → Prop} {x2 : Int32} {r3 : Nat} {s0 : Int32} (hr3 : isCup r3) : wp X (d + 1) m16 22 [some (.ref 0), none, some (.int x2), some (.ref r3)] [(.int s0)] (K0, R0, I, L) Q ↔ (if s0 = 0 then wp X d m18 0 [some (.int (x2 - 20))] [] (K0, R0, I, L) (fun r w1 => wp X (d + 1) m16 52 [some (.ref 0), none, some (.int x2), some (.ref r3)] (r.toList ++ []) w1 Q) else wp X d m19 0 [some (.ref 0), none] [] (K0, R0, I, L) (fun r w1 => wp X (d + 1) m16 29 [some (.ref 0), none, some (.int x2), some (.ref r3)] (r.toList ++ []) w1 Q)) := (w_if_eq (pc' := 25) c16_22 rfl).trans (ite_iff ((w_iload_n (pc' := 46) c16_45 rfl rfl).trans ((w_bipush (pc' := 48) (v := 20) c16_46 rfl rfl).trans ((w_isub (pc' := 49) c16_48 rfl).trans ((w_callst (pc' := 52) c16_49 (by decide) mt18 rfl (Nat.le_of_ble_eq_true rfl) rfl rfl (Nat.le_of_ble_eq_true rfl) rfl rfl))))) ((w_aload_n (pc' := 26) c16_25 rfl rfl).trans ((w_callv (pc' := 29) c16_26 mt19 rfl (Nat.le_of_ble_eq_true rfl) rfl kd_0 rfl rfl (Nat.le_of_ble_eq_true rfl) rfl rfl))))
theorem b16_52 {X : Nat × (Nat → Int32)} {d : Nat} {I : Nat → Nat → Int32} {L : Nat → Nat → Int64} {Q : Option Value → XW → Prop} {x2 : Int32} {r3 : Nat} {s0 : Int32} (hr3 : isCup r3) : wp X (d + 1) m16 52 [some (.ref 0), none, some (.int x2), some (.ref r3)] [(.int s0)] (K0, R0, I, L) Q ↔ (if s0 = 0 then Q (some (.int (if x2 = 0 then (I r3 1) else (if x2 = 1 then (I r3 2) else (if x2 = 2 then (I r3 3) else (if x2 = 3 then (I r3 4) else (if x2 = 4 then (I r3 5) else (-1)))))))) (K0, R0, I, L) else wp X d m25 0 [some (.ref r3), some (.int (x2 - 20)), some (.int (I 1 2)), none, none] [] (K0, R0, I, L) (fun r w1 => wp X (d + 1) m16 70 [none, none, none, none] (r.toList ++ []) w1 Q)) := (w_if_eq (pc' := 55) c16_52 rfl).trans (ite_iff ((w_iload_n (pc' := 72) c16_71 rfl rfl).trans ((w_tswitch c16_72).trans ((w_swcons (v := 0) rfl).trans ((ite_iff ((w_aload_n (pc' := 109) c16_108 rfl rfl).trans ((w_getIv (pc' := 112) (v := (I r3 1)) c16_109 hr3.1 (by decide) rfl (rfl) rfl).trans (w_iret c16_112 rfl))) ((w_swcons (v := 1) rfl).trans ((ite_iff ((w_aload_n (pc' := 114) c16_113 rfl rfl).trans ((w_getIv (pc' := 117) (v := (I r3 2)) c16_114 hr3.1 (by decide) rfl (rfl) rfl).trans (w_iret c16_117 rfl))) ((w_swcons (v := 2) rfl).trans ((ite_iff ((w_aload_n (pc' := 119) c16_118 rfl rfl).trans ((w_getIv (pc' := 122) (v := (I r3 3)) c16_119 hr3.1 (by decide) rfl (rfl) rfl).trans (w_iret c16_122 rfl))) ((w_swcons (v := 3) rfl).trans ((ite_iff ((w_aload_n (pc' := 124) c16_123 rfl rfl).trans ((w_getIv (pc' := 127) (v := (I r3 4)) c16_124 hr3.1 (by decide) rfl (rfl) rfl).trans (w_iret c16_127 rfl))) ((w_swcons (v := 4) rfl).trans ((ite_iff ((w_aload_n (pc' := 129) c16_128 rfl rfl).trans ((w_getIv (pc' := 132) (v := (I r3 5)) c16_129 hr3.1 (by decide) rfl (rfl) rfl).trans (w_iret c16_132 rfl))) ((w_swnil).trans ((w_iconst (pc' := 134) (v := (-1)) c16_133 rfl rfl).trans (w_iret c16_134 rfl)))).trans (ite_val (fun z => Q (some (.int z)) (K0, R0, I, L)))))).trans (ite_val (fun z => Q (some (.int z)) (K0, R0, I, L)))))).trans (ite_val (fun z => Q (some (.int z)) (K0, R0, I, L)))))).trans (ite_val (fun z => Q (some (.int z)) (K0, R0, I, L)))))).trans (ite_val (fun z => Q (some (.int z)) (K0, R0, I, L))))))) ((w_aload_n (pc' := 56) c16_55 rfl rfl).trans ((w_iload_n (pc' := 57) c16_56 rfl rfl).trans ((w_bipush (pc' := 59) (v := 20) c16_57 rfl rfl).trans ((w_isub (pc' := 60) c16_59 rfl).trans ((w_aload_n (pc' := 61) c16_60 rfl rfl).trans ((w_getR (pc' := 64) (q := 1) c16_61 kd_0 (by decide) rfl rd_0_0 rfl).trans ((w_getIv (pc' := 67) (v := (I 1 2)) c16_64 tbl_1.1 (by decide) rfl (rfl) rfl).trans ((w_callv (pc' := 70) c16_67 mt25 rfl (Nat.le_of_ble_eq_true rfl) rfl hr3.1 rfl rfl (Nat.le_of_ble_eq_true rfl) rfl rfl).trans (wp_congr (fun r w1 => wp_msk lvok16 rfl)))))))))))
theorem b16_29 {X : Nat × (Nat → Int32)} {d : Nat} {I : Nat → Nat → Int32} {L : Nat → Nat → Int64} {Q : Option Value → XW → Prop} {x2 : Int32} {r3 : Nat} {q0 : Nat} (hr3 : isCup r3) (hq0 : isInn q0) : wp X (d + 1) m16 29 [some (.ref 0), none, some (.int x2), some (.ref r3)] [(.ref q0)] (K0, R0, I, L) Q ↔ wp X d m20 0 [some (.ref q0), some (.ref r3), some (.int (x2 - 10)), some (.int (I 1 2)), none, none, none] [] (K0, R0, I, L) (fun r w1 => wp X (d + 1) m16 44 [none, none, none, none] (r.toList ++ []) w1 Q) := (w_aload_n (pc' := 30) c16_29 rfl rfl).trans ((w_iload_n (pc' := 31) c16_30 rfl rfl).trans ((w_bipush (pc' := 33) (v := 10) c16_31 rfl rfl).trans ((w_isub (pc' := 34) c16_33 rfl).trans ((w_aload_n (pc' := 35) c16_34 rfl rfl).trans ((w_getR (pc' := 38) (q := 1) c16_35 kd_0 (by decide) rfl rd_0_0 rfl).trans ((w_getIv (pc' := 41) (v := (I 1 2)) c16_38 tbl_1.1 (by decide) rfl (rfl) rfl).trans ((w_callv (pc' := 44) c16_41 mt20 rfl (Nat.le_of_ble_eq_true rfl) rfl hq0.1 rfl rfl (Nat.le_of_ble_eq_true rfl) rfl rfl).trans (wp_congr (fun r w1 => wp_msk lvok16 rfl)))))))))
theorem b16_70 {X : Nat × (Nat → Int32)} {d : Nat} {I : Nat → Nat → Int32} {L : Nat → Nat → Int64} {Q : Option Value → XW → Prop} {s0 : Int32}  : wp X d m16 70 [none, none, none, none] [(.int s0)] (K0, R0, I, L) Q ↔ Q (some (.int s0)) (K0, R0, I, L) := w_iret c16_70 rfl
theorem b16_44 {X : Nat × (Nat → Int32)} {d : Nat} {I : Nat → Nat → Int32} {L : Nat → Nat → Int64} {Q : Option Value → XW → Prop} {s0 : Int32}  : wp X d m16 44 [none, none, none, none] [(.int s0)] (K0, R0, I, L) Q ↔ Q (some (.int s0)) (K0, R0, I, L) := w_iret c16_44 rfl
-- LeavesObject$Table.cupAt(I)LLeavesObject$Cup;
theorem c17_0 : cdx (mC m17) 0 = some (0, .iload_n 1, 1, 1, 0, 0, 0, []) := rfl
theorem c17_1 : cdx (mC m17) 1 = some (1, .aload_n 0, 1, 0, 0, 0, 0, []) := rfl
theorem c17_2 : cdx (mC m17) 2 = some (2, .getfield 37, 3, 5, 1, 0, 1103, []) := rfl
theorem c17_5 : cdx (mC m17) 5 = some (5, .if_icmp .ge 11, 3, 16, 0, 0, 0, []) := rfl
theorem c17_8 : cdx (mC m17) 8 = some (8, .aload_n 0, 1, 0, 0, 0, 0, []) := rfl
theorem c17_9 : cdx (mC m17) 9 = some (9, .iload_n 1, 1, 1, 0, 0, 0, []) := rfl
theorem c17_10 : cdx (mC m17) 10 = some (10, .invokevirtual 40, 3, 13, 1, 0, 2065, [(5, 0)]) := rfl
theorem c17_13 : cdx (mC m17) 13 = some (13, .goto 4, 3, 17, 0, 0, 0, []) := rfl
theorem c17_16 : cdx (mC m17) 16 = some (16, .aconst_null, 1, 0, 0, 0, 0, []) := rfl
theorem c17_17 : cdx (mC m17) 17 = some (17, .areturn, 1, 0, 0, 0, 0, []) := rfl
def lv17 : List (Nat × List Nat) := [(0, [0, 1]), (1, [0, 1]), (2, [0, 1]), (5, [0, 1]), (8, [0, 1]), (9, [1])]
theorem lvok17 : lvOk (mC m17) lv17 = true := by decide +kernel
theorem b17_0 {X : Nat × (Nat → Int32)} {d : Nat} {I : Nat → Nat → Int32} {L : Nat → Nat → Int64} {Q : Option Value → XW → Prop} {r0 : Nat} {x1 : Int32} (hr0 : isTable r0) : wp X (d + 1) m17 0 [some (.ref r0), some (.int x1)] [] (K0, R0, I, L) Q ↔ (if x1 < (I r0 1) then wp X d m13 0 [some (.ref r0), some (.int x1)] [] (K0, R0, I, L) (fun r w1 => wp X (d + 1) m17 13 [none, none] (r.toList ++ []) w1 Q) else Q (some .null) (K0, R0, I, L)) := (w_iload_n (pc' := 1) c17_0 rfl rfl).trans ((w_aload_n (pc' := 2) c17_1 rfl rfl).trans ((w_getIv (pc' := 5) (v := (I r0 1)) c17_2 hr0.1 (by decide) rfl (rfl) rfl).trans ((w_icmp_ge (pc' := 8) c17_5 rfl).trans (ite_iff ((w_aload_n (pc' := 9) c17_8 rfl rfl).trans ((w_iload_n (pc' := 10) c17_9 rfl rfl).trans ((w_callv (pc' := 13) c17_10 mt13 rfl (Nat.le_of_ble_eq_true rfl) rfl hr0.1 rfl rfl (Nat.le_of_ble_eq_true rfl) rfl rfl).trans (wp_congr (fun r w1 => wp_msk lvok17 rfl))))) ((w_aconst_null (pc' := 17) c17_16 rfl).trans (w_aretN c17_17 rfl))))))
theorem b17_13 {X : Nat × (Nat → Int32)} {d : Nat} {I : Nat → Nat → Int32} {L : Nat → Nat → Int64} {Q : Option Value → XW → Prop} {q0 : Nat} (hq0 : isCup q0) : wp X d m17 13 [none, none] [(.ref q0)] (K0, R0, I, L) Q ↔ Q (some (.ref q0)) (K0, R0, I, L) := (w_goto c17_13).trans (w_aret c17_17 rfl)
theorem b17_13_1 {X : Nat × (Nat → Int32)} {d : Nat} {I : Nat → Nat → Int32} {L : Nat → Nat → Int64} {Q : Option Value → XW → Prop}   : wp X d m17 13 [none, none] [.null] (K0, R0, I, L) Q ↔ Q (some .null) (K0, R0, I, L) := (w_goto c17_13).trans (w_aretN c17_17 rfl)
-- LeavesObject.isSaying(I)Z
theorem c18_0 : cdx (mC m18) 0 = some (0, .iload_n 0, 1, 0, 0, 0, 0, []) := rfl
theorem c18_1 : cdx (mC m18) 1 = some (1, .ifCond .lt 12, 3, 13, 0, 0, 0, []) := rfl
theorem c18_4 : cdx (mC m18) 4 = some (4, .iload_n 0, 1, 0, 0, 0, 0, []) := rfl
theorem c18_5 : cdx (mC m18) 5 = some (5, .iconst 4, 1, 0, 0, 0, 0, []) := rfl
theorem c18_6 : cdx (mC m18) 6 = some (6, .if_icmp .ge 7, 3, 13, 0, 0, 0, []) := rfl
theorem c18_9 : cdx (mC m18) 9 = some (9, .iconst 1, 1, 0, 0, 0, 0, []) := rfl
theorem c18_10 : cdx (mC m18) 10 = some (10, .goto 4, 3, 14, 0, 0, 0, []) := rfl
theorem c18_13 : cdx (mC m18) 13 = some (13, .iconst 0, 1, 0, 0, 0, 0, []) := rfl
theorem c18_14 : cdx (mC m18) 14 = some (14, .ireturn, 1, 0, 0, 0, 0, []) := rfl
theorem b18_0 {X : Nat × (Nat → Int32)} {d : Nat} {I : Nat → Nat → Int32} {L : Nat → Nat → Int64} {Q : Option Value → XW → Prop} {x0 : Int32}  : wp X d m18 0 [some (.int x0)] [] (K0, R0, I, L) Q ↔ Q (some (.int (if x0 < 0 then 0 else (if x0 < 4 then 1 else 0)))) (K0, R0, I, L) := (w_iload_n (pc' := 1) c18_0 rfl rfl).trans ((w_if_lt (pc' := 4) c18_1 rfl).trans ((ite_iff ((w_iconst (pc' := 14) (v := 0) c18_13 rfl rfl).trans ((w_zret (ty := .boolean) c18_14 rfl (by decide)).trans (and_iff_right (by decide)))) ((w_iload_n (pc' := 5) c18_4 rfl rfl).trans ((w_iconst (pc' := 6) (v := 4) c18_5 rfl rfl).trans ((w_icmp_ge (pc' := 9) c18_6 rfl).trans ((ite_iff ((w_iconst (pc' := 10) (v := 1) c18_9 rfl rfl).trans ((w_goto c18_10).trans ((w_zret (ty := .boolean) c18_14 rfl (by decide)).trans (and_iff_right (by decide))))) ((w_iconst (pc' := 14) (v := 0) c18_13 rfl rfl).trans ((w_zret (ty := .boolean) c18_14 rfl (by decide)).trans (and_iff_right (by decide))))).trans (ite_val (fun z => Q (some (.int z)) (K0, R0, I, L)))))))).trans (ite_val (fun z => Q (some (.int z)) (K0, R0, I, L)))))
-- LeavesObject.innThatHolds()LLeavesObject$Inn;
theorem c19_0 : cdx (mC m19) 0 = some (0, .aload_n 0, 1, 0, 0, 0, 0, []) := rfl
theorem c19_1 : cdx (mC m19) 1 = some (1, .getfield 12, 3, 9, 0, 0, 1239, []) := rfl
theorem c19_4 : cdx (mC m19) 4 = some (4, .getfield 152, 3, 5, 3, 0, 1107, []) := rfl
theorem c19_7 : cdx (mC m19) 7 = some (7, .ifCond .lt 18, 3, 25, 0, 0, 0, []) := rfl
theorem c19_10 : cdx (mC m19) 10 = some (10, .aload_n 0, 1, 0, 0, 0, 0, []) := rfl
theorem c19_11 : cdx (mC m19) 11 = some (11, .getfield 12, 3, 9, 0, 0, 1239, []) := rfl
theorem c19_14 : cdx (mC m19) 14 = some (14, .getfield 152, 3, 5, 3, 0, 1107, []) := rfl
theorem c19_17 : cdx (mC m19) 17 = some (17, .aload_n 0, 1, 0, 0, 0, 0, []) := rfl
theorem c19_18 : cdx (mC m19) 18 = some (18, .getfield 33, 3, 9, 5, 0, 2004, []) := rfl
theorem c19_21 : cdx (mC m19) 21 = some (21, .arraylength, 1, 0, 0, 0, 0, []) := rfl
theorem c19_22 : cdx (mC m19) 22 = some (22, .if_icmp .lt 8, 3, 30, 0, 0, 0, []) := rfl
theorem c19_25 : cdx (mC m19) 25 = some (25, .aload_n 0, 1, 0, 0, 0, 0, []) := rfl
theorem c19_26 : cdx (mC m19) 26 = some (26, .getfield 38, 3, 9, 7, 0, 2006, []) := rfl
theorem c19_29 : cdx (mC m19) 29 = some (29, .areturn, 1, 0, 0, 0, 0, []) := rfl
theorem c19_30 : cdx (mC m19) 30 = some (30, .aload_n 0, 1, 0, 0, 0, 0, []) := rfl
theorem c19_31 : cdx (mC m19) 31 = some (31, .getfield 33, 3, 9, 5, 0, 2004, []) := rfl
theorem c19_34 : cdx (mC m19) 34 = some (34, .aload_n 0, 1, 0, 0, 0, 0, []) := rfl
theorem c19_35 : cdx (mC m19) 35 = some (35, .getfield 12, 3, 9, 0, 0, 1239, []) := rfl
theorem c19_38 : cdx (mC m19) 38 = some (38, .getfield 152, 3, 5, 3, 0, 1107, []) := rfl
theorem c19_41 : cdx (mC m19) 41 = some (41, .aaload, 1, 0, 0, 0, 0, []) := rfl
theorem c19_42 : cdx (mC m19) 42 = some (42, .astore_n 1, 1, 1, 0, 0, 0, []) := rfl
theorem c19_43 : cdx (mC m19) 43 = some (43, .aload_n 1, 1, 1, 0, 0, 0, []) := rfl
theorem c19_44 : cdx (mC m19) 44 = some (44, .ifnonnull 10, 3, 54, 0, 0, 0, []) := rfl
theorem c19_54 : cdx (mC m19) 54 = some (54, .aload_n 1, 1, 1, 0, 0, 0, []) := rfl
theorem c19_55 : cdx (mC m19) 55 = some (55, .areturn, 1, 0, 0, 0, 0, []) := rfl
theorem b19_0 {X : Nat × (Nat → Int32)} {d : Nat} {I : Nat → Nat → Int32} {L : Nat → Nat → Int64} {Q : Option Value → XW → Prop}   : wp X d m19 0 [some (.ref 0), none] [] (K0, R0, I, L) Q ↔ (if (I 1 3) < 0 then Q (some (.ref 67)) (K0, R0, I, L) else (if (I 1 3) < 6 then (inA (I 1 3) 6 = true ∧ Q (some (.ref (82 + 5 * (Int32.toNatClampNeg (I 1 3))))) (K0, R0, I, L)) else Q (some (.ref 67)) (K0, R0, I, L))) := (w_aload_n (pc' := 1) c19_0 rfl rfl).trans ((w_getR (pc' := 4) (q := 1) c19_1 kd_0 (by decide) rfl rd_0_0 rfl).trans ((w_getIv (pc' := 7) (v := (I 1 3)) c19_4 tbl_1.1 (by decide) rfl (rfl) rfl).trans ((w_if_lt (pc' := 10) c19_7 rfl).trans (ite_iff ((w_aload_n (pc' := 26) c19_25 rfl rfl).trans ((w_getR (pc' := 29) (q := 67) c19_26 kd_0 (by decide) rfl rd_0_7 rfl).trans (w_aret c19_29 rfl))) ((w_aload_n (pc' := 11) c19_10 rfl rfl).trans ((w_getR (pc' := 14) (q := 1) c19_11 kd_0 (by decide) rfl rd_0_0 rfl).trans ((w_getIv (pc' := 17) (v := (I 1 3)) c19_14 tbl_1.1 (by decide) rfl (rfl) rfl).trans ((w_aload_n (pc' := 18) c19_17 rfl rfl).trans ((w_getR (pc' := 21) (q := 66) c19_18 kd_0 (by decide) rfl rd_0_5 rfl).trans ((w_alen (pc' := 22) (v := 6) c19_21 kd_66 rfl rfl).trans ((w_icmp_lt (pc' := 25) c19_22 rfl).trans (ite_iff ((w_aload_n (pc' := 31) c19_30 rfl rfl).trans ((w_getR (pc' := 34) (q := 66) c19_31 kd_0 (by decide) rfl rd_0_5 rfl).trans ((w_aload_n (pc' := 35) c19_34 rfl rfl).trans ((w_getR (pc' := 38) (q := 1) c19_35 kd_0 (by decide) rfl rd_0_0 rfl).trans ((w_getIv (pc' := 41) (v := (I 1 3)) c19_38 tbl_1.1 (by decide) rfl (rfl) rfl).trans ((w_aaldR (pc' := 42) (q := (82 + 5 * (Int32.toNatClampNeg (I 1 3)))) c19_41 kd_66 (fun h => (inns_ok _ (inA_lt h)).1) rfl).trans (and_congr_right (fun hg41 => (w_astore_n (pc' := 43) (ls' := [some (.ref 0), some (.ref (82 + 5 * (Int32.toNatClampNeg (I 1 3))))]) c19_42 (Nat.le_of_ble_eq_true rfl) rfl rfl).trans ((w_aload_n (pc' := 44) c19_43 rfl rfl).trans ((w_ifnonnull c19_44 (k_lt (inns_ok _ (inA_lt hg41)).2.1)).trans ((w_aload_n (pc' := 55) c19_54 rfl rfl).trans (w_aret c19_55 rfl)))))))))))) ((w_aload_n (pc' := 26) c19_25 rfl rfl).trans ((w_getR (pc' := 29) (q := 67) c19_26 kd_0 (by decide) rfl rd_0_7 rfl).trans (w_aret c19_29 rfl)))))))))))))))
-- LeavesObject$Inn.willOf(LLeavesObject$Cup;II)I
theorem c20_0 : cdx (mC m20) 0 = some (0, .aload_n 0, 1, 0, 0, 0, 0, []) := rfl
theorem c20_1 : cdx (mC m20) 1 = some (1, .aload_n 1, 1, 1, 0, 0, 0, []) := rfl
theorem c20_2 : cdx (mC m20) 2 = some (2, .iload_n 2, 1, 2, 0, 0, 0, []) := rfl
theorem c20_3 : cdx (mC m20) 3 = some (3, .iload_n 3, 1, 3, 0, 0, 0, []) := rfl
theorem c20_4 : cdx (mC m20) 4 = some (4, .invokevirtual 41, 3, 21, 3, 0, 2077, [(2, 0)]) := rfl
theorem c20_7 : cdx (mC m20) 7 = some (7, .iconst 5, 1, 0, 0, 0, 0, []) := rfl
theorem c20_8 : cdx (mC m20) 8 = some (8, .istore 4, 2, 4, 0, 0, 0, []) := rfl
theorem c20_10 : cdx (mC m20) 10 = some (10, .iconst 0, 1, 0, 0, 0, 0, []) := rfl
theorem c20_11 : cdx (mC m20) 11 = some (11, .istore 5, 2, 5, 0, 0, 0, []) := rfl
theorem c20_13 : cdx (mC m20) 13 = some (13, .iconst 0, 1, 0, 0, 0, 0, []) := rfl
theorem c20_14 : cdx (mC m20) 14 = some (14, .istore 6, 2, 6, 0, 0, 0, []) := rfl
theorem c20_16 : cdx (mC m20) 16 = some (16, .iload 6, 2, 6, 0, 0, 0, []) := rfl
theorem c20_18 : cdx (mC m20) 18 = some (18, .aload_n 0, 1, 0, 0, 0, 0, []) := rfl
theorem c20_19 : cdx (mC m20) 19 = some (19, .getfield 31, 3, 2, 2, 0, 1162, []) := rfl
theorem c20_22 : cdx (mC m20) 22 = some (22, .if_icmp .ge 66, 3, 88, 0, 0, 0, []) := rfl
theorem c20_25 : cdx (mC m20) 25 = some (25, .iload 6, 2, 6, 0, 0, 0, []) := rfl
theorem c20_27 : cdx (mC m20) 27 = some (27, .aload_n 0, 1, 0, 0, 0, 0, []) := rfl
theorem c20_28 : cdx (mC m20) 28 = some (28, .getfield 18, 3, 2, 3, 0, 1163, []) := rfl
theorem c20_31 : cdx (mC m20) 31 = some (31, .arraylength, 1, 0, 0, 0, 0, []) := rfl
theorem c20_32 : cdx (mC m20) 32 = some (32, .if_icmp .ge 56, 3, 88, 0, 0, 0, []) := rfl
theorem c20_35 : cdx (mC m20) 35 = some (35, .iload 6, 2, 6, 0, 0, 0, []) := rfl
theorem c20_37 : cdx (mC m20) 37 = some (37, .aload_n 0, 1, 0, 0, 0, 0, []) := rfl
theorem c20_38 : cdx (mC m20) 38 = some (38, .getfield 22, 3, 2, 4, 0, 1164, []) := rfl
theorem c20_41 : cdx (mC m20) 41 = some (41, .arraylength, 1, 0, 0, 0, 0, []) := rfl
theorem c20_42 : cdx (mC m20) 42 = some (42, .if_icmp .ge 46, 3, 88, 0, 0, 0, []) := rfl
theorem c20_45 : cdx (mC m20) 45 = some (45, .aload_n 0, 1, 0, 0, 0, 0, []) := rfl
theorem c20_46 : cdx (mC m20) 46 = some (46, .iload 5, 2, 5, 0, 0, 0, []) := rfl
theorem c20_48 : cdx (mC m20) 48 = some (48, .aload_n 0, 1, 0, 0, 0, 0, []) := rfl
theorem c20_49 : cdx (mC m20) 49 = some (49, .getfield 22, 3, 2, 4, 0, 1164, []) := rfl
theorem c20_52 : cdx (mC m20) 52 = some (52, .iload 6, 2, 6, 0, 0, 0, []) := rfl
theorem c20_54 : cdx (mC m20) 54 = some (54, .iaload, 1, 0, 0, 0, 0, []) := rfl
theorem c20_55 : cdx (mC m20) 55 = some (55, .invokevirtual 45, 3, 23, 2, 0, 2087, [(2, 0)]) := rfl
theorem c20_58 : cdx (mC m20) 58 = some (58, .ifCond .eq 15, 3, 73, 0, 0, 0, []) := rfl
theorem c20_61 : cdx (mC m20) 61 = some (61, .iload 4, 2, 4, 0, 0, 0, []) := rfl
theorem c20_63 : cdx (mC m20) 63 = some (63, .aload_n 0, 1, 0, 0, 0, 0, []) := rfl
theorem c20_64 : cdx (mC m20) 64 = some (64, .getfield 18, 3, 2, 3, 0, 1163, []) := rfl
theorem c20_67 : cdx (mC m20) 67 = some (67, .iload 6, 2, 6, 0, 0, 0, []) := rfl
theorem c20_69 : cdx (mC m20) 69 = some (69, .iaload, 1, 0, 0, 0, 0, []) := rfl
theorem c20_70 : cdx (mC m20) 70 = some (70, .iadd, 1, 0, 0, 0, 0, []) := rfl
theorem c20_71 : cdx (mC m20) 71 = some (71, .istore 4, 2, 4, 0, 0, 0, []) := rfl
theorem c20_73 : cdx (mC m20) 73 = some (73, .aload_n 0, 1, 0, 0, 0, 0, []) := rfl
theorem c20_74 : cdx (mC m20) 74 = some (74, .getfield 22, 3, 2, 4, 0, 1164, []) := rfl
theorem c20_77 : cdx (mC m20) 77 = some (77, .iload 6, 2, 6, 0, 0, 0, []) := rfl
theorem c20_79 : cdx (mC m20) 79 = some (79, .iaload, 1, 0, 0, 0, 0, []) := rfl
theorem c20_80 : cdx (mC m20) 80 = some (80, .istore 5, 2, 5, 0, 0, 0, []) := rfl
theorem c20_82 : cdx (mC m20) 82 = some (82, .iinc 6 1, 3, 6, 0, 0, 0, []) := rfl
theorem c20_85 : cdx (mC m20) 85 = some (85, .goto (-69), 3, 16, 0, 0, 0, []) := rfl
theorem c20_88 : cdx (mC m20) 88 = some (88, .iload 4, 2, 4, 0, 0, 0, []) := rfl
theorem c20_90 : cdx (mC m20) 90 = some (90, .iconst 0, 1, 0, 0, 0, 0, []) := rfl
theorem c20_91 : cdx (mC m20) 91 = some (91, .invokestatic 49, 3, 3, 2, 5, 2091, []) := rfl
theorem c20_94 : cdx (mC m20) 94 = some (94, .ireturn, 1, 0, 0, 0, 0, []) := rfl
def lv20 : List (Nat × List Nat) := [(0, [0, 1, 2, 3]), (1, [0, 1, 2, 3]), (2, [0, 2, 3]), (3, [0, 3]), (4, [0]), (7, [0]), (8, [0]), (10, [0, 4]), (11, [0, 4]), (13, [0, 4, 5]), (14, [0, 4, 5]), (16, [0, 4, 5, 6]), (18, [0, 4, 5, 6]), (19, [0, 4, 5, 6]), (22, [0, 4, 5, 6]), (25, [0, 4, 5, 6]), (27, [0, 4, 5, 6]), (28, [0, 4, 5, 6]), (31, [0, 4, 5, 6]), (32, [0, 4, 5, 6]), (35, [0, 4, 5, 6]), (37, [0, 4, 5, 6]), (38, [0, 4, 5, 6]), (41, [0, 4, 5, 6]), (42, [0, 4, 5, 6]), (45, [0, 4, 5, 6]), (46, [0, 4, 5, 6]), (48, [0, 4, 6]), (49, [0, 4, 6]), (52, [0, 4, 6]), (54, [0, 4, 6]), (55, [0, 4, 6]), (58, [0, 4, 6]), (61, [0, 4, 6]), (63, [0, 6]), (64, [0, 6]), (67, [0, 6]), (69, [0, 6]), (70, [0, 6]), (71, [0, 6]), (73, [0, 4, 6]), (74, [0, 4, 6]), (77, [0, 4, 6]), (79, [0, 4, 6]), (80, [0, 4, 6]), (82, [0, 4, 5, 6]), (85, [0, 4, 5, 6]), (88, [4])]
theorem lvok20 : lvOk (mC m20) lv20 = true := by decide +kernel
theorem b20_0 {X : Nat × (Nat → Int32)} {d : Nat} {I : Nat → Nat → Int32} {L : Nat → Nat → Int64} {Q : Option Value → XW → Prop} {r0 : Nat} {r1 : Nat} {x2 : Int32} {x3 : Int32} (hr0 : isInn r0) (hr1 : isCup r1) : wp X (d + 1) m20 0 [some (.ref r0), some (.ref r1), some (.int x2), some (.int x3), none, none, none] [] (K0, R0, I, L) Q ↔ wp X d m21 0 [some (.ref r0), some (.ref r1), some (.int x2), some (.int x3)] [] (K0, R0, I, L) (fun r w1 => wp X (d + 1) m20 7 [some (.ref r0), none, none, none, none, none, none] (r.toList ++ []) w1 Q) := (w_aload_n (pc' := 1) c20_0 rfl rfl).trans ((w_aload_n (pc' := 2) c20_1 rfl rfl).trans ((w_iload_n (pc' := 3) c20_2 rfl rfl).trans ((w_iload_n (pc' := 4) c20_3 rfl rfl).trans ((w_callv (pc' := 7) c20_4 mt21 rfl (Nat.le_of_ble_eq_true rfl) rfl hr0.1 rfl rfl (Nat.le_of_ble_eq_true rfl) rfl rfl).trans (wp_congr (fun r w1 => wp_msk lvok20 rfl))))))
theorem b20_7 {X : Nat × (Nat → Int32)} {d : Nat} {I : Nat → Nat → Int32} {L : Nat → Nat → Int64} {Q : Option Value → XW → Prop} {r0 : Nat} (hr0 : isInn r0) : wp X d m20 7 [some (.ref r0), none, none, none, none, none, none] [] (K0, R0, I, L) Q ↔ wp X d m20 16 [some (.ref r0), none, none, none, some (.int 5), some (.int 0), some (.int 0)] [] (K0, R0, I, L) Q := (w_iconst (pc' := 8) (v := 5) c20_7 rfl rfl).trans ((w_istore (pc' := 10) (ls' := [some (.ref r0), none, none, none, some (.int 5), none, none]) c20_8 (Nat.le_of_ble_eq_true rfl) rfl rfl).trans ((w_iconst (pc' := 11) (v := 0) c20_10 rfl rfl).trans ((w_istore (pc' := 13) (ls' := [some (.ref r0), none, none, none, some (.int 5), some (.int 0), none]) c20_11 (Nat.le_of_ble_eq_true rfl) rfl rfl).trans ((w_iconst (pc' := 14) (v := 0) c20_13 rfl rfl).trans ((w_istore (pc' := 16) (ls' := [some (.ref r0), none, none, none, some (.int 5), some (.int 0), some (.int 0)]) c20_14 (Nat.le_of_ble_eq_true rfl) rfl rfl))))))
theorem b20_16 {X : Nat × (Nat → Int32)} {d : Nat} {I : Nat → Nat → Int32} {L : Nat → Nat → Int64} {Q : Option Value → XW → Prop} {r0 : Nat} {x4 : Int32} {x5 : Int32} {x6 : Int32} (hr0 : isInn r0) : wp X (d + 1) m20 16 [some (.ref r0), none, none, none, some (.int x4), some (.int x5), some (.int x6)] [] (K0, R0, I, L) Q ↔ (if x6 < (I r0 2) then (if x6 < 10 then (if x6 < 10 then (inA x6 10 = true ∧ wp X d m23 0 [some (.ref r0), some (.int x5), some (.int (I (r0 + 2) (Int32.toNatClampNeg x6))), none, none, none] [] (K0, R0, I, L) (fun r w1 => wp X (d + 1) m20 58 [some (.ref r0), none, none, none, some (.int x4), none, some (.int x6)] (r.toList ++ []) w1 Q)) else wp X d m3 0 [some (.int x4), some (.int 0)] [] (K0, R0, I, L) (fun r w1 => wp X (d + 1) m20 94 [none, none, none, none, none, none, none] (r.toList ++ []) w1 Q)) else wp X d m3 0 [some (.int x4), some (.int 0)] [] (K0, R0, I, L) (fun r w1 => wp X (d + 1) m20 94 [none, none, none, none, none, none, none] (r.toList ++ []) w1 Q)) else wp X d m3 0 [some (.int x4), some (.int 0)] [] (K0, R0, I, L) (fun r w1 => wp X (d + 1) m20 94 [none, none, none, none, none, none, none] (r.toList ++ []) w1 Q)) := (w_iload (pc' := 18) c20_16 rfl rfl).trans ((w_aload_n (pc' := 19) c20_18 rfl rfl).trans ((w_getIv (pc' := 22) (v := (I r0 2)) c20_19 hr0.1 (by decide) rfl (rfl) rfl).trans ((w_icmp_ge (pc' := 25) c20_22 rfl).trans (ite_iff ((w_iload (pc' := 27) c20_25 rfl rfl).trans ((w_aload_n (pc' := 28) c20_27 rfl rfl).trans ((w_getR (pc' := 31) (q := (r0 + 1)) c20_28 hr0.1 (by decide) rfl hr0.2.1 rfl).trans ((w_alen (pc' := 32) (v := 10) c20_31 hr0.2.2.2.2.2.1 rfl rfl).trans ((w_icmp_ge (pc' := 35) c20_32 rfl).trans (ite_iff ((w_iload (pc' := 37) c20_35 rfl rfl).trans ((w_aload_n (pc' := 38) c20_37 rfl rfl).trans ((w_getR (pc' := 41) (q := (r0 + 2)) c20_38 hr0.1 (by decide) rfl hr0.2.2.1 rfl).trans ((w_alen (pc' := 42) (v := 10) c20_41 hr0.2.2.2.2.2.2.1 rfl rfl).trans ((w_icmp_ge (pc' := 45) c20_42 rfl).trans (ite_iff ((w_aload_n (pc' := 46) c20_45 rfl rfl).trans ((w_iload (pc' := 48) c20_46 rfl rfl).trans ((w_aload_n (pc' := 49) c20_48 rfl rfl).trans ((w_getR (pc' := 52) (q := (r0 + 2)) c20_49 hr0.1 (by decide) rfl hr0.2.2.1 rfl).trans ((w_iload (pc' := 54) c20_52 rfl rfl).trans ((w_ialdv (pc' := 55) (v := (I (r0 + 2) (Int32.toNatClampNeg x6))) c20_54 hr0.2.2.2.2.2.2.1 (rfl) rfl).trans (and_congr_right (fun _ => (w_callv (pc' := 58) c20_55 mt23 rfl (Nat.le_of_ble_eq_true rfl) rfl hr0.1 rfl rfl (Nat.le_of_ble_eq_true rfl) rfl rfl).trans (wp_congr (fun r w1 => wp_msk lvok20 rfl)))))))))) ((w_iload (pc' := 90) c20_88 rfl rfl).trans ((w_iconst (pc' := 91) (v := 0) c20_90 rfl rfl).trans ((w_callst (pc' := 94) c20_91 (by decide) mt3 rfl (Nat.le_of_ble_eq_true rfl) rfl rfl (Nat.le_of_ble_eq_true rfl) rfl rfl).trans (wp_congr (fun r w1 => wp_msk lvok20 rfl))))))))))) ((w_iload (pc' := 90) c20_88 rfl rfl).trans ((w_iconst (pc' := 91) (v := 0) c20_90 rfl rfl).trans ((w_callst (pc' := 94) c20_91 (by decide) mt3 rfl (Nat.le_of_ble_eq_true rfl) rfl rfl (Nat.le_of_ble_eq_true rfl) rfl rfl).trans (wp_congr (fun r w1 => wp_msk lvok20 rfl))))))))))) ((w_iload (pc' := 90) c20_88 rfl rfl).trans ((w_iconst (pc' := 91) (v := 0) c20_90 rfl rfl).trans ((w_callst (pc' := 94) c20_91 (by decide) mt3 rfl (Nat.le_of_ble_eq_true rfl) rfl rfl (Nat.le_of_ble_eq_true rfl) rfl rfl).trans (wp_congr (fun r w1 => wp_msk lvok20 rfl)))))))))
theorem b20_58 {X : Nat × (Nat → Int32)} {d : Nat} {I : Nat → Nat → Int32} {L : Nat → Nat → Int64} {Q : Option Value → XW → Prop} {r0 : Nat} {x4 : Int32} {x6 : Int32} {s0 : Int32} (hr0 : isInn r0) : wp X d m20 58 [some (.ref r0), none, none, none, some (.int x4), none, some (.int x6)] [(.int s0)] (K0, R0, I, L) Q ↔ (if s0 = 0 then (inA x6 10 = true ∧ wp X d m20 16 [some (.ref r0), none, none, none, some (.int x4), some (.int (I (r0 + 2) (Int32.toNatClampNeg x6))), some (.int (x6 + 1))] [] (K0, R0, I, L) Q) else (inA x6 10 = true ∧ (inA x6 10 = true ∧ wp X d m20 16 [some (.ref r0), none, none, none, some (.int (x4 + (I (r0 + 1) (Int32.toNatClampNeg x6)))), some (.int (I (r0 + 2) (Int32.toNatClampNeg x6))), some (.int (x6 + 1))] [] (K0, R0, I, L) Q))) := (w_if_eq (pc' := 61) c20_58 rfl).trans (ite_iff ((w_aload_n (pc' := 74) c20_73 rfl rfl).trans ((w_getR (pc' := 77) (q := (r0 + 2)) c20_74 hr0.1 (by decide) rfl hr0.2.2.1 rfl).trans ((w_iload (pc' := 79) c20_77 rfl rfl).trans ((w_ialdv (pc' := 80) (v := (I (r0 + 2) (Int32.toNatClampNeg x6))) c20_79 hr0.2.2.2.2.2.2.1 (rfl) rfl).trans (and_congr_right (fun _ => (w_istore (pc' := 82) (ls' := [some (.ref r0), none, none, none, some (.int x4), some (.int (I (r0 + 2) (Int32.toNatClampNeg x6))), some (.int x6)]) c20_80 (Nat.le_of_ble_eq_true rfl) rfl rfl).trans ((w_iinc (pc' := 85) (v := (x6 + 1)) (ls' := [some (.ref r0), none, none, none, some (.int x4), some (.int (I (r0 + 2) (Int32.toNatClampNeg x6))), some (.int (x6 + 1))]) c20_82 (Nat.le_of_ble_eq_true rfl) rfl rfl rfl rfl).trans ((w_goto c20_85))))))))) ((w_iload (pc' := 63) c20_61 rfl rfl).trans ((w_aload_n (pc' := 64) c20_63 rfl rfl).trans ((w_getR (pc' := 67) (q := (r0 + 1)) c20_64 hr0.1 (by decide) rfl hr0.2.1 rfl).trans ((w_iload (pc' := 69) c20_67 rfl rfl).trans ((w_ialdv (pc' := 70) (v := (I (r0 + 1) (Int32.toNatClampNeg x6))) c20_69 hr0.2.2.2.2.2.1 (rfl) rfl).trans (and_congr_right (fun _ => (w_iadd (pc' := 71) c20_70 rfl).trans ((w_istore (pc' := 73) (ls' := [some (.ref r0), none, none, none, some (.int (x4 + (I (r0 + 1) (Int32.toNatClampNeg x6)))), none, some (.int x6)]) c20_71 (Nat.le_of_ble_eq_true rfl) rfl rfl).trans ((w_aload_n (pc' := 74) c20_73 rfl rfl).trans ((w_getR (pc' := 77) (q := (r0 + 2)) c20_74 hr0.1 (by decide) rfl hr0.2.2.1 rfl).trans ((w_iload (pc' := 79) c20_77 rfl rfl).trans ((w_ialdv (pc' := 80) (v := (I (r0 + 2) (Int32.toNatClampNeg x6))) c20_79 hr0.2.2.2.2.2.2.1 (rfl) rfl).trans (and_congr_right (fun _ => (w_istore (pc' := 82) (ls' := [some (.ref r0), none, none, none, some (.int (x4 + (I (r0 + 1) (Int32.toNatClampNeg x6)))), some (.int (I (r0 + 2) (Int32.toNatClampNeg x6))), some (.int x6)]) c20_80 (Nat.le_of_ble_eq_true rfl) rfl rfl).trans ((w_iinc (pc' := 85) (v := (x6 + 1)) (ls' := [some (.ref r0), none, none, none, some (.int (x4 + (I (r0 + 1) (Int32.toNatClampNeg x6)))), some (.int (I (r0 + 2) (Int32.toNatClampNeg x6))), some (.int (x6 + 1))]) c20_82 (Nat.le_of_ble_eq_true rfl) rfl rfl rfl rfl).trans ((w_goto c20_85))))))))))))))))))
theorem b20_94 {X : Nat × (Nat → Int32)} {d : Nat} {I : Nat → Nat → Int32} {L : Nat → Nat → Int64} {Q : Option Value → XW → Prop} {s0 : Int32}  : wp X d m20 94 [none, none, none, none, none, none, none] [(.int s0)] (K0, R0, I, L) Q ↔ Q (some (.int s0)) (K0, R0, I, L) := w_iret c20_94 rfl
-- LeavesObject$Inn.ask(LLeavesObject$Cup;II)V
theorem c21_0 : cdx (mC m21) 0 = some (0, .aload_n 0, 1, 0, 0, 0, 0, []) := rfl
theorem c21_1 : cdx (mC m21) 1 = some (1, .getfield 28, 3, 2, 7, 0, 1167, []) := rfl
theorem c21_4 : cdx (mC m21) 4 = some (4, .iconst 0, 1, 0, 0, 0, 0, []) := rfl
theorem c21_5 : cdx (mC m21) 5 = some (5, .aload_n 1, 1, 1, 0, 0, 0, []) := rfl
theorem c21_6 : cdx (mC m21) 6 = some (6, .getfield 55, 3, 1, 0, 0, 1064, []) := rfl
theorem c21_9 : cdx (mC m21) 9 = some (9, .iastore, 1, 0, 0, 0, 0, []) := rfl
theorem c21_10 : cdx (mC m21) 10 = some (10, .aload_n 0, 1, 0, 0, 0, 0, []) := rfl
theorem c21_11 : cdx (mC m21) 11 = some (11, .getfield 28, 3, 2, 7, 0, 1167, []) := rfl
theorem c21_14 : cdx (mC m21) 14 = some (14, .iconst 1, 1, 0, 0, 0, 0, []) := rfl
theorem c21_15 : cdx (mC m21) 15 = some (15, .iload_n 2, 1, 2, 0, 0, 0, []) := rfl
theorem c21_16 : cdx (mC m21) 16 = some (16, .iastore, 1, 0, 0, 0, 0, []) := rfl
theorem c21_17 : cdx (mC m21) 17 = some (17, .aload_n 0, 1, 0, 0, 0, 0, []) := rfl
theorem c21_18 : cdx (mC m21) 18 = some (18, .getfield 28, 3, 2, 7, 0, 1167, []) := rfl
theorem c21_21 : cdx (mC m21) 21 = some (21, .iconst 2, 1, 0, 0, 0, 0, []) := rfl
theorem c21_22 : cdx (mC m21) 22 = some (22, .aload_n 1, 1, 1, 0, 0, 0, []) := rfl
theorem c21_23 : cdx (mC m21) 23 = some (23, .getfield 60, 3, 1, 1, 0, 1068, []) := rfl
theorem c21_26 : cdx (mC m21) 26 = some (26, .iastore, 1, 0, 0, 0, 0, []) := rfl
theorem c21_27 : cdx (mC m21) 27 = some (27, .aload_n 0, 1, 0, 0, 0, 0, []) := rfl
theorem c21_28 : cdx (mC m21) 28 = some (28, .getfield 28, 3, 2, 7, 0, 1167, []) := rfl
theorem c21_31 : cdx (mC m21) 31 = some (31, .iconst 3, 1, 0, 0, 0, 0, []) := rfl
theorem c21_32 : cdx (mC m21) 32 = some (32, .aload_n 1, 1, 1, 0, 0, 0, []) := rfl
theorem c21_33 : cdx (mC m21) 33 = some (33, .getfield 63, 3, 1, 2, 0, 1072, []) := rfl
theorem c21_36 : cdx (mC m21) 36 = some (36, .iastore, 1, 0, 0, 0, 0, []) := rfl
theorem c21_37 : cdx (mC m21) 37 = some (37, .aload_n 0, 1, 0, 0, 0, 0, []) := rfl
theorem c21_38 : cdx (mC m21) 38 = some (38, .getfield 28, 3, 2, 7, 0, 1167, []) := rfl
theorem c21_41 : cdx (mC m21) 41 = some (41, .iconst 4, 1, 0, 0, 0, 0, []) := rfl
theorem c21_42 : cdx (mC m21) 42 = some (42, .aload_n 1, 1, 1, 0, 0, 0, []) := rfl
theorem c21_43 : cdx (mC m21) 43 = some (43, .getfield 66, 3, 1, 3, 0, 1078, []) := rfl
theorem c21_46 : cdx (mC m21) 46 = some (46, .invokestatic 69, 3, 22, 1, 5, 2081, []) := rfl
theorem c21_49 : cdx (mC m21) 49 = some (49, .iastore, 1, 0, 0, 0, 0, []) := rfl
theorem c21_50 : cdx (mC m21) 50 = some (50, .aload_n 0, 1, 0, 0, 0, 0, []) := rfl
theorem c21_51 : cdx (mC m21) 51 = some (51, .getfield 28, 3, 2, 7, 0, 1167, []) := rfl
theorem c21_54 : cdx (mC m21) 54 = some (54, .iconst 5, 1, 0, 0, 0, 0, []) := rfl
theorem c21_55 : cdx (mC m21) 55 = some (55, .iload_n 3, 1, 3, 0, 0, 0, []) := rfl
theorem c21_56 : cdx (mC m21) 56 = some (56, .bipush 10, 2, 0, 0, 0, 0, []) := rfl
theorem c21_58 : cdx (mC m21) 58 = some (58, .irem, 1, 0, 0, 0, 0, []) := rfl
theorem c21_59 : cdx (mC m21) 59 = some (59, .iastore, 1, 0, 0, 0, 0, []) := rfl
theorem c21_60 : cdx (mC m21) 60 = some (60, .return_, 1, 0, 0, 0, 0, []) := rfl
def lv21 : List (Nat × List Nat) := [(0, [0, 1, 2, 3]), (1, [0, 1, 2, 3]), (4, [0, 1, 2, 3]), (5, [0, 1, 2, 3]), (6, [0, 1, 2, 3]), (9, [0, 1, 2, 3]), (10, [0, 1, 2, 3]), (11, [0, 1, 2, 3]), (14, [0, 1, 2, 3]), (15, [0, 1, 2, 3]), (16, [0, 1, 3]), (17, [0, 1, 3]), (18, [0, 1, 3]), (21, [0, 1, 3]), (22, [0, 1, 3]), (23, [0, 1, 3]), (26, [0, 1, 3]), (27, [0, 1, 3]), (28, [0, 1, 3]), (31, [0, 1, 3]), (32, [0, 1, 3]), (33, [0, 1, 3]), (36, [0, 1, 3]), (37, [0, 1, 3]), (38, [0, 1, 3]), (41, [0, 1, 3]), (42, [0, 1, 3]), (43, [0, 3]), (46, [0, 3]), (49, [0, 3]), (50, [0, 3]), (51, [3]), (54, [3]), (55, [3])]
theorem lvok21 : lvOk (mC m21) lv21 = true := by decide +kernel
theorem b21_0 {X : Nat × (Nat → Int32)} {d : Nat} {I : Nat → Nat → Int32} {L : Nat → Nat → Int64} {Q : Option Value → XW → Prop} {r0 : Nat} {r1 : Nat} {x2 : Int32} {x3 : Int32} (hr0 : isInn r0) (hr1 : isCup r1) : wp X (d + 1) m21 0 [some (.ref r0), some (.ref r1), some (.int x2), some (.int x3)] [] (K0, R0, I, L) Q ↔ wp X d m22 0 [some (.int ((updR (updR (updR (updR I (r0 + 4) 0 (I r1 0)) (r0 + 4) 1 x2) (r0 + 4) 2 ((updR (updR I (r0 + 4) 0 (I r1 0)) (r0 + 4) 1 x2) r1 1)) (r0 + 4) 3 ((updR (updR (updR I (r0 + 4) 0 (I r1 0)) (r0 + 4) 1 x2) (r0 + 4) 2 ((updR (updR I (r0 + 4) 0 (I r1 0)) (r0 + 4) 1 x2) r1 1)) r1 2)) r1 3))] [] (K0, R0, (updR (updR (updR (updR I (r0 + 4) 0 (I r1 0)) (r0 + 4) 1 x2) (r0 + 4) 2 ((updR (updR I (r0 + 4) 0 (I r1 0)) (r0 + 4) 1 x2) r1 1)) (r0 + 4) 3 ((updR (updR (updR I (r0 + 4) 0 (I r1 0)) (r0 + 4) 1 x2) (r0 + 4) 2 ((updR (updR I (r0 + 4) 0 (I r1 0)) (r0 + 4) 1 x2) r1 1)) r1 2)), L) (fun r w1 => wp X (d + 1) m21 49 [some (.ref r0), none, none, some (.int x3)] (r.toList ++ [(.int 4), (.ref (r0 + 4))]) w1 Q) := (w_aload_n (pc' := 1) c21_0 rfl rfl).trans ((w_getR (pc' := 4) (q := (r0 + 4)) c21_1 hr0.1 (by decide) rfl hr0.2.2.2.2.1 rfl).trans ((w_iconst (pc' := 5) (v := 0) c21_4 rfl rfl).trans ((w_aload_n (pc' := 6) c21_5 rfl rfl).trans ((w_getIv (pc' := 9) (v := (I r1 0)) c21_6 hr1.1 (by decide) rfl (rfl) rfl).trans (((w_iast (pc' := 10) c21_9 hr0.2.2.2.2.2.2.2.2 rfl).trans (and_iff_right (by decide))).trans ((w_aload_n (pc' := 11) c21_10 rfl rfl).trans ((w_getR (pc' := 14) (q := (r0 + 4)) c21_11 hr0.1 (by decide) rfl hr0.2.2.2.2.1 rfl).trans ((w_iconst (pc' := 15) (v := 1) c21_14 rfl rfl).trans ((w_iload_n (pc' := 16) c21_15 rfl rfl).trans (((w_iast (pc' := 17) c21_16 hr0.2.2.2.2.2.2.2.2 rfl).trans (and_iff_right (by decide))).trans ((w_aload_n (pc' := 18) c21_17 rfl rfl).trans ((w_getR (pc' := 21) (q := (r0 + 4)) c21_18 hr0.1 (by decide) rfl hr0.2.2.2.2.1 rfl).trans ((w_iconst (pc' := 22) (v := 2) c21_21 rfl rfl).trans ((w_aload_n (pc' := 23) c21_22 rfl rfl).trans ((w_getIv (pc' := 26) (v := ((updR (updR I (r0 + 4) 0 (I r1 0)) (r0 + 4) 1 x2) r1 1)) c21_23 hr1.1 (by decide) rfl (rfl) rfl).trans (((w_iast (pc' := 27) c21_26 hr0.2.2.2.2.2.2.2.2 rfl).trans (and_iff_right (by decide))).trans ((w_aload_n (pc' := 28) c21_27 rfl rfl).trans ((w_getR (pc' := 31) (q := (r0 + 4)) c21_28 hr0.1 (by decide) rfl hr0.2.2.2.2.1 rfl).trans ((w_iconst (pc' := 32) (v := 3) c21_31 rfl rfl).trans ((w_aload_n (pc' := 33) c21_32 rfl rfl).trans ((w_getIv (pc' := 36) (v := ((updR (updR (updR I (r0 + 4) 0 (I r1 0)) (r0 + 4) 1 x2) (r0 + 4) 2 ((updR (updR I (r0 + 4) 0 (I r1 0)) (r0 + 4) 1 x2) r1 1)) r1 2)) c21_33 hr1.1 (by decide) rfl (rfl) rfl).trans (((w_iast (pc' := 37) c21_36 hr0.2.2.2.2.2.2.2.2 rfl).trans (and_iff_right (by decide))).trans ((w_aload_n (pc' := 38) c21_37 rfl rfl).trans ((w_getR (pc' := 41) (q := (r0 + 4)) c21_38 hr0.1 (by decide) rfl hr0.2.2.2.2.1 rfl).trans ((w_iconst (pc' := 42) (v := 4) c21_41 rfl rfl).trans ((w_aload_n (pc' := 43) c21_42 rfl rfl).trans ((w_getIv (pc' := 46) (v := ((updR (updR (updR (updR I (r0 + 4) 0 (I r1 0)) (r0 + 4) 1 x2) (r0 + 4) 2 ((updR (updR I (r0 + 4) 0 (I r1 0)) (r0 + 4) 1 x2) r1 1)) (r0 + 4) 3 ((updR (updR (updR I (r0 + 4) 0 (I r1 0)) (r0 + 4) 1 x2) (r0 + 4) 2 ((updR (updR I (r0 + 4) 0 (I r1 0)) (r0 + 4) 1 x2) r1 1)) r1 2)) r1 3)) c21_43 hr1.1 (by decide) rfl (rfl) rfl).trans ((w_callst (pc' := 49) c21_46 (by decide) mt22 rfl (Nat.le_of_ble_eq_true rfl) rfl rfl (Nat.le_of_ble_eq_true rfl) rfl rfl).trans (wp_congr (fun r w1 => wp_msk lvok21 rfl))))))))))))))))))))))))))))))
theorem b21_49 {X : Nat × (Nat → Int32)} {d : Nat} {I : Nat → Nat → Int32} {L : Nat → Nat → Int64} {Q : Option Value → XW → Prop} {r0 : Nat} {x3 : Int32} {q0 : Nat} {s1 : Int32} {s2 : Int32} (hr0 : isInn r0) (hq0 : K0[q0]? = some (.inl (.int, 6))) : wp X d m21 49 [some (.ref r0), none, none, some (.int x3)] [(.int s2), (.int s1), (.ref q0)] (K0, R0, I, L) Q ↔ (inA s1 6 = true ∧ Q none (K0, R0, (updR (updR I q0 (Int32.toNatClampNeg s1) s2) (r0 + 4) 5 (x3 - x3 / 10 * 10)), L)) := (w_iast (pc' := 50) c21_49 hq0 rfl).trans (and_congr_right (fun _ => (w_aload_n (pc' := 51) c21_50 rfl rfl).trans ((w_getR (pc' := 54) (q := (r0 + 4)) c21_51 hr0.1 (by decide) rfl hr0.2.2.2.2.1 rfl).trans ((w_iconst (pc' := 55) (v := 5) c21_54 rfl rfl).trans ((w_iload_n (pc' := 56) c21_55 rfl rfl).trans ((w_bipush (pc' := 58) (v := 10) c21_56 rfl rfl).trans (((w_irem (pc' := 59) c21_58 rfl).trans (and_iff_right (by decide))).trans (((w_iast (pc' := 60) c21_59 hr0.2.2.2.2.2.2.2.2 rfl).trans (and_iff_right (by decide))).trans (w_vret c21_60 rfl)))))))))
-- java/lang/Integer.bitCount(I)I
theorem c22_0 : cdx (mC m22) 0 = some (0, .iload_n 0, 1, 0, 0, 0, 0, []) := rfl
theorem c22_1 : cdx (mC m22) 1 = some (1, .iload_n 0, 1, 0, 0, 0, 0, []) := rfl
theorem c22_2 : cdx (mC m22) 2 = some (2, .iconst 1, 1, 0, 0, 0, 0, []) := rfl
theorem c22_3 : cdx (mC m22) 3 = some (3, .iushr, 1, 0, 0, 0, 0, []) := rfl
theorem c22_4 : cdx (mC m22) 4 = some (4, .ldc_w 265, 3, 0, 0, 0, 2084, [(1431655765, 0)]) := rfl
theorem c22_7 : cdx (mC m22) 7 = some (7, .iand, 1, 0, 0, 0, 0, []) := rfl
theorem c22_8 : cdx (mC m22) 8 = some (8, .isub, 1, 0, 0, 0, 0, []) := rfl
theorem c22_9 : cdx (mC m22) 9 = some (9, .istore_n 0, 1, 0, 0, 0, 0, []) := rfl
theorem c22_10 : cdx (mC m22) 10 = some (10, .iload_n 0, 1, 0, 0, 0, 0, []) := rfl
theorem c22_11 : cdx (mC m22) 11 = some (11, .ldc_w 266, 3, 0, 0, 0, 2085, [(858993459, 0)]) := rfl
theorem c22_14 : cdx (mC m22) 14 = some (14, .iand, 1, 0, 0, 0, 0, []) := rfl
theorem c22_15 : cdx (mC m22) 15 = some (15, .iload_n 0, 1, 0, 0, 0, 0, []) := rfl
theorem c22_16 : cdx (mC m22) 16 = some (16, .iconst 2, 1, 0, 0, 0, 0, []) := rfl
theorem c22_17 : cdx (mC m22) 17 = some (17, .iushr, 1, 0, 0, 0, 0, []) := rfl
theorem c22_18 : cdx (mC m22) 18 = some (18, .ldc_w 266, 3, 0, 0, 0, 2085, [(858993459, 0)]) := rfl
theorem c22_21 : cdx (mC m22) 21 = some (21, .iand, 1, 0, 0, 0, 0, []) := rfl
theorem c22_22 : cdx (mC m22) 22 = some (22, .iadd, 1, 0, 0, 0, 0, []) := rfl
theorem c22_23 : cdx (mC m22) 23 = some (23, .istore_n 0, 1, 0, 0, 0, 0, []) := rfl
theorem c22_24 : cdx (mC m22) 24 = some (24, .iload_n 0, 1, 0, 0, 0, 0, []) := rfl
theorem c22_25 : cdx (mC m22) 25 = some (25, .iload_n 0, 1, 0, 0, 0, 0, []) := rfl
theorem c22_26 : cdx (mC m22) 26 = some (26, .iconst 4, 1, 0, 0, 0, 0, []) := rfl
theorem c22_27 : cdx (mC m22) 27 = some (27, .iushr, 1, 0, 0, 0, 0, []) := rfl
theorem c22_28 : cdx (mC m22) 28 = some (28, .iadd, 1, 0, 0, 0, 0, []) := rfl
theorem c22_29 : cdx (mC m22) 29 = some (29, .ldc_w 267, 3, 0, 0, 0, 2086, [(252645135, 0)]) := rfl
theorem c22_32 : cdx (mC m22) 32 = some (32, .iand, 1, 0, 0, 0, 0, []) := rfl
theorem c22_33 : cdx (mC m22) 33 = some (33, .istore_n 0, 1, 0, 0, 0, 0, []) := rfl
theorem c22_34 : cdx (mC m22) 34 = some (34, .iload_n 0, 1, 0, 0, 0, 0, []) := rfl
theorem c22_35 : cdx (mC m22) 35 = some (35, .iload_n 0, 1, 0, 0, 0, 0, []) := rfl
theorem c22_36 : cdx (mC m22) 36 = some (36, .bipush 8, 2, 0, 0, 0, 0, []) := rfl
theorem c22_38 : cdx (mC m22) 38 = some (38, .iushr, 1, 0, 0, 0, 0, []) := rfl
theorem c22_39 : cdx (mC m22) 39 = some (39, .iadd, 1, 0, 0, 0, 0, []) := rfl
theorem c22_40 : cdx (mC m22) 40 = some (40, .istore_n 0, 1, 0, 0, 0, 0, []) := rfl
theorem c22_41 : cdx (mC m22) 41 = some (41, .iload_n 0, 1, 0, 0, 0, 0, []) := rfl
theorem c22_42 : cdx (mC m22) 42 = some (42, .iload_n 0, 1, 0, 0, 0, 0, []) := rfl
theorem c22_43 : cdx (mC m22) 43 = some (43, .bipush 16, 2, 0, 0, 0, 0, []) := rfl
theorem c22_45 : cdx (mC m22) 45 = some (45, .iushr, 1, 0, 0, 0, 0, []) := rfl
theorem c22_46 : cdx (mC m22) 46 = some (46, .iadd, 1, 0, 0, 0, 0, []) := rfl
theorem c22_47 : cdx (mC m22) 47 = some (47, .istore_n 0, 1, 0, 0, 0, 0, []) := rfl
theorem c22_48 : cdx (mC m22) 48 = some (48, .iload_n 0, 1, 0, 0, 0, 0, []) := rfl
theorem c22_49 : cdx (mC m22) 49 = some (49, .bipush 63, 2, 0, 0, 0, 0, []) := rfl
theorem c22_51 : cdx (mC m22) 51 = some (51, .iand, 1, 0, 0, 0, 0, []) := rfl
theorem c22_52 : cdx (mC m22) 52 = some (52, .ireturn, 1, 0, 0, 0, 0, []) := rfl
theorem b22_0 {X : Nat × (Nat → Int32)} {d : Nat} {I : Nat → Nat → Int32} {L : Nat → Nat → Int64} {Q : Option Value → XW → Prop} {x0 : Int32}  : wp X d m22 0 [some (.int x0)] [] (K0, R0, I, L) Q ↔ Q (some (.int ((((((((x0 - ((((x0 : Int32).toUInt32 >>> ((1 : Int32).toUInt32 &&& Int32.toUInt32 31)).toInt32) &&& (1431655765 : Int32))) &&& (858993459 : Int32)) + (((((x0 - ((((x0 : Int32).toUInt32 >>> ((1 : Int32).toUInt32 &&& Int32.toUInt32 31)).toInt32) &&& (1431655765 : Int32))) : Int32).toUInt32 >>> ((2 : Int32).toUInt32 &&& Int32.toUInt32 31)).toInt32) &&& (858993459 : Int32))) + ((((((x0 - ((((x0 : Int32).toUInt32 >>> ((1 : Int32).toUInt32 &&& Int32.toUInt32 31)).toInt32) &&& (1431655765 : Int32))) &&& (858993459 : Int32)) + (((((x0 - ((((x0 : Int32).toUInt32 >>> ((1 : Int32).toUInt32 &&& Int32.toUInt32 31)).toInt32) &&& (1431655765 : Int32))) : Int32).toUInt32 >>> ((2 : Int32).toUInt32 &&& Int32.toUInt32 31)).toInt32) &&& (858993459 : Int32))) : Int32).toUInt32 >>> ((4 : Int32).toUInt32 &&& Int32.toUInt32 31)).toInt32)) &&& (252645135 : Int32)) + ((((((((x0 - ((((x0 : Int32).toUInt32 >>> ((1 : Int32).toUInt32 &&& Int32.toUInt32 31)).toInt32) &&& (1431655765 : Int32))) &&& (858993459 : Int32)) + (((((x0 - ((((x0 : Int32).toUInt32 >>> ((1 : Int32).toUInt32 &&& Int32.toUInt32 31)).toInt32) &&& (1431655765 : Int32))) : Int32).toUInt32 >>> ((2 : Int32).toUInt32 &&& Int32.toUInt32 31)).toInt32) &&& (858993459 : Int32))) + ((((((x0 - ((((x0 : Int32).toUInt32 >>> ((1 : Int32).toUInt32 &&& Int32.toUInt32 31)).toInt32) &&& (1431655765 : Int32))) &&& (858993459 : Int32)) + (((((x0 - ((((x0 : Int32).toUInt32 >>> ((1 : Int32).toUInt32 &&& Int32.toUInt32 31)).toInt32) &&& (1431655765 : Int32))) : Int32).toUInt32 >>> ((2 : Int32).toUInt32 &&& Int32.toUInt32 31)).toInt32) &&& (858993459 : Int32))) : Int32).toUInt32 >>> ((4 : Int32).toUInt32 &&& Int32.toUInt32 31)).toInt32)) &&& (252645135 : Int32)) : Int32).toUInt32 >>> ((8 : Int32).toUInt32 &&& Int32.toUInt32 31)).toInt32)) + (((((((((x0 - ((((x0 : Int32).toUInt32 >>> ((1 : Int32).toUInt32 &&& Int32.toUInt32 31)).toInt32) &&& (1431655765 : Int32))) &&& (858993459 : Int32)) + (((((x0 - ((((x0 : Int32).toUInt32 >>> ((1 : Int32).toUInt32 &&& Int32.toUInt32 31)).toInt32) &&& (1431655765 : Int32))) : Int32).toUInt32 >>> ((2 : Int32).toUInt32 &&& Int32.toUInt32 31)).toInt32) &&& (858993459 : Int32))) + ((((((x0 - ((((x0 : Int32).toUInt32 >>> ((1 : Int32).toUInt32 &&& Int32.toUInt32 31)).toInt32) &&& (1431655765 : Int32))) &&& (858993459 : Int32)) + (((((x0 - ((((x0 : Int32).toUInt32 >>> ((1 : Int32).toUInt32 &&& Int32.toUInt32 31)).toInt32) &&& (1431655765 : Int32))) : Int32).toUInt32 >>> ((2 : Int32).toUInt32 &&& Int32.toUInt32 31)).toInt32) &&& (858993459 : Int32))) : Int32).toUInt32 >>> ((4 : Int32).toUInt32 &&& Int32.toUInt32 31)).toInt32)) &&& (252645135 : Int32)) + ((((((((x0 - ((((x0 : Int32).toUInt32 >>> ((1 : Int32).toUInt32 &&& Int32.toUInt32 31)).toInt32) &&& (1431655765 : Int32))) &&& (858993459 : Int32)) + (((((x0 - ((((x0 : Int32).toUInt32 >>> ((1 : Int32).toUInt32 &&& Int32.toUInt32 31)).toInt32) &&& (1431655765 : Int32))) : Int32).toUInt32 >>> ((2 : Int32).toUInt32 &&& Int32.toUInt32 31)).toInt32) &&& (858993459 : Int32))) + ((((((x0 - ((((x0 : Int32).toUInt32 >>> ((1 : Int32).toUInt32 &&& Int32.toUInt32 31)).toInt32) &&& (1431655765 : Int32))) &&& (858993459 : Int32)) + (((((x0 - ((((x0 : Int32).toUInt32 >>> ((1 : Int32).toUInt32 &&& Int32.toUInt32 31)).toInt32) &&& (1431655765 : Int32))) : Int32).toUInt32 >>> ((2 : Int32).toUInt32 &&& Int32.toUInt32 31)).toInt32) &&& (858993459 : Int32))) : Int32).toUInt32 >>> ((4 : Int32).toUInt32 &&& Int32.toUInt32 31)).toInt32)) &&& (252645135 : Int32)) : Int32).toUInt32 >>> ((8 : Int32).toUInt32 &&& Int32.toUInt32 31)).toInt32)) : Int32).toUInt32 >>> ((16 : Int32).toUInt32 &&& Int32.toUInt32 31)).toInt32)) &&& (63 : Int32)))) (K0, R0, I, L) := (w_iload_n (pc' := 1) c22_0 rfl rfl).trans ((w_iload_n (pc' := 2) c22_1 rfl rfl).trans ((w_iconst (pc' := 3) (v := 1) c22_2 rfl rfl).trans ((w_iushr (pc' := 4) c22_3 rfl).trans ((w_ldc_w (pc' := 7) (v := 1431655765) c22_4 rfl rfl).trans ((w_iand (pc' := 8) c22_7 rfl).trans ((w_isub (pc' := 9) c22_8 rfl).trans ((w_istore_n (pc' := 10) (ls' := [some (.int (x0 - ((((x0 : Int32).toUInt32 >>> ((1 : Int32).toUInt32 &&& Int32.toUInt32 31)).toInt32) &&& (1431655765 : Int32))))]) c22_9 (Nat.le_of_ble_eq_true rfl) rfl rfl).trans ((w_iload_n (pc' := 11) c22_10 rfl rfl).trans ((w_ldc_w (pc' := 14) (v := 858993459) c22_11 rfl rfl).trans ((w_iand (pc' := 15) c22_14 rfl).trans ((w_iload_n (pc' := 16) c22_15 rfl rfl).trans ((w_iconst (pc' := 17) (v := 2) c22_16 rfl rfl).trans ((w_iushr (pc' := 18) c22_17 rfl).trans ((w_ldc_w (pc' := 21) (v := 858993459) c22_18 rfl rfl).trans ((w_iand (pc' := 22) c22_21 rfl).trans ((w_iadd (pc' := 23) c22_22 rfl).trans ((w_istore_n (pc' := 24) (ls' := [some (.int (((x0 - ((((x0 : Int32).toUInt32 >>> ((1 : Int32).toUInt32 &&& Int32.toUInt32 31)).toInt32) &&& (1431655765 : Int32))) &&& (858993459 : Int32)) + (((((x0 - ((((x0 : Int32).toUInt32 >>> ((1 : Int32).toUInt32 &&& Int32.toUInt32 31)).toInt32) &&& (1431655765 : Int32))) : Int32).toUInt32 >>> ((2 : Int32).toUInt32 &&& Int32.toUInt32 31)).toInt32) &&& (858993459 : Int32))))]) c22_23 (Nat.le_of_ble_eq_true rfl) rfl rfl).trans ((w_iload_n (pc' := 25) c22_24 rfl rfl).trans ((w_iload_n (pc' := 26) c22_25 rfl rfl).trans ((w_iconst (pc' := 27) (v := 4) c22_26 rfl rfl).trans ((w_iushr (pc' := 28) c22_27 rfl).trans ((w_iadd (pc' := 29) c22_28 rfl).trans ((w_ldc_w (pc' := 32) (v := 252645135) c22_29 rfl rfl).trans ((w_iand (pc' := 33) c22_32 rfl).trans ((w_istore_n (pc' := 34) (ls' := [some (.int (((((x0 - ((((x0 : Int32).toUInt32 >>> ((1 : Int32).toUInt32 &&& Int32.toUInt32 31)).toInt32) &&& (1431655765 : Int32))) &&& (858993459 : Int32)) + (((((x0 - ((((x0 : Int32).toUInt32 >>> ((1 : Int32).toUInt32 &&& Int32.toUInt32 31)).toInt32) &&& (1431655765 : Int32))) : Int32).toUInt32 >>> ((2 : Int32).toUInt32 &&& Int32.toUInt32 31)).toInt32) &&& (858993459 : Int32))) + ((((((x0 - ((((x0 : Int32).toUInt32 >>> ((1 : Int32).toUInt32 &&& Int32.toUInt32 31)).toInt32) &&& (1431655765 : Int32))) &&& (858993459 : Int32)) + (((((x0 - ((((x0 : Int32).toUInt32 >>> ((1 : Int32).toUInt32 &&& Int32.toUInt32 31)).toInt32) &&& (1431655765 : Int32))) : Int32).toUInt32 >>> ((2 : Int32).toUInt32 &&& Int32.toUInt32 31)).toInt32) &&& (858993459 : Int32))) : Int32).toUInt32 >>> ((4 : Int32).toUInt32 &&& Int32.toUInt32 31)).toInt32)) &&& (252645135 : Int32)))]) c22_33 (Nat.le_of_ble_eq_true rfl) rfl rfl).trans ((w_iload_n (pc' := 35) c22_34 rfl rfl).trans ((w_iload_n (pc' := 36) c22_35 rfl rfl).trans ((w_bipush (pc' := 38) (v := 8) c22_36 rfl rfl).trans ((w_iushr (pc' := 39) c22_38 rfl).trans ((w_iadd (pc' := 40) c22_39 rfl).trans ((w_istore_n (pc' := 41) (ls' := [some (.int ((((((x0 - ((((x0 : Int32).toUInt32 >>> ((1 : Int32).toUInt32 &&& Int32.toUInt32 31)).toInt32) &&& (1431655765 : Int32))) &&& (858993459 : Int32)) + (((((x0 - ((((x0 : Int32).toUInt32 >>> ((1 : Int32).toUInt32 &&& Int32.toUInt32 31)).toInt32) &&& (1431655765 : Int32))) : Int32).toUInt32 >>> ((2 : Int32).toUInt32 &&& Int32.toUInt32 31)).toInt32) &&& (858993459 : Int32))) + ((((((x0 - ((((x0 : Int32).toUInt32 >>> ((1 : Int32).toUInt32 &&& Int32.toUInt32 31)).toInt32) &&& (1431655765 : Int32))) &&& (858993459 : Int32)) + (((((x0 - ((((x0 : Int32).toUInt32 >>> ((1 : Int32).toUInt32 &&& Int32.toUInt32 31)).toInt32) &&& (1431655765 : Int32))) : Int32).toUInt32 >>> ((2 : Int32).toUInt32 &&& Int32.toUInt32 31)).toInt32) &&& (858993459 : Int32))) : Int32).toUInt32 >>> ((4 : Int32).toUInt32 &&& Int32.toUInt32 31)).toInt32)) &&& (252645135 : Int32)) + ((((((((x0 - ((((x0 : Int32).toUInt32 >>> ((1 : Int32).toUInt32 &&& Int32.toUInt32 31)).toInt32) &&& (1431655765 : Int32))) &&& (858993459 : Int32)) + (((((x0 - ((((x0 : Int32).toUInt32 >>> ((1 : Int32).toUInt32 &&& Int32.toUInt32 31)).toInt32) &&& (1431655765 : Int32))) : Int32).toUInt32 >>> ((2 : Int32).toUInt32 &&& Int32.toUInt32 31)).toInt32) &&& (858993459 : Int32))) + ((((((x0 - ((((x0 : Int32).toUInt32 >>> ((1 : Int32).toUInt32 &&& Int32.toUInt32 31)).toInt32) &&& (1431655765 : Int32))) &&& (858993459 : Int32)) + (((((x0 - ((((x0 : Int32).toUInt32 >>> ((1 : Int32).toUInt32 &&& Int32.toUInt32 31)).toInt32) &&& (1431655765 : Int32))) : Int32).toUInt32 >>> ((2 : Int32).toUInt32 &&& Int32.toUInt32 31)).toInt32) &&& (858993459 : Int32))) : Int32).toUInt32 >>> ((4 : Int32).toUInt32 &&& Int32.toUInt32 31)).toInt32)) &&& (252645135 : Int32)) : Int32).toUInt32 >>> ((8 : Int32).toUInt32 &&& Int32.toUInt32 31)).toInt32)))]) c22_40 (Nat.le_of_ble_eq_true rfl) rfl rfl).trans ((w_iload_n (pc' := 42) c22_41 rfl rfl).trans ((w_iload_n (pc' := 43) c22_42 rfl rfl).trans ((w_bipush (pc' := 45) (v := 16) c22_43 rfl rfl).trans ((w_iushr (pc' := 46) c22_45 rfl).trans ((w_iadd (pc' := 47) c22_46 rfl).trans ((w_istore_n (pc' := 48) (ls' := [some (.int (((((((x0 - ((((x0 : Int32).toUInt32 >>> ((1 : Int32).toUInt32 &&& Int32.toUInt32 31)).toInt32) &&& (1431655765 : Int32))) &&& (858993459 : Int32)) + (((((x0 - ((((x0 : Int32).toUInt32 >>> ((1 : Int32).toUInt32 &&& Int32.toUInt32 31)).toInt32) &&& (1431655765 : Int32))) : Int32).toUInt32 >>> ((2 : Int32).toUInt32 &&& Int32.toUInt32 31)).toInt32) &&& (858993459 : Int32))) + ((((((x0 - ((((x0 : Int32).toUInt32 >>> ((1 : Int32).toUInt32 &&& Int32.toUInt32 31)).toInt32) &&& (1431655765 : Int32))) &&& (858993459 : Int32)) + (((((x0 - ((((x0 : Int32).toUInt32 >>> ((1 : Int32).toUInt32 &&& Int32.toUInt32 31)).toInt32) &&& (1431655765 : Int32))) : Int32).toUInt32 >>> ((2 : Int32).toUInt32 &&& Int32.toUInt32 31)).toInt32) &&& (858993459 : Int32))) : Int32).toUInt32 >>> ((4 : Int32).toUInt32 &&& Int32.toUInt32 31)).toInt32)) &&& (252645135 : Int32)) + ((((((((x0 - ((((x0 : Int32).toUInt32 >>> ((1 : Int32).toUInt32 &&& Int32.toUInt32 31)).toInt32) &&& (1431655765 : Int32))) &&& (858993459 : Int32)) + (((((x0 - ((((x0 : Int32).toUInt32 >>> ((1 : Int32).toUInt32 &&& Int32.toUInt32 31)).toInt32) &&& (1431655765 : Int32))) : Int32).toUInt32 >>> ((2 : Int32).toUInt32 &&& Int32.toUInt32 31)).toInt32) &&& (858993459 : Int32))) + ((((((x0 - ((((x0 : Int32).toUInt32 >>> ((1 : Int32).toUInt32 &&& Int32.toUInt32 31)).toInt32) &&& (1431655765 : Int32))) &&& (858993459 : Int32)) + (((((x0 - ((((x0 : Int32).toUInt32 >>> ((1 : Int32).toUInt32 &&& Int32.toUInt32 31)).toInt32) &&& (1431655765 : Int32))) : Int32).toUInt32 >>> ((2 : Int32).toUInt32 &&& Int32.toUInt32 31)).toInt32) &&& (858993459 : Int32))) : Int32).toUInt32 >>> ((4 : Int32).toUInt32 &&& Int32.toUInt32 31)).toInt32)) &&& (252645135 : Int32)) : Int32).toUInt32 >>> ((8 : Int32).toUInt32 &&& Int32.toUInt32 31)).toInt32)) + (((((((((x0 - ((((x0 : Int32).toUInt32 >>> ((1 : Int32).toUInt32 &&& Int32.toUInt32 31)).toInt32) &&& (1431655765 : Int32))) &&& (858993459 : Int32)) + (((((x0 - ((((x0 : Int32).toUInt32 >>> ((1 : Int32).toUInt32 &&& Int32.toUInt32 31)).toInt32) &&& (1431655765 : Int32))) : Int32).toUInt32 >>> ((2 : Int32).toUInt32 &&& Int32.toUInt32 31)).toInt32) &&& (858993459 : Int32))) + ((((((x0 - ((((x0 : Int32).toUInt32 >>> ((1 : Int32).toUInt32 &&& Int32.toUInt32 31)).toInt32) &&& (1431655765 : Int32))) &&& (858993459 : Int32)) + (((((x0 - ((((x0 : Int32).toUInt32 >>> ((1 : Int32).toUInt32 &&& Int32.toUInt32 31)).toInt32) &&& (1431655765 : Int32))) : Int32).toUInt32 >>> ((2 : Int32).toUInt32 &&& Int32.toUInt32 31)).toInt32) &&& (858993459 : Int32))) : Int32).toUInt32 >>> ((4 : Int32).toUInt32 &&& Int32.toUInt32 31)).toInt32)) &&& (252645135 : Int32)) + ((((((((x0 - ((((x0 : Int32).toUInt32 >>> ((1 : Int32).toUInt32 &&& Int32.toUInt32 31)).toInt32) &&& (1431655765 : Int32))) &&& (858993459 : Int32)) + (((((x0 - ((((x0 : Int32).toUInt32 >>> ((1 : Int32).toUInt32 &&& Int32.toUInt32 31)).toInt32) &&& (1431655765 : Int32))) : Int32).toUInt32 >>> ((2 : Int32).toUInt32 &&& Int32.toUInt32 31)).toInt32) &&& (858993459 : Int32))) + ((((((x0 - ((((x0 : Int32).toUInt32 >>> ((1 : Int32).toUInt32 &&& Int32.toUInt32 31)).toInt32) &&& (1431655765 : Int32))) &&& (858993459 : Int32)) + (((((x0 - ((((x0 : Int32).toUInt32 >>> ((1 : Int32).toUInt32 &&& Int32.toUInt32 31)).toInt32) &&& (1431655765 : Int32))) : Int32).toUInt32 >>> ((2 : Int32).toUInt32 &&& Int32.toUInt32 31)).toInt32) &&& (858993459 : Int32))) : Int32).toUInt32 >>> ((4 : Int32).toUInt32 &&& Int32.toUInt32 31)).toInt32)) &&& (252645135 : Int32)) : Int32).toUInt32 >>> ((8 : Int32).toUInt32 &&& Int32.toUInt32 31)).toInt32)) : Int32).toUInt32 >>> ((16 : Int32).toUInt32 &&& Int32.toUInt32 31)).toInt32)))]) c22_47 (Nat.le_of_ble_eq_true rfl) rfl rfl).trans ((w_iload_n (pc' := 49) c22_48 rfl rfl).trans ((w_bipush (pc' := 51) (v := 63) c22_49 rfl rfl).trans ((w_iand (pc' := 52) c22_51 rfl).trans (w_iret c22_52 rfl)))))))))))))))))))))))))))))))))))))))))
-- LeavesObject$Inn.holds(II)Z
theorem c23_0 : cdx (mC m23) 0 = some (0, .iconst 0, 1, 0, 0, 0, 0, []) := rfl
theorem c23_1 : cdx (mC m23) 1 = some (1, .istore_n 3, 1, 3, 0, 0, 0, []) := rfl
theorem c23_2 : cdx (mC m23) 2 = some (2, .iload_n 1, 1, 1, 0, 0, 0, []) := rfl
theorem c23_3 : cdx (mC m23) 3 = some (3, .iconst 0, 1, 0, 0, 0, 0, []) := rfl
theorem c23_4 : cdx (mC m23) 4 = some (4, .invokestatic 49, 3, 3, 2, 5, 2091, []) := rfl
theorem c23_7 : cdx (mC m23) 7 = some (7, .istore 4, 2, 4, 0, 0, 0, []) := rfl
theorem c23_9 : cdx (mC m23) 9 = some (9, .iload 4, 2, 4, 0, 0, 0, []) := rfl
theorem c23_11 : cdx (mC m23) 11 = some (11, .iload_n 2, 1, 2, 0, 0, 0, []) := rfl
theorem c23_12 : cdx (mC m23) 12 = some (12, .if_icmp .ge 112, 3, 124, 0, 0, 0, []) := rfl
theorem c23_15 : cdx (mC m23) 15 = some (15, .iload 4, 2, 4, 0, 0, 0, []) := rfl
theorem c23_17 : cdx (mC m23) 17 = some (17, .aload_n 0, 1, 0, 0, 0, 0, []) := rfl
theorem c23_18 : cdx (mC m23) 18 = some (18, .getfield 25, 3, 2, 6, 0, 1166, []) := rfl
theorem c23_21 : cdx (mC m23) 21 = some (21, .arraylength, 1, 0, 0, 0, 0, []) := rfl
theorem c23_22 : cdx (mC m23) 22 = some (22, .if_icmp .ge 102, 3, 124, 0, 0, 0, []) := rfl
theorem c23_25 : cdx (mC m23) 25 = some (25, .iload_n 3, 1, 3, 0, 0, 0, []) := rfl
theorem c23_26 : cdx (mC m23) 26 = some (26, .iconst 1, 1, 0, 0, 0, 0, []) := rfl
theorem c23_27 : cdx (mC m23) 27 = some (27, .iand, 1, 0, 0, 0, 0, []) := rfl
theorem c23_28 : cdx (mC m23) 28 = some (28, .istore 5, 2, 5, 0, 0, 0, []) := rfl
theorem c23_30 : cdx (mC m23) 30 = some (30, .aload_n 0, 1, 0, 0, 0, 0, []) := rfl
theorem c23_31 : cdx (mC m23) 31 = some (31, .getfield 25, 3, 2, 6, 0, 1166, []) := rfl
theorem c23_34 : cdx (mC m23) 34 = some (34, .iload 4, 2, 4, 0, 0, 0, []) := rfl
theorem c23_36 : cdx (mC m23) 36 = some (36, .iaload, 1, 0, 0, 0, 0, []) := rfl
theorem c23_37 : cdx (mC m23) 37 = some (37, .tableswitch 57 (-3) (-1) #[47, 34, 27], 27, 94, 0, 0, 0, [((-3), 84), ((-2), 71), ((-1), 64)]) := rfl
theorem c23_64 : cdx (mC m23) 64 = some (64, .iload_n 3, 1, 3, 0, 0, 0, []) := rfl
theorem c23_65 : cdx (mC m23) 65 = some (65, .iconst 1, 1, 0, 0, 0, 0, []) := rfl
theorem c23_66 : cdx (mC m23) 66 = some (66, .ixor, 1, 0, 0, 0, 0, []) := rfl
theorem c23_67 : cdx (mC m23) 67 = some (67, .istore_n 3, 1, 3, 0, 0, 0, []) := rfl
theorem c23_68 : cdx (mC m23) 68 = some (68, .goto 50, 3, 118, 0, 0, 0, []) := rfl
theorem c23_71 : cdx (mC m23) 71 = some (71, .iload_n 3, 1, 3, 0, 0, 0, []) := rfl
theorem c23_72 : cdx (mC m23) 72 = some (72, .iconst 1, 1, 0, 0, 0, 0, []) := rfl
theorem c23_73 : cdx (mC m23) 73 = some (73, .ishr, 1, 0, 0, 0, 0, []) := rfl
theorem c23_74 : cdx (mC m23) 74 = some (74, .iload 5, 2, 5, 0, 0, 0, []) := rfl
theorem c23_76 : cdx (mC m23) 76 = some (76, .bipush (-2), 2, 0, 0, 0, 0, []) := rfl
theorem c23_78 : cdx (mC m23) 78 = some (78, .ior, 1, 0, 0, 0, 0, []) := rfl
theorem c23_79 : cdx (mC m23) 79 = some (79, .iand, 1, 0, 0, 0, 0, []) := rfl
theorem c23_80 : cdx (mC m23) 80 = some (80, .istore_n 3, 1, 3, 0, 0, 0, []) := rfl
theorem c23_81 : cdx (mC m23) 81 = some (81, .goto 37, 3, 118, 0, 0, 0, []) := rfl
theorem c23_84 : cdx (mC m23) 84 = some (84, .iload_n 3, 1, 3, 0, 0, 0, []) := rfl
theorem c23_85 : cdx (mC m23) 85 = some (85, .iconst 1, 1, 0, 0, 0, 0, []) := rfl
theorem c23_86 : cdx (mC m23) 86 = some (86, .ishr, 1, 0, 0, 0, 0, []) := rfl
theorem c23_87 : cdx (mC m23) 87 = some (87, .iload 5, 2, 5, 0, 0, 0, []) := rfl
theorem c23_89 : cdx (mC m23) 89 = some (89, .ior, 1, 0, 0, 0, 0, []) := rfl
theorem c23_90 : cdx (mC m23) 90 = some (90, .istore_n 3, 1, 3, 0, 0, 0, []) := rfl
theorem c23_91 : cdx (mC m23) 91 = some (91, .goto 27, 3, 118, 0, 0, 0, []) := rfl
theorem c23_94 : cdx (mC m23) 94 = some (94, .iload_n 3, 1, 3, 0, 0, 0, []) := rfl
theorem c23_95 : cdx (mC m23) 95 = some (95, .iconst 1, 1, 0, 0, 0, 0, []) := rfl
theorem c23_96 : cdx (mC m23) 96 = some (96, .ishl, 1, 0, 0, 0, 0, []) := rfl
theorem c23_97 : cdx (mC m23) 97 = some (97, .aload_n 0, 1, 0, 0, 0, 0, []) := rfl
theorem c23_98 : cdx (mC m23) 98 = some (98, .aload_n 0, 1, 0, 0, 0, 0, []) := rfl
theorem c23_99 : cdx (mC m23) 99 = some (99, .getfield 25, 3, 2, 6, 0, 1166, []) := rfl
theorem c23_102 : cdx (mC m23) 102 = some (102, .iload 4, 2, 4, 0, 0, 0, []) := rfl
theorem c23_104 : cdx (mC m23) 104 = some (104, .iaload, 1, 0, 0, 0, 0, []) := rfl
theorem c23_105 : cdx (mC m23) 105 = some (105, .invokevirtual 75, 3, 24, 1, 0, 2092, [(2, 0)]) := rfl
theorem c23_108 : cdx (mC m23) 108 = some (108, .ifCond .eq 7, 3, 115, 0, 0, 0, []) := rfl
theorem c23_111 : cdx (mC m23) 111 = some (111, .iconst 1, 1, 0, 0, 0, 0, []) := rfl
theorem c23_112 : cdx (mC m23) 112 = some (112, .goto 4, 3, 116, 0, 0, 0, []) := rfl
theorem c23_115 : cdx (mC m23) 115 = some (115, .iconst 0, 1, 0, 0, 0, 0, []) := rfl
theorem c23_116 : cdx (mC m23) 116 = some (116, .ior, 1, 0, 0, 0, 0, []) := rfl
theorem c23_117 : cdx (mC m23) 117 = some (117, .istore_n 3, 1, 3, 0, 0, 0, []) := rfl
theorem c23_118 : cdx (mC m23) 118 = some (118, .iinc 4 1, 3, 4, 0, 0, 0, []) := rfl
theorem c23_121 : cdx (mC m23) 121 = some (121, .goto (-112), 3, 9, 0, 0, 0, []) := rfl
theorem c23_124 : cdx (mC m23) 124 = some (124, .iload_n 3, 1, 3, 0, 0, 0, []) := rfl
theorem c23_125 : cdx (mC m23) 125 = some (125, .iconst 1, 1, 0, 0, 0, 0, []) := rfl
theorem c23_126 : cdx (mC m23) 126 = some (126, .iand, 1, 0, 0, 0, 0, []) := rfl
theorem c23_127 : cdx (mC m23) 127 = some (127, .iconst 1, 1, 0, 0, 0, 0, []) := rfl
theorem c23_128 : cdx (mC m23) 128 = some (128, .if_icmp .ne 7, 3, 135, 0, 0, 0, []) := rfl
theorem c23_131 : cdx (mC m23) 131 = some (131, .iconst 1, 1, 0, 0, 0, 0, []) := rfl
theorem c23_132 : cdx (mC m23) 132 = some (132, .goto 4, 3, 136, 0, 0, 0, []) := rfl
theorem c23_135 : cdx (mC m23) 135 = some (135, .iconst 0, 1, 0, 0, 0, 0, []) := rfl
theorem c23_136 : cdx (mC m23) 136 = some (136, .ireturn, 1, 0, 0, 0, 0, []) := rfl
def lv23 : List (Nat × List Nat) := [(0, [0, 1, 2]), (1, [0, 1, 2]), (2, [0, 1, 2, 3]), (3, [0, 2, 3]), (4, [0, 2, 3]), (7, [0, 2, 3]), (9, [0, 2, 3, 4]), (11, [0, 2, 3, 4]), (12, [0, 2, 3, 4]), (15, [0, 2, 3, 4]), (17, [0, 2, 3, 4]), (18, [0, 2, 3, 4]), (21, [0, 2, 3, 4]), (22, [0, 2, 3, 4]), (25, [0, 2, 3, 4]), (26, [0, 2, 3, 4]), (27, [0, 2, 3, 4]), (28, [0, 2, 3, 4]), (30, [0, 2, 3, 4, 5]), (31, [0, 2, 3, 4, 5]), (34, [0, 2, 3, 4, 5]), (36, [0, 2, 3, 4, 5]), (37, [0, 2, 3, 4, 5]), (64, [0, 2, 3, 4]), (65, [0, 2, 4]), (66, [0, 2, 4]), (67, [0, 2, 4]), (68, [0, 2, 3, 4]), (71, [0, 2, 3, 4, 5]), (72, [0, 2, 4, 5]), (73, [0, 2, 4, 5]), (74, [0, 2, 4, 5]), (76, [0, 2, 4]), (78, [0, 2, 4]), (79, [0, 2, 4]), (80, [0, 2, 4]), (81, [0, 2, 3, 4]), (84, [0, 2, 3, 4, 5]), (85, [0, 2, 4, 5]), (86, [0, 2, 4, 5]), (87, [0, 2, 4, 5]), (89, [0, 2, 4]), (90, [0, 2, 4]), (91, [0, 2, 3, 4]), (94, [0, 2, 3, 4]), (95, [0, 2, 4]), (96, [0, 2, 4]), (97, [0, 2, 4]), (98, [0, 2, 4]), (99, [0, 2, 4]), (102, [0, 2, 4]), (104, [0, 2, 4]), (105, [0, 2, 4]), (108, [0, 2, 4]), (111, [0, 2, 4]), (112, [0, 2, 4]), (115, [0, 2, 4]), (116, [0, 2, 4]), (117, [0, 2, 4]), (118, [0, 2, 3, 4]), (121, [0, 2, 3, 4]), (124, [3])]
theorem lvok23 : lvOk (mC m23) lv23 = true := by decide +kernel
theorem b23_0 {X : Nat × (Nat → Int32)} {d : Nat} {I : Nat → Nat → Int32} {L : Nat → Nat → Int64} {Q : Option Value → XW → Prop} {r0 : Nat} {x1 : Int32} {x2 : Int32} (hr0 : isInn r0) : wp X (d + 1) m23 0 [some (.ref r0), some (.int x1), some (.int x2), none, none, none] [] (K0, R0, I, L) Q ↔ wp X d m3 0 [some (.int x1), some (.int 0)] [] (K0, R0, I, L) (fun r w1 => wp X (d + 1) m23 7 [some (.ref r0), none, some (.int x2), some (.int 0), none, none] (r.toList ++ []) w1 Q) := (w_iconst (pc' := 1) (v := 0) c23_0 rfl rfl).trans ((w_istore_n (pc' := 2) (ls' := [some (.ref r0), some (.int x1), some (.int x2), some (.int 0), none, none]) c23_1 (Nat.le_of_ble_eq_true rfl) rfl rfl).trans ((w_iload_n (pc' := 3) c23_2 rfl rfl).trans ((w_iconst (pc' := 4) (v := 0) c23_3 rfl rfl).trans ((w_callst (pc' := 7) c23_4 (by decide) mt3 rfl (Nat.le_of_ble_eq_true rfl) rfl rfl (Nat.le_of_ble_eq_true rfl) rfl rfl).trans (wp_congr (fun r w1 => wp_msk lvok23 rfl))))))
theorem b23_7 {X : Nat × (Nat → Int32)} {d : Nat} {I : Nat → Nat → Int32} {L : Nat → Nat → Int64} {Q : Option Value → XW → Prop} {r0 : Nat} {x2 : Int32} {x3 : Int32} {s0 : Int32} (hr0 : isInn r0) : wp X d m23 7 [some (.ref r0), none, some (.int x2), some (.int x3), none, none] [(.int s0)] (K0, R0, I, L) Q ↔ wp X d m23 9 [some (.ref r0), none, some (.int x2), some (.int x3), some (.int s0), none] [] (K0, R0, I, L) Q := (w_istore (pc' := 9) (ls' := [some (.ref r0), none, some (.int x2), some (.int x3), some (.int s0), none]) c23_7 (Nat.le_of_ble_eq_true rfl) rfl rfl)
theorem b23_9 {X : Nat × (Nat → Int32)} {d : Nat} {I : Nat → Nat → Int32} {L : Nat → Nat → Int64} {Q : Option Value → XW → Prop} {r0 : Nat} {x2 : Int32} {x3 : Int32} {x4 : Int32} (hr0 : isInn r0) : wp X (d + 1) m23 9 [some (.ref r0), none, some (.int x2), some (.int x3), some (.int x4), none] [] (K0, R0, I, L) Q ↔ (if x4 < x2 then (if x4 < 100 then (inA x4 100 = true ∧ (if (I (r0 + 3) (Int32.toNatClampNeg x4)) = (-3) then wp X (d + 1) m23 9 [some (.ref r0), none, some (.int x2), some (.int ((x3 >>> ((1 : Int32) &&& 31)) ||| (x3 &&& (1 : Int32)))), some (.int (x4 + 1)), none] [] (K0, R0, I, L) Q else (if (I (r0 + 3) (Int32.toNatClampNeg x4)) = (-2) then wp X (d + 1) m23 9 [some (.ref r0), none, some (.int x2), some (.int ((x3 >>> ((1 : Int32) &&& 31)) &&& ((x3 &&& (1 : Int32)) ||| ((-2) : Int32)))), some (.int (x4 + 1)), none] [] (K0, R0, I, L) Q else (if (I (r0 + 3) (Int32.toNatClampNeg x4)) = (-1) then wp X (d + 1) m23 9 [some (.ref r0), none, some (.int x2), some (.int (x3 ^^^ (1 : Int32))), some (.int (x4 + 1)), none] [] (K0, R0, I, L) Q else (inA x4 100 = true ∧ wp X d m24 0 [some (.ref r0), some (.int (I (r0 + 3) (Int32.toNatClampNeg x4))), none, none] [] (K0, R0, I, L) (fun r w1 => wp X (d + 1) m23 108 [some (.ref r0), none, some (.int x2), none, some (.int x4), none] (r.toList ++ [(.int (x3 <<< ((1 : Int32) &&& 31)))]) w1 Q)))))) else Q (some (.int (if (x3 &&& (1 : Int32)) = 1 then 1 else 0))) (K0, R0, I, L)) else Q (some (.int (if (x3 &&& (1 : Int32)) = 1 then 1 else 0))) (K0, R0, I, L)) := (w_iload (pc' := 11) c23_9 rfl rfl).trans ((w_iload_n (pc' := 12) c23_11 rfl rfl).trans ((w_icmp_ge (pc' := 15) c23_12 rfl).trans (ite_iff ((w_iload (pc' := 17) c23_15 rfl rfl).trans ((w_aload_n (pc' := 18) c23_17 rfl rfl).trans ((w_getR (pc' := 21) (q := (r0 + 3)) c23_18 hr0.1 (by decide) rfl hr0.2.2.2.1 rfl).trans ((w_alen (pc' := 22) (v := 100) c23_21 hr0.2.2.2.2.2.2.2.1 rfl rfl).trans ((w_icmp_ge (pc' := 25) c23_22 rfl).trans (ite_iff ((w_iload_n (pc' := 26) c23_25 rfl rfl).trans ((w_iconst (pc' := 27) (v := 1) c23_26 rfl rfl).trans ((w_iand (pc' := 28) c23_27 rfl).trans ((w_istore (pc' := 30) (ls' := [some (.ref r0), none, some (.int x2), some (.int x3), some (.int x4), some (.int (x3 &&& (1 : Int32)))]) c23_28 (Nat.le_of_ble_eq_true rfl) rfl rfl).trans ((w_aload_n (pc' := 31) c23_30 rfl rfl).trans ((w_getR (pc' := 34) (q := (r0 + 3)) c23_31 hr0.1 (by decide) rfl hr0.2.2.2.1 rfl).trans ((w_iload (pc' := 36) c23_34 rfl rfl).trans ((w_ialdv (pc' := 37) (v := (I (r0 + 3) (Int32.toNatClampNeg x4))) c23_36 hr0.2.2.2.2.2.2.2.1 (rfl) rfl).trans (and_congr_right (fun _ => (w_tswitch c23_37).trans ((w_swcons (v := (-3)) rfl).trans (ite_iff ((w_iload_n (pc' := 85) c23_84 rfl rfl).trans ((w_iconst (pc' := 86) (v := 1) c23_85 rfl rfl).trans ((w_ishr (pc' := 87) c23_86 rfl).trans ((w_iload (pc' := 89) c23_87 rfl rfl).trans ((w_ior (pc' := 90) c23_89 rfl).trans ((w_istore_n (pc' := 91) (ls' := [some (.ref r0), none, some (.int x2), some (.int ((x3 >>> ((1 : Int32) &&& 31)) ||| (x3 &&& (1 : Int32)))), some (.int x4), some (.int (x3 &&& (1 : Int32)))]) c23_90 (Nat.le_of_ble_eq_true rfl) rfl rfl).trans ((w_goto c23_91).trans ((w_iinc (pc' := 121) (v := (x4 + 1)) (ls' := [some (.ref r0), none, some (.int x2), some (.int ((x3 >>> ((1 : Int32) &&& 31)) ||| (x3 &&& (1 : Int32)))), some (.int (x4 + 1)), some (.int (x3 &&& (1 : Int32)))]) c23_118 (Nat.le_of_ble_eq_true rfl) rfl rfl rfl rfl).trans ((w_goto c23_121).trans ((wp_msk lvok23 rfl))))))))))) ((w_swcons (v := (-2)) rfl).trans (ite_iff ((w_iload_n (pc' := 72) c23_71 rfl rfl).trans ((w_iconst (pc' := 73) (v := 1) c23_72 rfl rfl).trans ((w_ishr (pc' := 74) c23_73 rfl).trans ((w_iload (pc' := 76) c23_74 rfl rfl).trans ((w_bipush (pc' := 78) (v := (-2)) c23_76 rfl rfl).trans ((w_ior (pc' := 79) c23_78 rfl).trans ((w_iand (pc' := 80) c23_79 rfl).trans ((w_istore_n (pc' := 81) (ls' := [some (.ref r0), none, some (.int x2), some (.int ((x3 >>> ((1 : Int32) &&& 31)) &&& ((x3 &&& (1 : Int32)) ||| ((-2) : Int32)))), some (.int x4), some (.int (x3 &&& (1 : Int32)))]) c23_80 (Nat.le_of_ble_eq_true rfl) rfl rfl).trans ((w_goto c23_81).trans ((w_iinc (pc' := 121) (v := (x4 + 1)) (ls' := [some (.ref r0), none, some (.int x2), some (.int ((x3 >>> ((1 : Int32) &&& 31)) &&& ((x3 &&& (1 : Int32)) ||| ((-2) : Int32)))), some (.int (x4 + 1)), some (.int (x3 &&& (1 : Int32)))]) c23_118 (Nat.le_of_ble_eq_true rfl) rfl rfl rfl rfl).trans ((w_goto c23_121).trans ((wp_msk lvok23 rfl))))))))))))) ((w_swcons (v := (-1)) rfl).trans (ite_iff ((w_iload_n (pc' := 65) c23_64 rfl rfl).trans ((w_iconst (pc' := 66) (v := 1) c23_65 rfl rfl).trans ((w_ixor (pc' := 67) c23_66 rfl).trans ((w_istore_n (pc' := 68) (ls' := [some (.ref r0), none, some (.int x2), some (.int (x3 ^^^ (1 : Int32))), some (.int x4), some (.int (x3 &&& (1 : Int32)))]) c23_67 (Nat.le_of_ble_eq_true rfl) rfl rfl).trans ((w_goto c23_68).trans ((w_iinc (pc' := 121) (v := (x4 + 1)) (ls' := [some (.ref r0), none, some (.int x2), some (.int (x3 ^^^ (1 : Int32))), some (.int (x4 + 1)), some (.int (x3 &&& (1 : Int32)))]) c23_118 (Nat.le_of_ble_eq_true rfl) rfl rfl rfl rfl).trans ((w_goto c23_121).trans ((wp_msk lvok23 rfl))))))))) ((w_swnil).trans ((w_iload_n (pc' := 95) c23_94 rfl rfl).trans ((w_iconst (pc' := 96) (v := 1) c23_95 rfl rfl).trans ((w_ishl (pc' := 97) c23_96 rfl).trans ((w_aload_n (pc' := 98) c23_97 rfl rfl).trans ((w_aload_n (pc' := 99) c23_98 rfl rfl).trans ((w_getR (pc' := 102) (q := (r0 + 3)) c23_99 hr0.1 (by decide) rfl hr0.2.2.2.1 rfl).trans ((w_iload (pc' := 104) c23_102 rfl rfl).trans ((w_ialdv (pc' := 105) (v := (I (r0 + 3) (Int32.toNatClampNeg x4))) c23_104 hr0.2.2.2.2.2.2.2.1 (rfl) rfl).trans (and_congr_right (fun _ => (w_callv (pc' := 108) c23_105 mt24 rfl (Nat.le_of_ble_eq_true rfl) rfl hr0.1 rfl rfl (Nat.le_of_ble_eq_true rfl) rfl rfl).trans (wp_congr (fun r w1 => wp_msk lvok23 rfl))))))))))))))))))))))))))))) ((w_iload_n (pc' := 125) c23_124 rfl rfl).trans ((w_iconst (pc' := 126) (v := 1) c23_125 rfl rfl).trans ((w_iand (pc' := 127) c23_126 rfl).trans ((w_iconst (pc' := 128) (v := 1) c23_127 rfl rfl).trans ((w_icmp_ne (pc' := 131) c23_128 rfl).trans ((ite_iff ((w_iconst (pc' := 132) (v := 1) c23_131 rfl rfl).trans ((w_goto c23_132).trans ((w_zret (ty := .boolean) c23_136 rfl (by decide)).trans (and_iff_right (by decide))))) ((w_iconst (pc' := 136) (v := 0) c23_135 rfl rfl).trans ((w_zret (ty := .boolean) c23_136 rfl (by decide)).trans (and_iff_right (by decide))))).trans (ite_val (fun z => Q (some (.int z)) (K0, R0, I, L))))))))))))))) ((w_iload_n (pc' := 125) c23_124 rfl rfl).trans ((w_iconst (pc' := 126) (v := 1) c23_125 rfl rfl).trans ((w_iand (pc' := 127) c23_126 rfl).trans ((w_iconst (pc' := 128) (v := 1) c23_127 rfl rfl).trans ((w_icmp_ne (pc' := 131) c23_128 rfl).trans ((ite_iff ((w_iconst (pc' := 132) (v := 1) c23_131 rfl rfl).trans ((w_goto c23_132).trans ((w_zret (ty := .boolean) c23_136 rfl (by decide)).trans (and_iff_right (by decide))))) ((w_iconst (pc' := 136) (v := 0) c23_135 rfl rfl).trans ((w_zret (ty := .boolean) c23_136 rfl (by decide)).trans (and_iff_right (by decide))))).trans (ite_val (fun z => Q (some (.int z)) (K0, R0, I, L))))))))))))
theorem b23_108 {X : Nat × (Nat → Int32)} {d : Nat} {I : Nat → Nat → Int32} {L : Nat → Nat → Int64} {Q : Option Value → XW → Prop} {r0 : Nat} {x2 : Int32} {x4 : Int32} {s0 : Int32} {s1 : Int32} (hr0 : isInn r0) : wp X d m23 108 [some (.ref r0), none, some (.int x2), none, some (.int x4), none] [(.int s1), (.int s0)] (K0, R0, I, L) Q ↔ wp X d m23 9 [some (.ref r0), none, some (.int x2), some (.int (if s1 = 0 then (s0 ||| (0 : Int32)) else (s0 ||| (1 : Int32)))), some (.int (x4 + 1)), none] [] (K0, R0, I, L) Q := (w_if_eq (pc' := 111) c23_108 rfl).trans ((ite_iff ((w_iconst (pc' := 116) (v := 0) c23_115 rfl rfl).trans ((w_ior (pc' := 117) c23_116 rfl).trans ((w_istore_n (pc' := 118) (ls' := [some (.ref r0), none, some (.int x2), some (.int (s0 ||| (0 : Int32))), some (.int x4), none]) c23_117 (Nat.le_of_ble_eq_true rfl) rfl rfl).trans ((w_iinc (pc' := 121) (v := (x4 + 1)) (ls' := [some (.ref r0), none, some (.int x2), some (.int (s0 ||| (0 : Int32))), some (.int (x4 + 1)), none]) c23_118 (Nat.le_of_ble_eq_true rfl) rfl rfl rfl rfl).trans ((w_goto c23_121)))))) ((w_iconst (pc' := 112) (v := 1) c23_111 rfl rfl).trans ((w_goto c23_112).trans ((w_ior (pc' := 117) c23_116 rfl).trans ((w_istore_n (pc' := 118) (ls' := [some (.ref r0), none, some (.int x2), some (.int (s0 ||| (1 : Int32))), some (.int x4), none]) c23_117 (Nat.le_of_ble_eq_true rfl) rfl rfl).trans ((w_iinc (pc' := 121) (v := (x4 + 1)) (ls' := [some (.ref r0), none, some (.int x2), some (.int (s0 ||| (1 : Int32))), some (.int (x4 + 1)), none]) c23_118 (Nat.le_of_ble_eq_true rfl) rfl rfl rfl rfl).trans ((w_goto c23_121)))))))).trans (ite_val (fun z => wp X d m23 9 [some (.ref r0), none, some (.int x2), some (.int z), some (.int (x4 + 1)), none] [] (K0, R0, I, L) Q)))
-- LeavesObject$Inn.testHolds(I)Z
theorem c24_0 : cdx (mC m24) 0 = some (0, .iload_n 1, 1, 1, 0, 0, 0, []) := rfl
theorem c24_1 : cdx (mC m24) 1 = some (1, .bipush 100, 2, 0, 0, 0, 0, []) := rfl
theorem c24_3 : cdx (mC m24) 3 = some (3, .idiv, 1, 0, 0, 0, 0, []) := rfl
theorem c24_4 : cdx (mC m24) 4 = some (4, .iconst 3, 1, 0, 0, 0, 0, []) := rfl
theorem c24_5 : cdx (mC m24) 5 = some (5, .idiv, 1, 0, 0, 0, 0, []) := rfl
theorem c24_6 : cdx (mC m24) 6 = some (6, .istore_n 2, 1, 2, 0, 0, 0, []) := rfl
theorem c24_7 : cdx (mC m24) 7 = some (7, .iload_n 2, 1, 2, 0, 0, 0, []) := rfl
theorem c24_8 : cdx (mC m24) 8 = some (8, .ifCond .lt 12, 3, 20, 0, 0, 0, []) := rfl
theorem c24_11 : cdx (mC m24) 11 = some (11, .iload_n 2, 1, 2, 0, 0, 0, []) := rfl
theorem c24_12 : cdx (mC m24) 12 = some (12, .aload_n 0, 1, 0, 0, 0, 0, []) := rfl
theorem c24_13 : cdx (mC m24) 13 = some (13, .getfield 28, 3, 2, 7, 0, 1167, []) := rfl
theorem c24_16 : cdx (mC m24) 16 = some (16, .arraylength, 1, 0, 0, 0, 0, []) := rfl
theorem c24_17 : cdx (mC m24) 17 = some (17, .if_icmp .lt 5, 3, 22, 0, 0, 0, []) := rfl
theorem c24_20 : cdx (mC m24) 20 = some (20, .iconst 0, 1, 0, 0, 0, 0, []) := rfl
theorem c24_21 : cdx (mC m24) 21 = some (21, .ireturn, 1, 0, 0, 0, 0, []) := rfl
theorem c24_22 : cdx (mC m24) 22 = some (22, .iload_n 1, 1, 1, 0, 0, 0, []) := rfl
theorem c24_23 : cdx (mC m24) 23 = some (23, .bipush 100, 2, 0, 0, 0, 0, []) := rfl
theorem c24_25 : cdx (mC m24) 25 = some (25, .irem, 1, 0, 0, 0, 0, []) := rfl
theorem c24_26 : cdx (mC m24) 26 = some (26, .istore_n 3, 1, 3, 0, 0, 0, []) := rfl
theorem c24_27 : cdx (mC m24) 27 = some (27, .iload_n 1, 1, 1, 0, 0, 0, []) := rfl
theorem c24_28 : cdx (mC m24) 28 = some (28, .bipush 100, 2, 0, 0, 0, 0, []) := rfl
theorem c24_30 : cdx (mC m24) 30 = some (30, .idiv, 1, 0, 0, 0, 0, []) := rfl
theorem c24_31 : cdx (mC m24) 31 = some (31, .iconst 3, 1, 0, 0, 0, 0, []) := rfl
theorem c24_32 : cdx (mC m24) 32 = some (32, .irem, 1, 0, 0, 0, 0, []) := rfl
theorem c24_33 : cdx (mC m24) 33 = some (33, .lookupswitch 59 #[(0, 27), (1, 43)], 27, 92, 0, 0, 0, [(0, 60), (1, 76)]) := rfl
theorem c24_60 : cdx (mC m24) 60 = some (60, .aload_n 0, 1, 0, 0, 0, 0, []) := rfl
theorem c24_61 : cdx (mC m24) 61 = some (61, .getfield 28, 3, 2, 7, 0, 1167, []) := rfl
theorem c24_64 : cdx (mC m24) 64 = some (64, .iload_n 2, 1, 2, 0, 0, 0, []) := rfl
theorem c24_65 : cdx (mC m24) 65 = some (65, .iaload, 1, 0, 0, 0, 0, []) := rfl
theorem c24_66 : cdx (mC m24) 66 = some (66, .iload_n 3, 1, 3, 0, 0, 0, []) := rfl
theorem c24_67 : cdx (mC m24) 67 = some (67, .if_icmp .ge 7, 3, 74, 0, 0, 0, []) := rfl
theorem c24_70 : cdx (mC m24) 70 = some (70, .iconst 1, 1, 0, 0, 0, 0, []) := rfl
theorem c24_71 : cdx (mC m24) 71 = some (71, .goto 4, 3, 75, 0, 0, 0, []) := rfl
theorem c24_74 : cdx (mC m24) 74 = some (74, .iconst 0, 1, 0, 0, 0, 0, []) := rfl
theorem c24_75 : cdx (mC m24) 75 = some (75, .ireturn, 1, 0, 0, 0, 0, []) := rfl
theorem c24_76 : cdx (mC m24) 76 = some (76, .aload_n 0, 1, 0, 0, 0, 0, []) := rfl
theorem c24_77 : cdx (mC m24) 77 = some (77, .getfield 28, 3, 2, 7, 0, 1167, []) := rfl
theorem c24_80 : cdx (mC m24) 80 = some (80, .iload_n 2, 1, 2, 0, 0, 0, []) := rfl
theorem c24_81 : cdx (mC m24) 81 = some (81, .iaload, 1, 0, 0, 0, 0, []) := rfl
theorem c24_82 : cdx (mC m24) 82 = some (82, .iload_n 3, 1, 3, 0, 0, 0, []) := rfl
theorem c24_83 : cdx (mC m24) 83 = some (83, .if_icmp .ne 7, 3, 90, 0, 0, 0, []) := rfl
theorem c24_86 : cdx (mC m24) 86 = some (86, .iconst 1, 1, 0, 0, 0, 0, []) := rfl
theorem c24_87 : cdx (mC m24) 87 = some (87, .goto 4, 3, 91, 0, 0, 0, []) := rfl
theorem c24_90 : cdx (mC m24) 90 = some (90, .iconst 0, 1, 0, 0, 0, 0, []) := rfl
theorem c24_91 : cdx (mC m24) 91 = some (91, .ireturn, 1, 0, 0, 0, 0, []) := rfl
theorem c24_92 : cdx (mC m24) 92 = some (92, .aload_n 0, 1, 0, 0, 0, 0, []) := rfl
theorem c24_93 : cdx (mC m24) 93 = some (93, .getfield 28, 3, 2, 7, 0, 1167, []) := rfl
theorem c24_96 : cdx (mC m24) 96 = some (96, .iload_n 2, 1, 2, 0, 0, 0, []) := rfl
theorem c24_97 : cdx (mC m24) 97 = some (97, .iaload, 1, 0, 0, 0, 0, []) := rfl
theorem c24_98 : cdx (mC m24) 98 = some (98, .iload_n 3, 1, 3, 0, 0, 0, []) := rfl
theorem c24_99 : cdx (mC m24) 99 = some (99, .if_icmp .le 7, 3, 106, 0, 0, 0, []) := rfl
theorem c24_102 : cdx (mC m24) 102 = some (102, .iconst 1, 1, 0, 0, 0, 0, []) := rfl
theorem c24_103 : cdx (mC m24) 103 = some (103, .goto 4, 3, 107, 0, 0, 0, []) := rfl
theorem c24_106 : cdx (mC m24) 106 = some (106, .iconst 0, 1, 0, 0, 0, 0, []) := rfl
theorem c24_107 : cdx (mC m24) 107 = some (107, .ireturn, 1, 0, 0, 0, 0, []) := rfl
theorem b24_0 {X : Nat × (Nat → Int32)} {d : Nat} {I : Nat → Nat → Int32} {L : Nat → Nat → Int64} {Q : Option Value → XW → Prop} {r0 : Nat} {x1 : Int32} (hr0 : isInn r0) : wp X d m24 0 [some (.ref r0), some (.int x1), none, none] [] (K0, R0, I, L) Q ↔ (if ((x1 / 100) / 3) < 0 then Q (some (.int 0)) (K0, R0, I, L) else (if ((x1 / 100) / 3) < 6 then (if ((x1 / 100) - (x1 / 100) / 3 * 3) = 0 then (inA ((x1 / 100) / 3) 6 = true ∧ Q (some (.int (if (I (r0 + 4) (Int32.toNatClampNeg ((x1 / 100) / 3))) < (x1 - x1 / 100 * 100) then 1 else 0))) (K0, R0, I, L)) else (if ((x1 / 100) - (x1 / 100) / 3 * 3) = 1 then (inA ((x1 / 100) / 3) 6 = true ∧ Q (some (.int (if (I (r0 + 4) (Int32.toNatClampNeg ((x1 / 100) / 3))) = (x1 - x1 / 100 * 100) then 1 else 0))) (K0, R0, I, L)) else (inA ((x1 / 100) / 3) 6 = true ∧ Q (some (.int (if (x1 - x1 / 100 * 100) < (I (r0 + 4) (Int32.toNatClampNeg ((x1 / 100) / 3))) then 1 else 0))) (K0, R0, I, L)))) else Q (some (.int 0)) (K0, R0, I, L))) := (w_iload_n (pc' := 1) c24_0 rfl rfl).trans ((w_bipush (pc' := 3) (v := 100) c24_1 rfl rfl).trans (((w_idiv (pc' := 4) c24_3 rfl).trans (and_iff_right (by decide))).trans ((w_iconst (pc' := 5) (v := 3) c24_4 rfl rfl).trans (((w_idiv (pc' := 6) c24_5 rfl).trans (and_iff_right (by decide))).trans ((w_istore_n (pc' := 7) (ls' := [some (.ref r0), some (.int x1), some (.int ((x1 / 100) / 3)), none]) c24_6 (Nat.le_of_ble_eq_true rfl) rfl rfl).trans ((w_iload_n (pc' := 8) c24_7 rfl rfl).trans ((w_if_lt (pc' := 11) c24_8 rfl).trans (ite_iff ((w_iconst (pc' := 21) (v := 0) c24_20 rfl rfl).trans ((w_zret (ty := .boolean) c24_21 rfl (by decide)).trans (and_iff_right (by decide)))) ((w_iload_n (pc' := 12) c24_11 rfl rfl).trans ((w_aload_n (pc' := 13) c24_12 rfl rfl).trans ((w_getR (pc' := 16) (q := (r0 + 4)) c24_13 hr0.1 (by decide) rfl hr0.2.2.2.2.1 rfl).trans ((w_alen (pc' := 17) (v := 6) c24_16 hr0.2.2.2.2.2.2.2.2 rfl rfl).trans ((w_icmp_lt (pc' := 20) c24_17 rfl).trans (ite_iff ((w_iload_n (pc' := 23) c24_22 rfl rfl).trans ((w_bipush (pc' := 25) (v := 100) c24_23 rfl rfl).trans (((w_irem (pc' := 26) c24_25 rfl).trans (and_iff_right (by decide))).trans ((w_istore_n (pc' := 27) (ls' := [some (.ref r0), some (.int x1), some (.int ((x1 / 100) / 3)), some (.int (x1 - x1 / 100 * 100))]) c24_26 (Nat.le_of_ble_eq_true rfl) rfl rfl).trans ((w_iload_n (pc' := 28) c24_27 rfl rfl).trans ((w_bipush (pc' := 30) (v := 100) c24_28 rfl rfl).trans (((w_idiv (pc' := 31) c24_30 rfl).trans (and_iff_right (by decide))).trans ((w_iconst (pc' := 32) (v := 3) c24_31 rfl rfl).trans (((w_irem (pc' := 33) c24_32 rfl).trans (and_iff_right (by decide))).trans ((w_lswitch c24_33).trans ((w_swcons (v := 0) rfl).trans (ite_iff ((w_aload_n (pc' := 61) c24_60 rfl rfl).trans ((w_getR (pc' := 64) (q := (r0 + 4)) c24_61 hr0.1 (by decide) rfl hr0.2.2.2.2.1 rfl).trans ((w_iload_n (pc' := 65) c24_64 rfl rfl).trans ((w_ialdv (pc' := 66) (v := (I (r0 + 4) (Int32.toNatClampNeg ((x1 / 100) / 3)))) c24_65 hr0.2.2.2.2.2.2.2.2 (rfl) rfl).trans (and_congr_right (fun _ => (w_iload_n (pc' := 67) c24_66 rfl rfl).trans ((w_icmp_ge (pc' := 70) c24_67 rfl).trans ((ite_iff ((w_iconst (pc' := 71) (v := 1) c24_70 rfl rfl).trans ((w_goto c24_71).trans ((w_zret (ty := .boolean) c24_75 rfl (by decide)).trans (and_iff_right (by decide))))) ((w_iconst (pc' := 75) (v := 0) c24_74 rfl rfl).trans ((w_zret (ty := .boolean) c24_75 rfl (by decide)).trans (and_iff_right (by decide))))).trans (ite_val (fun z => Q (some (.int z)) (K0, R0, I, L))))))))))) ((w_swcons (v := 1) rfl).trans (ite_iff ((w_aload_n (pc' := 77) c24_76 rfl rfl).trans ((w_getR (pc' := 80) (q := (r0 + 4)) c24_77 hr0.1 (by decide) rfl hr0.2.2.2.2.1 rfl).trans ((w_iload_n (pc' := 81) c24_80 rfl rfl).trans ((w_ialdv (pc' := 82) (v := (I (r0 + 4) (Int32.toNatClampNeg ((x1 / 100) / 3)))) c24_81 hr0.2.2.2.2.2.2.2.2 (rfl) rfl).trans (and_congr_right (fun _ => (w_iload_n (pc' := 83) c24_82 rfl rfl).trans ((w_icmp_ne (pc' := 86) c24_83 rfl).trans ((ite_iff ((w_iconst (pc' := 87) (v := 1) c24_86 rfl rfl).trans ((w_goto c24_87).trans ((w_zret (ty := .boolean) c24_91 rfl (by decide)).trans (and_iff_right (by decide))))) ((w_iconst (pc' := 91) (v := 0) c24_90 rfl rfl).trans ((w_zret (ty := .boolean) c24_91 rfl (by decide)).trans (and_iff_right (by decide))))).trans (ite_val (fun z => Q (some (.int z)) (K0, R0, I, L))))))))))) ((w_swnil).trans ((w_aload_n (pc' := 93) c24_92 rfl rfl).trans ((w_getR (pc' := 96) (q := (r0 + 4)) c24_93 hr0.1 (by decide) rfl hr0.2.2.2.2.1 rfl).trans ((w_iload_n (pc' := 97) c24_96 rfl rfl).trans ((w_ialdv (pc' := 98) (v := (I (r0 + 4) (Int32.toNatClampNeg ((x1 / 100) / 3)))) c24_97 hr0.2.2.2.2.2.2.2.2 (rfl) rfl).trans (and_congr_right (fun _ => (w_iload_n (pc' := 99) c24_98 rfl rfl).trans ((w_icmp_le (pc' := 102) c24_99 rfl).trans ((ite_iff ((w_iconst (pc' := 103) (v := 1) c24_102 rfl rfl).trans ((w_goto c24_103).trans ((w_zret (ty := .boolean) c24_107 rfl (by decide)).trans (and_iff_right (by decide))))) ((w_iconst (pc' := 107) (v := 0) c24_106 rfl rfl).trans ((w_zret (ty := .boolean) c24_107 rfl (by decide)).trans (and_iff_right (by decide))))).trans (ite_val (fun z => Q (some (.int z)) (K0, R0, I, L)))))))))))))))))))))))))) ((w_iconst (pc' := 21) (v := 0) c24_20 rfl rfl).trans ((w_zret (ty := .boolean) c24_21 rfl (by decide)).trans (and_iff_right (by decide))))))))))))))))))
-- LeavesObject$Cup.leavesDone(II)I
theorem c25_0 : cdx (mC m25) 0 = some (0, .iload_n 1, 1, 1, 0, 0, 0, []) := rfl
theorem c25_1 : cdx (mC m25) 1 = some (1, .aload_n 0, 1, 0, 0, 0, 0, []) := rfl
theorem c25_2 : cdx (mC m25) 2 = some (2, .getfield 25, 3, 1, 3, 0, 1075, []) := rfl
theorem c25_5 : cdx (mC m25) 5 = some (5, .invokestatic 73, 3, 26, 2, 5, 2100, []) := rfl
theorem c25_8 : cdx (mC m25) 8 = some (8, .istore_n 3, 1, 3, 0, 0, 0, []) := rfl
theorem c25_9 : cdx (mC m25) 9 = some (9, .aload_n 0, 1, 0, 0, 0, 0, []) := rfl
theorem c25_10 : cdx (mC m25) 10 = some (10, .getfield 25, 3, 1, 3, 0, 1075, []) := rfl
theorem c25_13 : cdx (mC m25) 13 = some (13, .invokestatic 78, 3, 22, 1, 5, 2118, []) := rfl
theorem c25_16 : cdx (mC m25) 16 = some (16, .bipush 6, 2, 0, 0, 0, 0, []) := rfl
theorem c25_18 : cdx (mC m25) 18 = some (18, .if_icmp .le 10, 3, 28, 0, 0, 0, []) := rfl
theorem c25_21 : cdx (mC m25) 21 = some (21, .aload_n 0, 1, 0, 0, 0, 0, []) := rfl
theorem c25_22 : cdx (mC m25) 22 = some (22, .getfield 25, 3, 1, 3, 0, 1075, []) := rfl
theorem c25_25 : cdx (mC m25) 25 = some (25, .goto 4, 3, 29, 0, 0, 0, []) := rfl
theorem c25_28 : cdx (mC m25) 28 = some (28, .iload_n 3, 1, 3, 0, 0, 0, []) := rfl
theorem c25_29 : cdx (mC m25) 29 = some (29, .istore 4, 2, 4, 0, 0, 0, []) := rfl
theorem c25_31 : cdx (mC m25) 31 = some (31, .aload_n 0, 1, 0, 0, 0, 0, []) := rfl
theorem c25_32 : cdx (mC m25) 32 = some (32, .getfield 19, 3, 1, 1, 0, 1066, []) := rfl
theorem c25_35 : cdx (mC m25) 35 = some (35, .tableswitch 95 1 6 #[37, 40, 49, 55, 62, 81], 37, 130, 0, 0, 0, [(1, 72), (2, 75), (3, 84), (4, 90), (5, 97), (6, 116)]) := rfl
theorem c25_72 : cdx (mC m25) 72 = some (72, .iload 4, 2, 4, 0, 0, 0, []) := rfl
theorem c25_74 : cdx (mC m25) 74 = some (74, .ireturn, 1, 0, 0, 0, 0, []) := rfl
theorem c25_75 : cdx (mC m25) 75 = some (75, .iload_n 1, 1, 1, 0, 0, 0, []) := rfl
theorem c25_76 : cdx (mC m25) 76 = some (76, .aload_n 0, 1, 0, 0, 0, 0, []) := rfl
theorem c25_77 : cdx (mC m25) 77 = some (77, .getfield 25, 3, 1, 3, 0, 1075, []) := rfl
theorem c25_80 : cdx (mC m25) 80 = some (80, .invokestatic 84, 3, 32, 2, 5, 2119, []) := rfl
theorem c25_83 : cdx (mC m25) 83 = some (83, .ireturn, 1, 0, 0, 0, 0, []) := rfl
theorem c25_84 : cdx (mC m25) 84 = some (84, .iload_n 1, 1, 1, 0, 0, 0, []) := rfl
theorem c25_85 : cdx (mC m25) 85 = some (85, .iload_n 3, 1, 3, 0, 0, 0, []) := rfl
theorem c25_86 : cdx (mC m25) 86 = some (86, .invokestatic 73, 3, 26, 2, 5, 2100, []) := rfl
theorem c25_89 : cdx (mC m25) 89 = some (89, .ireturn, 1, 0, 0, 0, 0, []) := rfl
theorem c25_90 : cdx (mC m25) 90 = some (90, .iload 4, 2, 4, 0, 0, 0, []) := rfl
theorem c25_92 : cdx (mC m25) 92 = some (92, .sipush (-3841), 3, 0, 0, 0, 0, []) := rfl
theorem c25_95 : cdx (mC m25) 95 = some (95, .iand, 1, 0, 0, 0, 0, []) := rfl
theorem c25_96 : cdx (mC m25) 96 = some (96, .ireturn, 1, 0, 0, 0, 0, []) := rfl
theorem c25_97 : cdx (mC m25) 97 = some (97, .iload_n 2, 1, 2, 0, 0, 0, []) := rfl
theorem c25_98 : cdx (mC m25) 98 = some (98, .iconst 2, 1, 0, 0, 0, 0, []) := rfl
theorem c25_99 : cdx (mC m25) 99 = some (99, .irem, 1, 0, 0, 0, 0, []) := rfl
theorem c25_100 : cdx (mC m25) 100 = some (100, .ifCond .ne 7, 3, 107, 0, 0, 0, []) := rfl
theorem c25_103 : cdx (mC m25) 103 = some (103, .iload_n 3, 1, 3, 0, 0, 0, []) := rfl
theorem c25_104 : cdx (mC m25) 104 = some (104, .goto 11, 3, 115, 0, 0, 0, []) := rfl
theorem c25_107 : cdx (mC m25) 107 = some (107, .iload_n 1, 1, 1, 0, 0, 0, []) := rfl
theorem c25_108 : cdx (mC m25) 108 = some (108, .aload_n 0, 1, 0, 0, 0, 0, []) := rfl
theorem c25_109 : cdx (mC m25) 109 = some (109, .getfield 25, 3, 1, 3, 0, 1075, []) := rfl
theorem c25_112 : cdx (mC m25) 112 = some (112, .invokestatic 84, 3, 32, 2, 5, 2119, []) := rfl
theorem c25_115 : cdx (mC m25) 115 = some (115, .ireturn, 1, 0, 0, 0, 0, []) := rfl
theorem c25_116 : cdx (mC m25) 116 = some (116, .iload_n 1, 1, 1, 0, 0, 0, []) := rfl
theorem c25_117 : cdx (mC m25) 117 = some (117, .iload_n 3, 1, 3, 0, 0, 0, []) := rfl
theorem c25_118 : cdx (mC m25) 118 = some (118, .invokestatic 73, 3, 26, 2, 5, 2100, []) := rfl
theorem c25_121 : cdx (mC m25) 121 = some (121, .aload_n 0, 1, 0, 0, 0, 0, []) := rfl
theorem c25_122 : cdx (mC m25) 122 = some (122, .iload_n 2, 1, 2, 0, 0, 0, []) := rfl
theorem c25_123 : cdx (mC m25) 123 = some (123, .iconst 4, 1, 0, 0, 0, 0, []) := rfl
theorem c25_124 : cdx (mC m25) 124 = some (124, .irem, 1, 0, 0, 0, 0, []) := rfl
theorem c25_125 : cdx (mC m25) 125 = some (125, .invokevirtual 87, 3, 34, 1, 0, 2125, [(1, 0)]) := rfl
theorem c25_128 : cdx (mC m25) 128 = some (128, .ior, 1, 0, 0, 0, 0, []) := rfl
theorem c25_129 : cdx (mC m25) 129 = some (129, .ireturn, 1, 0, 0, 0, 0, []) := rfl
theorem c25_130 : cdx (mC m25) 130 = some (130, .iload_n 3, 1, 3, 0, 0, 0, []) := rfl
theorem c25_131 : cdx (mC m25) 131 = some (131, .ireturn, 1, 0, 0, 0, 0, []) := rfl
def lv25 : List (Nat × List Nat) := [(0, [0, 1, 2]), (1, [0, 1, 2]), (2, [0, 1, 2]), (5, [0, 1, 2]), (8, [0, 1, 2]), (9, [0, 1, 2, 3]), (10, [0, 1, 2, 3]), (13, [0, 1, 2, 3]), (16, [0, 1, 2, 3]), (18, [0, 1, 2, 3]), (21, [0, 1, 2, 3]), (22, [0, 1, 2, 3]), (25, [0, 1, 2, 3]), (28, [0, 1, 2, 3]), (29, [0, 1, 2, 3]), (31, [0, 1, 2, 3, 4]), (32, [0, 1, 2, 3, 4]), (35, [0, 1, 2, 3, 4]), (72, [4]), (75, [0, 1]), (76, [0]), (84, [1, 3]), (85, [3]), (90, [4]), (97, [0, 1, 2, 3]), (98, [0, 1, 3]), (99, [0, 1, 3]), (100, [0, 1, 3]), (103, [3]), (107, [0, 1]), (108, [0]), (116, [0, 1, 2, 3]), (117, [0, 2, 3]), (118, [0, 2]), (121, [0, 2]), (122, [2]), (130, [3])]
theorem lvok25 : lvOk (mC m25) lv25 = true := by decide +kernel
theorem b25_0 {X : Nat × (Nat → Int32)} {d : Nat} {I : Nat → Nat → Int32} {L : Nat → Nat → Int64} {Q : Option Value → XW → Prop} {r0 : Nat} {x1 : Int32} {x2 : Int32} (hr0 : isCup r0) : wp X (d + 1) m25 0 [some (.ref r0), some (.int x1), some (.int x2), none, none] [] (K0, R0, I, L) Q ↔ wp X d m26 0 [some (.int x1), some (.int (I r0 3))] [] (K0, R0, I, L) (fun r w1 => wp X (d + 1) m25 8 [some (.ref r0), some (.int x1), some (.int x2), none, none] (r.toList ++ []) w1 Q) := (w_iload_n (pc' := 1) c25_0 rfl rfl).trans ((w_aload_n (pc' := 2) c25_1 rfl rfl).trans ((w_getIv (pc' := 5) (v := (I r0 3)) c25_2 hr0.1 (by decide) rfl (rfl) rfl).trans ((w_callst (pc' := 8) c25_5 (by decide) mt26 rfl (Nat.le_of_ble_eq_true rfl) rfl rfl (Nat.le_of_ble_eq_true rfl) rfl rfl))))
theorem b25_8 {X : Nat × (Nat → Int32)} {d : Nat} {I : Nat → Nat → Int32} {L : Nat → Nat → Int64} {Q : Option Value → XW → Prop} {r0 : Nat} {x1 : Int32} {x2 : Int32} {s0 : Int32} (hr0 : isCup r0) : wp X (d + 1) m25 8 [some (.ref r0), some (.int x1), some (.int x2), none, none] [(.int s0)] (K0, R0, I, L) Q ↔ wp X d m22 0 [some (.int (I r0 3))] [] (K0, R0, I, L) (fun r w1 => wp X (d + 1) m25 16 [some (.ref r0), some (.int x1), some (.int x2), some (.int s0), none] (r.toList ++ []) w1 Q) := (w_istore_n (pc' := 9) (ls' := [some (.ref r0), some (.int x1), some (.int x2), some (.int s0), none]) c25_8 (Nat.le_of_ble_eq_true rfl) rfl rfl).trans ((w_aload_n (pc' := 10) c25_9 rfl rfl).trans ((w_getIv (pc' := 13) (v := (I r0 3)) c25_10 hr0.1 (by decide) rfl (rfl) rfl).trans ((w_callst (pc' := 16) c25_13 (by decide) mt22 rfl (Nat.le_of_ble_eq_true rfl) rfl rfl (Nat.le_of_ble_eq_true rfl) rfl rfl))))
theorem b25_16 {X : Nat × (Nat → Int32)} {d : Nat} {I : Nat → Nat → Int32} {L : Nat → Nat → Int64} {Q : Option Value → XW → Prop} {r0 : Nat} {x1 : Int32} {x2 : Int32} {x3 : Int32} {s0 : Int32} (hr0 : isCup r0) : wp X d m25 16 [some (.ref r0), some (.int x1), some (.int x2), some (.int x3), none] [(.int s0)] (K0, R0, I, L) Q ↔ wp X d m25 29 [some (.ref r0), some (.int x1), some (.int x2), some (.int x3), none] [(.int (if 6 < s0 then (I r0 3) else x3))] (K0, R0, I, L) Q := (w_bipush (pc' := 18) (v := 6) c25_16 rfl rfl).trans ((w_icmp_le (pc' := 21) c25_18 rfl).trans ((ite_iff ((w_aload_n (pc' := 22) c25_21 rfl rfl).trans ((w_getIv (pc' := 25) (v := (I r0 3)) c25_22 hr0.1 (by decide) rfl (rfl) rfl).trans ((w_goto c25_25)))) ((w_iload_n (pc' := 29) c25_28 rfl rfl))).trans (ite_val (fun z => wp X d m25 29 [some (.ref r0), some (.int x1), some (.int x2), some (.int x3), none] [(.int z)] (K0, R0, I, L) Q))))
theorem b25_29 {X : Nat × (Nat → Int32)} {d : Nat} {I : Nat → Nat → Int32} {L : Nat → Nat → Int64} {Q : Option Value → XW → Prop} {r0 : Nat} {x1 : Int32} {x2 : Int32} {x3 : Int32} {s0 : Int32} (hr0 : isCup r0) : wp X (d + 1) m25 29 [some (.ref r0), some (.int x1), some (.int x2), some (.int x3), none] [(.int s0)] (K0, R0, I, L) Q ↔ (if (I r0 1) = 1 then Q (some (.int s0)) (K0, R0, I, L) else (if (I r0 1) = 2 then wp X d m32 0 [some (.int x1), some (.int (I r0 3))] [] (K0, R0, I, L) (fun r w1 => wp X (d + 1) m25 83 [none, none, none, none, none] (r.toList ++ []) w1 Q) else (if (I r0 1) = 3 then wp X d m26 0 [some (.int x1), some (.int x3)] [] (K0, R0, I, L) (fun r w1 => wp X (d + 1) m25 89 [none, none, none, none, none] (r.toList ++ []) w1 Q) else (if (I r0 1) = 4 then Q (some (.int (s0 &&& ((-3841) : Int32)))) (K0, R0, I, L) else (if (I r0 1) = 5 then (if (x2 - x2 / 2 * 2) = 0 then wp X (d + 1) m25 115 [none, none, none, none, none] [(.int x3)] (K0, R0, I, L) Q else wp X d m32 0 [some (.int x1), some (.int (I r0 3))] [] (K0, R0, I, L) (fun r w1 => wp X (d + 1) m25 115 [none, none, none, none, none] (r.toList ++ []) w1 Q)) else (if (I r0 1) = 6 then wp X d m26 0 [some (.int x1), some (.int x3)] [] (K0, R0, I, L) (fun r w1 => wp X (d + 1) m25 121 [some (.ref r0), none, some (.int x2), none, none] (r.toList ++ []) w1 Q) else Q (some (.int x3)) (K0, R0, I, L))))))) := (w_istore (pc' := 31) (ls' := [some (.ref r0), some (.int x1), some (.int x2), some (.int x3), some (.int s0)]) c25_29 (Nat.le_of_ble_eq_true rfl) rfl rfl).trans ((w_aload_n (pc' := 32) c25_31 rfl rfl).trans ((w_getIv (pc' := 35) (v := (I r0 1)) c25_32 hr0.1 (by decide) rfl (rfl) rfl).trans ((w_tswitch c25_35).trans ((w_swcons (v := 1) rfl).trans (ite_iff ((w_iload (pc' := 74) c25_72 rfl rfl).trans (w_iret c25_74 rfl)) ((w_swcons (v := 2) rfl).trans (ite_iff ((w_iload_n (pc' := 76) c25_75 rfl rfl).trans ((w_aload_n (pc' := 77) c25_76 rfl rfl).trans ((w_getIv (pc' := 80) (v := (I r0 3)) c25_77 hr0.1 (by decide) rfl (rfl) rfl).trans ((w_callst (pc' := 83) c25_80 (by decide) mt32 rfl (Nat.le_of_ble_eq_true rfl) rfl rfl (Nat.le_of_ble_eq_true rfl) rfl rfl).trans (wp_congr (fun r w1 => wp_msk lvok25 rfl)))))) ((w_swcons (v := 3) rfl).trans (ite_iff ((w_iload_n (pc' := 85) c25_84 rfl rfl).trans ((w_iload_n (pc' := 86) c25_85 rfl rfl).trans ((w_callst (pc' := 89) c25_86 (by decide) mt26 rfl (Nat.le_of_ble_eq_true rfl) rfl rfl (Nat.le_of_ble_eq_true rfl) rfl rfl).trans (wp_congr (fun r w1 => wp_msk lvok25 rfl))))) ((w_swcons (v := 4) rfl).trans (ite_iff ((w_iload (pc' := 92) c25_90 rfl rfl).trans ((w_sipush (pc' := 95) (v := (-3841)) c25_92 rfl rfl).trans ((w_iand (pc' := 96) c25_95 rfl).trans (w_iret c25_96 rfl)))) ((w_swcons (v := 5) rfl).trans (ite_iff ((w_iload_n (pc' := 98) c25_97 rfl rfl).trans ((w_iconst (pc' := 99) (v := 2) c25_98 rfl rfl).trans (((w_irem (pc' := 100) c25_99 rfl).trans (and_iff_right (by decide))).trans ((w_if_ne (pc' := 103) c25_100 rfl).trans (ite_iff ((w_iload_n (pc' := 104) c25_103 rfl rfl).trans ((w_goto c25_104).trans ((wp_msk lvok25 rfl)))) ((w_iload_n (pc' := 108) c25_107 rfl rfl).trans ((w_aload_n (pc' := 109) c25_108 rfl rfl).trans ((w_getIv (pc' := 112) (v := (I r0 3)) c25_109 hr0.1 (by decide) rfl (rfl) rfl).trans ((w_callst (pc' := 115) c25_112 (by decide) mt32 rfl (Nat.le_of_ble_eq_true rfl) rfl rfl (Nat.le_of_ble_eq_true rfl) rfl rfl).trans (wp_congr (fun r w1 => wp_msk lvok25 rfl))))))))))) ((w_swcons (v := 6) rfl).trans (ite_iff ((w_iload_n (pc' := 117) c25_116 rfl rfl).trans ((w_iload_n (pc' := 118) c25_117 rfl rfl).trans ((w_callst (pc' := 121) c25_118 (by decide) mt26 rfl (Nat.le_of_ble_eq_true rfl) rfl rfl (Nat.le_of_ble_eq_true rfl) rfl rfl).trans (wp_congr (fun r w1 => wp_msk lvok25 rfl))))) ((w_swnil).trans ((w_iload_n (pc' := 131) c25_130 rfl rfl).trans (w_iret c25_131 rfl))))))))))))))))))
theorem b25_83 {X : Nat × (Nat → Int32)} {d : Nat} {I : Nat → Nat → Int32} {L : Nat → Nat → Int64} {Q : Option Value → XW → Prop} {s0 : Int32}  : wp X d m25 83 [none, none, none, none, none] [(.int s0)] (K0, R0, I, L) Q ↔ Q (some (.int s0)) (K0, R0, I, L) := w_iret c25_83 rfl
theorem b25_89 {X : Nat × (Nat → Int32)} {d : Nat} {I : Nat → Nat → Int32} {L : Nat → Nat → Int64} {Q : Option Value → XW → Prop} {s0 : Int32}  : wp X d m25 89 [none, none, none, none, none] [(.int s0)] (K0, R0, I, L) Q ↔ Q (some (.int s0)) (K0, R0, I, L) := w_iret c25_89 rfl
theorem b25_115 {X : Nat × (Nat → Int32)} {d : Nat} {I : Nat → Nat → Int32} {L : Nat → Nat → Int64} {Q : Option Value → XW → Prop} {s0 : Int32}  : wp X d m25 115 [none, none, none, none, none] [(.int s0)] (K0, R0, I, L) Q ↔ Q (some (.int s0)) (K0, R0, I, L) := w_iret c25_115 rfl
theorem b25_121 {X : Nat × (Nat → Int32)} {d : Nat} {I : Nat → Nat → Int32} {L : Nat → Nat → Int64} {Q : Option Value → XW → Prop} {r0 : Nat} {x2 : Int32} {s0 : Int32} (hr0 : isCup r0) : wp X (d + 1) m25 121 [some (.ref r0), none, some (.int x2), none, none] [(.int s0)] (K0, R0, I, L) Q ↔ wp X d m34 0 [some (.ref r0), some (.int (x2 - x2 / 4 * 4))] [] (K0, R0, I, L) (fun r w1 => wp X (d + 1) m25 128 [none, none, none, none, none] (r.toList ++ [(.int s0)]) w1 Q) := (w_aload_n (pc' := 122) c25_121 rfl rfl).trans ((w_iload_n (pc' := 123) c25_122 rfl rfl).trans ((w_iconst (pc' := 124) (v := 4) c25_123 rfl rfl).trans (((w_irem (pc' := 125) c25_124 rfl).trans (and_iff_right (by decide))).trans ((w_callv (pc' := 128) c25_125 mt34 rfl (Nat.le_of_ble_eq_true rfl) rfl hr0.1 rfl rfl (Nat.le_of_ble_eq_true rfl) rfl rfl).trans (wp_congr (fun r w1 => wp_msk lvok25 rfl))))))
theorem b25_128 {X : Nat × (Nat → Int32)} {d : Nat} {I : Nat → Nat → Int32} {L : Nat → Nat → Int64} {Q : Option Value → XW → Prop} {s0 : Int32} {s1 : Int32}  : wp X d m25 128 [none, none, none, none, none] [(.int s1), (.int s0)] (K0, R0, I, L) Q ↔ Q (some (.int (s0 ||| s1))) (K0, R0, I, L) := (w_ior (pc' := 129) c25_128 rfl).trans (w_iret c25_129 rfl)
-- LeavesObject$Leaves.forth(II)I
theorem c26_0 : cdx (mC m26) 0 = some (0, .iload_n 0, 1, 0, 0, 0, 0, []) := rfl
theorem c26_1 : cdx (mC m26) 1 = some (1, .tableswitch 70 0 3 #[31, 38, 43, 56], 31, 71, 0, 0, 0, [(0, 32), (1, 39), (2, 44), (3, 57)]) := rfl
theorem c26_32 : cdx (mC m26) 32 = some (32, .iload_n 1, 1, 1, 0, 0, 0, []) := rfl
theorem c26_33 : cdx (mC m26) 33 = some (33, .iload_n 1, 1, 1, 0, 0, 0, []) := rfl
theorem c26_34 : cdx (mC m26) 34 = some (34, .invokestatic 9, 3, 27, 1, 4, 2103, []) := rfl
theorem c26_37 : cdx (mC m26) 37 = some (37, .ior, 1, 0, 0, 0, 0, []) := rfl
theorem c26_38 : cdx (mC m26) 38 = some (38, .ireturn, 1, 0, 0, 0, 0, []) := rfl
theorem c26_39 : cdx (mC m26) 39 = some (39, .iload_n 1, 1, 1, 0, 0, 0, []) := rfl
theorem c26_40 : cdx (mC m26) 40 = some (40, .invokestatic 24, 3, 28, 1, 4, 2106, []) := rfl
theorem c26_43 : cdx (mC m26) 43 = some (43, .ireturn, 1, 0, 0, 0, 0, []) := rfl
theorem c26_44 : cdx (mC m26) 44 = some (44, .iload_n 1, 1, 1, 0, 0, 0, []) := rfl
theorem c26_45 : cdx (mC m26) 45 = some (45, .invokestatic 9, 3, 27, 1, 4, 2103, []) := rfl
theorem c26_48 : cdx (mC m26) 48 = some (48, .iload_n 1, 1, 1, 0, 0, 0, []) := rfl
theorem c26_49 : cdx (mC m26) 49 = some (49, .sipush 2184, 3, 0, 0, 0, 0, []) := rfl
theorem c26_52 : cdx (mC m26) 52 = some (52, .iand, 1, 0, 0, 0, 0, []) := rfl
theorem c26_53 : cdx (mC m26) 53 = some (53, .iconst 3, 1, 0, 0, 0, 0, []) := rfl
theorem c26_54 : cdx (mC m26) 54 = some (54, .ishr, 1, 0, 0, 0, 0, []) := rfl
theorem c26_55 : cdx (mC m26) 55 = some (55, .ior, 1, 0, 0, 0, 0, []) := rfl
theorem c26_56 : cdx (mC m26) 56 = some (56, .ireturn, 1, 0, 0, 0, 0, []) := rfl
theorem c26_57 : cdx (mC m26) 57 = some (57, .iload_n 1, 1, 1, 0, 0, 0, []) := rfl
theorem c26_58 : cdx (mC m26) 58 = some (58, .invokestatic 18, 3, 30, 1, 4, 2112, []) := rfl
theorem c26_61 : cdx (mC m26) 61 = some (61, .iload_n 1, 1, 1, 0, 0, 0, []) := rfl
theorem c26_62 : cdx (mC m26) 62 = some (62, .sipush 3840, 3, 0, 0, 0, 0, []) := rfl
theorem c26_65 : cdx (mC m26) 65 = some (65, .iand, 1, 0, 0, 0, 0, []) := rfl
theorem c26_66 : cdx (mC m26) 66 = some (66, .bipush 8, 2, 0, 0, 0, 0, []) := rfl
theorem c26_68 : cdx (mC m26) 68 = some (68, .ishr, 1, 0, 0, 0, 0, []) := rfl
theorem c26_69 : cdx (mC m26) 69 = some (69, .ior, 1, 0, 0, 0, 0, []) := rfl
theorem c26_70 : cdx (mC m26) 70 = some (70, .ireturn, 1, 0, 0, 0, 0, []) := rfl
theorem c26_71 : cdx (mC m26) 71 = some (71, .iload_n 1, 1, 1, 0, 0, 0, []) := rfl
theorem c26_72 : cdx (mC m26) 72 = some (72, .ireturn, 1, 0, 0, 0, 0, []) := rfl
def lv26 : List (Nat × List Nat) := [(0, [0, 1]), (1, [1]), (32, [1]), (33, [1]), (39, [1]), (44, [1]), (45, [1]), (48, [1]), (57, [1]), (58, [1]), (61, [1]), (71, [1])]
theorem lvok26 : lvOk (mC m26) lv26 = true := by decide +kernel
theorem b26_0 {X : Nat × (Nat → Int32)} {d : Nat} {I : Nat → Nat → Int32} {L : Nat → Nat → Int64} {Q : Option Value → XW → Prop} {x0 : Int32} {x1 : Int32}  : wp X (d + 1) m26 0 [some (.int x0), some (.int x1)] [] (K0, R0, I, L) Q ↔ (if x0 = 0 then wp X d m27 0 [some (.int x1)] [] (K0, R0, I, L) (fun r w1 => wp X (d + 1) m26 37 [none, none] (r.toList ++ [(.int x1)]) w1 Q) else (if x0 = 1 then wp X d m28 0 [some (.int x1)] [] (K0, R0, I, L) (fun r w1 => wp X (d + 1) m26 43 [none, none] (r.toList ++ []) w1 Q) else (if x0 = 2 then wp X d m27 0 [some (.int x1)] [] (K0, R0, I, L) (fun r w1 => wp X (d + 1) m26 48 [none, some (.int x1)] (r.toList ++ []) w1 Q) else (if x0 = 3 then wp X d m30 0 [some (.int x1)] [] (K0, R0, I, L) (fun r w1 => wp X (d + 1) m26 61 [none, some (.int x1)] (r.toList ++ []) w1 Q) else Q (some (.int x1)) (K0, R0, I, L))))) := (w_iload_n (pc' := 1) c26_0 rfl rfl).trans ((w_tswitch c26_1).trans ((w_swcons (v := 0) rfl).trans (ite_iff ((w_iload_n (pc' := 33) c26_32 rfl rfl).trans ((w_iload_n (pc' := 34) c26_33 rfl rfl).trans ((w_callst (pc' := 37) c26_34 (by decide) mt27 rfl (Nat.le_of_ble_eq_true rfl) rfl rfl (Nat.le_of_ble_eq_true rfl) rfl rfl).trans (wp_congr (fun r w1 => wp_msk lvok26 rfl))))) ((w_swcons (v := 1) rfl).trans (ite_iff ((w_iload_n (pc' := 40) c26_39 rfl rfl).trans ((w_callst (pc' := 43) c26_40 (by decide) mt28 rfl (Nat.le_of_ble_eq_true rfl) rfl rfl (Nat.le_of_ble_eq_true rfl) rfl rfl).trans (wp_congr (fun r w1 => wp_msk lvok26 rfl)))) ((w_swcons (v := 2) rfl).trans (ite_iff ((w_iload_n (pc' := 45) c26_44 rfl rfl).trans ((w_callst (pc' := 48) c26_45 (by decide) mt27 rfl (Nat.le_of_ble_eq_true rfl) rfl rfl (Nat.le_of_ble_eq_true rfl) rfl rfl).trans (wp_congr (fun r w1 => wp_msk lvok26 rfl)))) ((w_swcons (v := 3) rfl).trans (ite_iff ((w_iload_n (pc' := 58) c26_57 rfl rfl).trans ((w_callst (pc' := 61) c26_58 (by decide) mt30 rfl (Nat.le_of_ble_eq_true rfl) rfl rfl (Nat.le_of_ble_eq_true rfl) rfl rfl).trans (wp_congr (fun r w1 => wp_msk lvok26 rfl)))) ((w_swnil).trans ((w_iload_n (pc' := 72) c26_71 rfl rfl).trans (w_iret c26_72 rfl))))))))))))
theorem b26_37 {X : Nat × (Nat → Int32)} {d : Nat} {I : Nat → Nat → Int32} {L : Nat → Nat → Int64} {Q : Option Value → XW → Prop} {s0 : Int32} {s1 : Int32}  : wp X d m26 37 [none, none] [(.int s1), (.int s0)] (K0, R0, I, L) Q ↔ Q (some (.int (s0 ||| s1))) (K0, R0, I, L) := (w_ior (pc' := 38) c26_37 rfl).trans (w_iret c26_38 rfl)
theorem b26_43 {X : Nat × (Nat → Int32)} {d : Nat} {I : Nat → Nat → Int32} {L : Nat → Nat → Int64} {Q : Option Value → XW → Prop} {s0 : Int32}  : wp X d m26 43 [none, none] [(.int s0)] (K0, R0, I, L) Q ↔ Q (some (.int s0)) (K0, R0, I, L) := w_iret c26_43 rfl
theorem b26_48 {X : Nat × (Nat → Int32)} {d : Nat} {I : Nat → Nat → Int32} {L : Nat → Nat → Int64} {Q : Option Value → XW → Prop} {x1 : Int32} {s0 : Int32}  : wp X d m26 48 [none, some (.int x1)] [(.int s0)] (K0, R0, I, L) Q ↔ Q (some (.int (s0 ||| ((x1 &&& (2184 : Int32)) >>> ((3 : Int32) &&& 31))))) (K0, R0, I, L) := (w_iload_n (pc' := 49) c26_48 rfl rfl).trans ((w_sipush (pc' := 52) (v := 2184) c26_49 rfl rfl).trans ((w_iand (pc' := 53) c26_52 rfl).trans ((w_iconst (pc' := 54) (v := 3) c26_53 rfl rfl).trans ((w_ishr (pc' := 55) c26_54 rfl).trans ((w_ior (pc' := 56) c26_55 rfl).trans (w_iret c26_56 rfl))))))
theorem b26_61 {X : Nat × (Nat → Int32)} {d : Nat} {I : Nat → Nat → Int32} {L : Nat → Nat → Int64} {Q : Option Value → XW → Prop} {x1 : Int32} {s0 : Int32}  : wp X d m26 61 [none, some (.int x1)] [(.int s0)] (K0, R0, I, L) Q ↔ Q (some (.int (s0 ||| ((x1 &&& (3840 : Int32)) >>> ((8 : Int32) &&& 31))))) (K0, R0, I, L) := (w_iload_n (pc' := 62) c26_61 rfl rfl).trans ((w_sipush (pc' := 65) (v := 3840) c26_62 rfl rfl).trans ((w_iand (pc' := 66) c26_65 rfl).trans ((w_bipush (pc' := 68) (v := 8) c26_66 rfl rfl).trans ((w_ishr (pc' := 69) c26_68 rfl).trans ((w_ior (pc' := 70) c26_69 rfl).trans (w_iret c26_70 rfl))))))
-- LeavesObject$Leaves.right(I)I
theorem c27_0 : cdx (mC m27) 0 = some (0, .iload_n 0, 1, 0, 0, 0, 0, []) := rfl
theorem c27_1 : cdx (mC m27) 1 = some (1, .sipush (-2185), 3, 0, 0, 0, 0, []) := rfl
theorem c27_4 : cdx (mC m27) 4 = some (4, .iand, 1, 0, 0, 0, 0, []) := rfl
theorem c27_5 : cdx (mC m27) 5 = some (5, .iconst 1, 1, 0, 0, 0, 0, []) := rfl
theorem c27_6 : cdx (mC m27) 6 = some (6, .ishl, 1, 0, 0, 0, 0, []) := rfl
theorem c27_7 : cdx (mC m27) 7 = some (7, .ireturn, 1, 0, 0, 0, 0, []) := rfl
theorem b27_0 {X : Nat × (Nat → Int32)} {d : Nat} {I : Nat → Nat → Int32} {L : Nat → Nat → Int64} {Q : Option Value → XW → Prop} {x0 : Int32}  : wp X d m27 0 [some (.int x0)] [] (K0, R0, I, L) Q ↔ Q (some (.int ((x0 &&& ((-2185) : Int32)) <<< ((1 : Int32) &&& 31)))) (K0, R0, I, L) := (w_iload_n (pc' := 1) c27_0 rfl rfl).trans ((w_sipush (pc' := 4) (v := (-2185)) c27_1 rfl rfl).trans ((w_iand (pc' := 5) c27_4 rfl).trans ((w_iconst (pc' := 6) (v := 1) c27_5 rfl rfl).trans ((w_ishl (pc' := 7) c27_6 rfl).trans (w_iret c27_7 rfl)))))
-- LeavesObject$Leaves.thinned(I)I
theorem c28_0 : cdx (mC m28) 0 = some (0, .iload_n 0, 1, 0, 0, 0, 0, []) := rfl
theorem c28_1 : cdx (mC m28) 1 = some (1, .iload_n 0, 1, 0, 0, 0, 0, []) := rfl
theorem c28_2 : cdx (mC m28) 2 = some (2, .invokestatic 9, 3, 27, 1, 4, 2103, []) := rfl
theorem c28_5 : cdx (mC m28) 5 = some (5, .iload_n 0, 1, 0, 0, 0, 0, []) := rfl
theorem c28_6 : cdx (mC m28) 6 = some (6, .invokestatic 15, 3, 29, 1, 4, 2109, []) := rfl
theorem c28_9 : cdx (mC m28) 9 = some (9, .ior, 1, 0, 0, 0, 0, []) := rfl
theorem c28_10 : cdx (mC m28) 10 = some (10, .iload_n 0, 1, 0, 0, 0, 0, []) := rfl
theorem c28_11 : cdx (mC m28) 11 = some (11, .invokestatic 18, 3, 30, 1, 4, 2112, []) := rfl
theorem c28_14 : cdx (mC m28) 14 = some (14, .ior, 1, 0, 0, 0, 0, []) := rfl
theorem c28_15 : cdx (mC m28) 15 = some (15, .iload_n 0, 1, 0, 0, 0, 0, []) := rfl
theorem c28_16 : cdx (mC m28) 16 = some (16, .invokestatic 21, 3, 31, 1, 4, 2115, []) := rfl
theorem c28_19 : cdx (mC m28) 19 = some (19, .ior, 1, 0, 0, 0, 0, []) := rfl
theorem c28_20 : cdx (mC m28) 20 = some (20, .iand, 1, 0, 0, 0, 0, []) := rfl
theorem c28_21 : cdx (mC m28) 21 = some (21, .ireturn, 1, 0, 0, 0, 0, []) := rfl
def lv28 : List (Nat × List Nat) := [(0, [0]), (1, [0]), (2, [0]), (5, [0]), (6, [0]), (9, [0]), (10, [0]), (11, [0]), (14, [0]), (15, [0])]
theorem lvok28 : lvOk (mC m28) lv28 = true := by decide +kernel
theorem b28_0 {X : Nat × (Nat → Int32)} {d : Nat} {I : Nat → Nat → Int32} {L : Nat → Nat → Int64} {Q : Option Value → XW → Prop} {x0 : Int32}  : wp X (d + 1) m28 0 [some (.int x0)] [] (K0, R0, I, L) Q ↔ wp X d m27 0 [some (.int x0)] [] (K0, R0, I, L) (fun r w1 => wp X (d + 1) m28 5 [some (.int x0)] (r.toList ++ [(.int x0)]) w1 Q) := (w_iload_n (pc' := 1) c28_0 rfl rfl).trans ((w_iload_n (pc' := 2) c28_1 rfl rfl).trans ((w_callst (pc' := 5) c28_2 (by decide) mt27 rfl (Nat.le_of_ble_eq_true rfl) rfl rfl (Nat.le_of_ble_eq_true rfl) rfl rfl)))
theorem b28_5 {X : Nat × (Nat → Int32)} {d : Nat} {I : Nat → Nat → Int32} {L : Nat → Nat → Int64} {Q : Option Value → XW → Prop} {x0 : Int32} {s0 : Int32} {s1 : Int32}  : wp X (d + 1) m28 5 [some (.int x0)] [(.int s1), (.int s0)] (K0, R0, I, L) Q ↔ wp X d m29 0 [some (.int x0)] [] (K0, R0, I, L) (fun r w1 => wp X (d + 1) m28 9 [some (.int x0)] (r.toList ++ [(.int s1), (.int s0)]) w1 Q) := (w_iload_n (pc' := 6) c28_5 rfl rfl).trans ((w_callst (pc' := 9) c28_6 (by decide) mt29 rfl (Nat.le_of_ble_eq_true rfl) rfl rfl (Nat.le_of_ble_eq_true rfl) rfl rfl))
theorem b28_9 {X : Nat × (Nat → Int32)} {d : Nat} {I : Nat → Nat → Int32} {L : Nat → Nat → Int64} {Q : Option Value → XW → Prop} {x0 : Int32} {s0 : Int32} {s1 : Int32} {s2 : Int32}  : wp X (d + 1) m28 9 [some (.int x0)] [(.int s2), (.int s1), (.int s0)] (K0, R0, I, L) Q ↔ wp X d m30 0 [some (.int x0)] [] (K0, R0, I, L) (fun r w1 => wp X (d + 1) m28 14 [some (.int x0)] (r.toList ++ [(.int (s1 ||| s2)), (.int s0)]) w1 Q) := (w_ior (pc' := 10) c28_9 rfl).trans ((w_iload_n (pc' := 11) c28_10 rfl rfl).trans ((w_callst (pc' := 14) c28_11 (by decide) mt30 rfl (Nat.le_of_ble_eq_true rfl) rfl rfl (Nat.le_of_ble_eq_true rfl) rfl rfl)))
theorem b28_14 {X : Nat × (Nat → Int32)} {d : Nat} {I : Nat → Nat → Int32} {L : Nat → Nat → Int64} {Q : Option Value → XW → Prop} {x0 : Int32} {s0 : Int32} {s1 : Int32} {s2 : Int32}  : wp X (d + 1) m28 14 [some (.int x0)] [(.int s2), (.int s1), (.int s0)] (K0, R0, I, L) Q ↔ wp X d m31 0 [some (.int x0)] [] (K0, R0, I, L) (fun r w1 => wp X (d + 1) m28 19 [none] (r.toList ++ [(.int (s1 ||| s2)), (.int s0)]) w1 Q) := (w_ior (pc' := 15) c28_14 rfl).trans ((w_iload_n (pc' := 16) c28_15 rfl rfl).trans ((w_callst (pc' := 19) c28_16 (by decide) mt31 rfl (Nat.le_of_ble_eq_true rfl) rfl rfl (Nat.le_of_ble_eq_true rfl) rfl rfl).trans (wp_congr (fun r w1 => wp_msk lvok28 rfl))))
theorem b28_19 {X : Nat × (Nat → Int32)} {d : Nat} {I : Nat → Nat → Int32} {L : Nat → Nat → Int64} {Q : Option Value → XW → Prop} {s0 : Int32} {s1 : Int32} {s2 : Int32}  : wp X d m28 19 [none] [(.int s2), (.int s1), (.int s0)] (K0, R0, I, L) Q ↔ Q (some (.int (s0 &&& (s1 ||| s2)))) (K0, R0, I, L) := (w_ior (pc' := 20) c28_19 rfl).trans ((w_iand (pc' := 21) c28_20 rfl).trans (w_iret c28_21 rfl))
-- LeavesObject$Leaves.left(I)I
theorem c29_0 : cdx (mC m29) 0 = some (0, .iload_n 0, 1, 0, 0, 0, 0, []) := rfl
theorem c29_1 : cdx (mC m29) 1 = some (1, .sipush (-274), 3, 0, 0, 0, 0, []) := rfl
theorem c29_4 : cdx (mC m29) 4 = some (4, .iand, 1, 0, 0, 0, 0, []) := rfl
theorem c29_5 : cdx (mC m29) 5 = some (5, .iconst 1, 1, 0, 0, 0, 0, []) := rfl
theorem c29_6 : cdx (mC m29) 6 = some (6, .ishr, 1, 0, 0, 0, 0, []) := rfl
theorem c29_7 : cdx (mC m29) 7 = some (7, .ireturn, 1, 0, 0, 0, 0, []) := rfl
theorem b29_0 {X : Nat × (Nat → Int32)} {d : Nat} {I : Nat → Nat → Int32} {L : Nat → Nat → Int64} {Q : Option Value → XW → Prop} {x0 : Int32}  : wp X d m29 0 [some (.int x0)] [] (K0, R0, I, L) Q ↔ Q (some (.int ((x0 &&& ((-274) : Int32)) >>> ((1 : Int32) &&& 31)))) (K0, R0, I, L) := (w_iload_n (pc' := 1) c29_0 rfl rfl).trans ((w_sipush (pc' := 4) (v := (-274)) c29_1 rfl rfl).trans ((w_iand (pc' := 5) c29_4 rfl).trans ((w_iconst (pc' := 6) (v := 1) c29_5 rfl rfl).trans ((w_ishr (pc' := 7) c29_6 rfl).trans (w_iret c29_7 rfl)))))
-- LeavesObject$Leaves.down(I)I
theorem c30_0 : cdx (mC m30) 0 = some (0, .iload_n 0, 1, 0, 0, 0, 0, []) := rfl
theorem c30_1 : cdx (mC m30) 1 = some (1, .iconst 4, 1, 0, 0, 0, 0, []) := rfl
theorem c30_2 : cdx (mC m30) 2 = some (2, .ishl, 1, 0, 0, 0, 0, []) := rfl
theorem c30_3 : cdx (mC m30) 3 = some (3, .sipush 4095, 3, 0, 0, 0, 0, []) := rfl
theorem c30_6 : cdx (mC m30) 6 = some (6, .iand, 1, 0, 0, 0, 0, []) := rfl
theorem c30_7 : cdx (mC m30) 7 = some (7, .ireturn, 1, 0, 0, 0, 0, []) := rfl
theorem b30_0 {X : Nat × (Nat → Int32)} {d : Nat} {I : Nat → Nat → Int32} {L : Nat → Nat → Int64} {Q : Option Value → XW → Prop} {x0 : Int32}  : wp X d m30 0 [some (.int x0)] [] (K0, R0, I, L) Q ↔ Q (some (.int ((x0 <<< ((4 : Int32) &&& 31)) &&& (4095 : Int32)))) (K0, R0, I, L) := (w_iload_n (pc' := 1) c30_0 rfl rfl).trans ((w_iconst (pc' := 2) (v := 4) c30_1 rfl rfl).trans ((w_ishl (pc' := 3) c30_2 rfl).trans ((w_sipush (pc' := 6) (v := 4095) c30_3 rfl rfl).trans ((w_iand (pc' := 7) c30_6 rfl).trans (w_iret c30_7 rfl)))))
-- LeavesObject$Leaves.up(I)I
theorem c31_0 : cdx (mC m31) 0 = some (0, .iload_n 0, 1, 0, 0, 0, 0, []) := rfl
theorem c31_1 : cdx (mC m31) 1 = some (1, .iconst 4, 1, 0, 0, 0, 0, []) := rfl
theorem c31_2 : cdx (mC m31) 2 = some (2, .ishr, 1, 0, 0, 0, 0, []) := rfl
theorem c31_3 : cdx (mC m31) 3 = some (3, .ireturn, 1, 0, 0, 0, 0, []) := rfl
theorem b31_0 {X : Nat × (Nat → Int32)} {d : Nat} {I : Nat → Nat → Int32} {L : Nat → Nat → Int64} {Q : Option Value → XW → Prop} {x0 : Int32}  : wp X d m31 0 [some (.int x0)] [] (K0, R0, I, L) Q ↔ Q (some (.int (x0 >>> ((4 : Int32) &&& 31)))) (K0, R0, I, L) := (w_iload_n (pc' := 1) c31_0 rfl rfl).trans ((w_iconst (pc' := 2) (v := 4) c31_1 rfl rfl).trans ((w_ishr (pc' := 3) c31_2 rfl).trans (w_iret c31_3 rfl)))
-- LeavesObject$Leaves.back(II)I
theorem c32_0 : cdx (mC m32) 0 = some (0, .iload_n 0, 1, 0, 0, 0, 0, []) := rfl
theorem c32_1 : cdx (mC m32) 1 = some (1, .tableswitch 69 0 3 #[31, 38, 43, 56], 31, 70, 0, 0, 0, [(0, 32), (1, 39), (2, 44), (3, 57)]) := rfl
theorem c32_32 : cdx (mC m32) 32 = some (32, .iload_n 1, 1, 1, 0, 0, 0, []) := rfl
theorem c32_33 : cdx (mC m32) 33 = some (33, .iload_n 1, 1, 1, 0, 0, 0, []) := rfl
theorem c32_34 : cdx (mC m32) 34 = some (34, .invokestatic 15, 3, 29, 1, 4, 2109, []) := rfl
theorem c32_37 : cdx (mC m32) 37 = some (37, .ior, 1, 0, 0, 0, 0, []) := rfl
theorem c32_38 : cdx (mC m32) 38 = some (38, .ireturn, 1, 0, 0, 0, 0, []) := rfl
theorem c32_39 : cdx (mC m32) 39 = some (39, .iload_n 1, 1, 1, 0, 0, 0, []) := rfl
theorem c32_40 : cdx (mC m32) 40 = some (40, .invokestatic 27, 3, 33, 1, 4, 2122, []) := rfl
theorem c32_43 : cdx (mC m32) 43 = some (43, .ireturn, 1, 0, 0, 0, 0, []) := rfl
theorem c32_44 : cdx (mC m32) 44 = some (44, .iload_n 1, 1, 1, 0, 0, 0, []) := rfl
theorem c32_45 : cdx (mC m32) 45 = some (45, .invokestatic 15, 3, 29, 1, 4, 2109, []) := rfl
theorem c32_48 : cdx (mC m32) 48 = some (48, .iload_n 1, 1, 1, 0, 0, 0, []) := rfl
theorem c32_49 : cdx (mC m32) 49 = some (49, .sipush 273, 3, 0, 0, 0, 0, []) := rfl
theorem c32_52 : cdx (mC m32) 52 = some (52, .iand, 1, 0, 0, 0, 0, []) := rfl
theorem c32_53 : cdx (mC m32) 53 = some (53, .iconst 3, 1, 0, 0, 0, 0, []) := rfl
theorem c32_54 : cdx (mC m32) 54 = some (54, .ishl, 1, 0, 0, 0, 0, []) := rfl
theorem c32_55 : cdx (mC m32) 55 = some (55, .ior, 1, 0, 0, 0, 0, []) := rfl
theorem c32_56 : cdx (mC m32) 56 = some (56, .ireturn, 1, 0, 0, 0, 0, []) := rfl
theorem c32_57 : cdx (mC m32) 57 = some (57, .iload_n 1, 1, 1, 0, 0, 0, []) := rfl
theorem c32_58 : cdx (mC m32) 58 = some (58, .invokestatic 21, 3, 31, 1, 4, 2115, []) := rfl
theorem c32_61 : cdx (mC m32) 61 = some (61, .iload_n 1, 1, 1, 0, 0, 0, []) := rfl
theorem c32_62 : cdx (mC m32) 62 = some (62, .bipush 15, 2, 0, 0, 0, 0, []) := rfl
theorem c32_64 : cdx (mC m32) 64 = some (64, .iand, 1, 0, 0, 0, 0, []) := rfl
theorem c32_65 : cdx (mC m32) 65 = some (65, .bipush 8, 2, 0, 0, 0, 0, []) := rfl
theorem c32_67 : cdx (mC m32) 67 = some (67, .ishl, 1, 0, 0, 0, 0, []) := rfl
theorem c32_68 : cdx (mC m32) 68 = some (68, .ior, 1, 0, 0, 0, 0, []) := rfl
theorem c32_69 : cdx (mC m32) 69 = some (69, .ireturn, 1, 0, 0, 0, 0, []) := rfl
theorem c32_70 : cdx (mC m32) 70 = some (70, .iload_n 1, 1, 1, 0, 0, 0, []) := rfl
theorem c32_71 : cdx (mC m32) 71 = some (71, .ireturn, 1, 0, 0, 0, 0, []) := rfl
def lv32 : List (Nat × List Nat) := [(0, [0, 1]), (1, [1]), (32, [1]), (33, [1]), (39, [1]), (44, [1]), (45, [1]), (48, [1]), (57, [1]), (58, [1]), (61, [1]), (70, [1])]
theorem lvok32 : lvOk (mC m32) lv32 = true := by decide +kernel
theorem b32_0 {X : Nat × (Nat → Int32)} {d : Nat} {I : Nat → Nat → Int32} {L : Nat → Nat → Int64} {Q : Option Value → XW → Prop} {x0 : Int32} {x1 : Int32}  : wp X (d + 1) m32 0 [some (.int x0), some (.int x1)] [] (K0, R0, I, L) Q ↔ (if x0 = 0 then wp X d m29 0 [some (.int x1)] [] (K0, R0, I, L) (fun r w1 => wp X (d + 1) m32 37 [none, none] (r.toList ++ [(.int x1)]) w1 Q) else (if x0 = 1 then wp X d m33 0 [some (.int x1), none, none, none, none] [] (K0, R0, I, L) (fun r w1 => wp X (d + 1) m32 43 [none, none] (r.toList ++ []) w1 Q) else (if x0 = 2 then wp X d m29 0 [some (.int x1)] [] (K0, R0, I, L) (fun r w1 => wp X (d + 1) m32 48 [none, some (.int x1)] (r.toList ++ []) w1 Q) else (if x0 = 3 then wp X d m31 0 [some (.int x1)] [] (K0, R0, I, L) (fun r w1 => wp X (d + 1) m32 61 [none, some (.int x1)] (r.toList ++ []) w1 Q) else Q (some (.int x1)) (K0, R0, I, L))))) := (w_iload_n (pc' := 1) c32_0 rfl rfl).trans ((w_tswitch c32_1).trans ((w_swcons (v := 0) rfl).trans (ite_iff ((w_iload_n (pc' := 33) c32_32 rfl rfl).trans ((w_iload_n (pc' := 34) c32_33 rfl rfl).trans ((w_callst (pc' := 37) c32_34 (by decide) mt29 rfl (Nat.le_of_ble_eq_true rfl) rfl rfl (Nat.le_of_ble_eq_true rfl) rfl rfl).trans (wp_congr (fun r w1 => wp_msk lvok32 rfl))))) ((w_swcons (v := 1) rfl).trans (ite_iff ((w_iload_n (pc' := 40) c32_39 rfl rfl).trans ((w_callst (pc' := 43) c32_40 (by decide) mt33 rfl (Nat.le_of_ble_eq_true rfl) rfl rfl (Nat.le_of_ble_eq_true rfl) rfl rfl).trans (wp_congr (fun r w1 => wp_msk lvok32 rfl)))) ((w_swcons (v := 2) rfl).trans (ite_iff ((w_iload_n (pc' := 45) c32_44 rfl rfl).trans ((w_callst (pc' := 48) c32_45 (by decide) mt29 rfl (Nat.le_of_ble_eq_true rfl) rfl rfl (Nat.le_of_ble_eq_true rfl) rfl rfl).trans (wp_congr (fun r w1 => wp_msk lvok32 rfl)))) ((w_swcons (v := 3) rfl).trans (ite_iff ((w_iload_n (pc' := 58) c32_57 rfl rfl).trans ((w_callst (pc' := 61) c32_58 (by decide) mt31 rfl (Nat.le_of_ble_eq_true rfl) rfl rfl (Nat.le_of_ble_eq_true rfl) rfl rfl).trans (wp_congr (fun r w1 => wp_msk lvok32 rfl)))) ((w_swnil).trans ((w_iload_n (pc' := 71) c32_70 rfl rfl).trans (w_iret c32_71 rfl))))))))))))
theorem b32_37 {X : Nat × (Nat → Int32)} {d : Nat} {I : Nat → Nat → Int32} {L : Nat → Nat → Int64} {Q : Option Value → XW → Prop} {s0 : Int32} {s1 : Int32}  : wp X d m32 37 [none, none] [(.int s1), (.int s0)] (K0, R0, I, L) Q ↔ Q (some (.int (s0 ||| s1))) (K0, R0, I, L) := (w_ior (pc' := 38) c32_37 rfl).trans (w_iret c32_38 rfl)
theorem b32_43 {X : Nat × (Nat → Int32)} {d : Nat} {I : Nat → Nat → Int32} {L : Nat → Nat → Int64} {Q : Option Value → XW → Prop} {s0 : Int32}  : wp X d m32 43 [none, none] [(.int s0)] (K0, R0, I, L) Q ↔ Q (some (.int s0)) (K0, R0, I, L) := w_iret c32_43 rfl
theorem b32_48 {X : Nat × (Nat → Int32)} {d : Nat} {I : Nat → Nat → Int32} {L : Nat → Nat → Int64} {Q : Option Value → XW → Prop} {x1 : Int32} {s0 : Int32}  : wp X d m32 48 [none, some (.int x1)] [(.int s0)] (K0, R0, I, L) Q ↔ Q (some (.int (s0 ||| ((x1 &&& (273 : Int32)) <<< ((3 : Int32) &&& 31))))) (K0, R0, I, L) := (w_iload_n (pc' := 49) c32_48 rfl rfl).trans ((w_sipush (pc' := 52) (v := 273) c32_49 rfl rfl).trans ((w_iand (pc' := 53) c32_52 rfl).trans ((w_iconst (pc' := 54) (v := 3) c32_53 rfl rfl).trans ((w_ishl (pc' := 55) c32_54 rfl).trans ((w_ior (pc' := 56) c32_55 rfl).trans (w_iret c32_56 rfl))))))
theorem b32_61 {X : Nat × (Nat → Int32)} {d : Nat} {I : Nat → Nat → Int32} {L : Nat → Nat → Int64} {Q : Option Value → XW → Prop} {x1 : Int32} {s0 : Int32}  : wp X d m32 61 [none, some (.int x1)] [(.int s0)] (K0, R0, I, L) Q ↔ Q (some (.int (s0 ||| ((x1 &&& (15 : Int32)) <<< ((8 : Int32) &&& 31))))) (K0, R0, I, L) := (w_iload_n (pc' := 62) c32_61 rfl rfl).trans ((w_bipush (pc' := 64) (v := 15) c32_62 rfl rfl).trans ((w_iand (pc' := 65) c32_64 rfl).trans ((w_bipush (pc' := 67) (v := 8) c32_65 rfl rfl).trans ((w_ishl (pc' := 68) c32_67 rfl).trans ((w_ior (pc' := 69) c32_68 rfl).trans (w_iret c32_69 rfl))))))
-- LeavesObject$Leaves.filled(I)I
theorem c33_0 : cdx (mC m33) 0 = some (0, .iload_n 0, 1, 0, 0, 0, 0, []) := rfl
theorem c33_1 : cdx (mC m33) 1 = some (1, .invokestatic 9, 3, 27, 1, 4, 2103, []) := rfl
theorem c33_4 : cdx (mC m33) 4 = some (4, .istore_n 1, 1, 1, 0, 0, 0, []) := rfl
theorem c33_5 : cdx (mC m33) 5 = some (5, .iload_n 0, 1, 0, 0, 0, 0, []) := rfl
theorem c33_6 : cdx (mC m33) 6 = some (6, .invokestatic 15, 3, 29, 1, 4, 2109, []) := rfl
theorem c33_9 : cdx (mC m33) 9 = some (9, .istore_n 2, 1, 2, 0, 0, 0, []) := rfl
theorem c33_10 : cdx (mC m33) 10 = some (10, .iload_n 0, 1, 0, 0, 0, 0, []) := rfl
theorem c33_11 : cdx (mC m33) 11 = some (11, .invokestatic 18, 3, 30, 1, 4, 2112, []) := rfl
theorem c33_14 : cdx (mC m33) 14 = some (14, .istore_n 3, 1, 3, 0, 0, 0, []) := rfl
theorem c33_15 : cdx (mC m33) 15 = some (15, .iload_n 0, 1, 0, 0, 0, 0, []) := rfl
theorem c33_16 : cdx (mC m33) 16 = some (16, .invokestatic 21, 3, 31, 1, 4, 2115, []) := rfl
theorem c33_19 : cdx (mC m33) 19 = some (19, .istore 4, 2, 4, 0, 0, 0, []) := rfl
theorem c33_21 : cdx (mC m33) 21 = some (21, .iload_n 0, 1, 0, 0, 0, 0, []) := rfl
theorem c33_22 : cdx (mC m33) 22 = some (22, .iload_n 1, 1, 1, 0, 0, 0, []) := rfl
theorem c33_23 : cdx (mC m33) 23 = some (23, .iload_n 2, 1, 2, 0, 0, 0, []) := rfl
theorem c33_24 : cdx (mC m33) 24 = some (24, .iand, 1, 0, 0, 0, 0, []) := rfl
theorem c33_25 : cdx (mC m33) 25 = some (25, .ior, 1, 0, 0, 0, 0, []) := rfl
theorem c33_26 : cdx (mC m33) 26 = some (26, .iload_n 3, 1, 3, 0, 0, 0, []) := rfl
theorem c33_27 : cdx (mC m33) 27 = some (27, .iload 4, 2, 4, 0, 0, 0, []) := rfl
theorem c33_29 : cdx (mC m33) 29 = some (29, .iand, 1, 0, 0, 0, 0, []) := rfl
theorem c33_30 : cdx (mC m33) 30 = some (30, .ior, 1, 0, 0, 0, 0, []) := rfl
theorem c33_31 : cdx (mC m33) 31 = some (31, .iload_n 1, 1, 1, 0, 0, 0, []) := rfl
theorem c33_32 : cdx (mC m33) 32 = some (32, .iload_n 2, 1, 2, 0, 0, 0, []) := rfl
theorem c33_33 : cdx (mC m33) 33 = some (33, .ior, 1, 0, 0, 0, 0, []) := rfl
theorem c33_34 : cdx (mC m33) 34 = some (34, .iload_n 3, 1, 3, 0, 0, 0, []) := rfl
theorem c33_35 : cdx (mC m33) 35 = some (35, .iload 4, 2, 4, 0, 0, 0, []) := rfl
theorem c33_37 : cdx (mC m33) 37 = some (37, .ior, 1, 0, 0, 0, 0, []) := rfl
theorem c33_38 : cdx (mC m33) 38 = some (38, .iand, 1, 0, 0, 0, 0, []) := rfl
theorem c33_39 : cdx (mC m33) 39 = some (39, .ior, 1, 0, 0, 0, 0, []) := rfl
theorem c33_40 : cdx (mC m33) 40 = some (40, .ireturn, 1, 0, 0, 0, 0, []) := rfl
theorem b33_0 {X : Nat × (Nat → Int32)} {d : Nat} {I : Nat → Nat → Int32} {L : Nat → Nat → Int64} {Q : Option Value → XW → Prop} {x0 : Int32}  : wp X (d + 1) m33 0 [some (.int x0), none, none, none, none] [] (K0, R0, I, L) Q ↔ wp X d m27 0 [some (.int x0)] [] (K0, R0, I, L) (fun r w1 => wp X (d + 1) m33 4 [some (.int x0), none, none, none, none] (r.toList ++ []) w1 Q) := (w_iload_n (pc' := 1) c33_0 rfl rfl).trans ((w_callst (pc' := 4) c33_1 (by decide) mt27 rfl (Nat.le_of_ble_eq_true rfl) rfl rfl (Nat.le_of_ble_eq_true rfl) rfl rfl))
theorem b33_4 {X : Nat × (Nat → Int32)} {d : Nat} {I : Nat → Nat → Int32} {L : Nat → Nat → Int64} {Q : Option Value → XW → Prop} {x0 : Int32} {s0 : Int32}  : wp X (d + 1) m33 4 [some (.int x0), none, none, none, none] [(.int s0)] (K0, R0, I, L) Q ↔ wp X d m29 0 [some (.int x0)] [] (K0, R0, I, L) (fun r w1 => wp X (d + 1) m33 9 [some (.int x0), some (.int s0), none, none, none] (r.toList ++ []) w1 Q) := (w_istore_n (pc' := 5) (ls' := [some (.int x0), some (.int s0), none, none, none]) c33_4 (Nat.le_of_ble_eq_true rfl) rfl rfl).trans ((w_iload_n (pc' := 6) c33_5 rfl rfl).trans ((w_callst (pc' := 9) c33_6 (by decide) mt29 rfl (Nat.le_of_ble_eq_true rfl) rfl rfl (Nat.le_of_ble_eq_true rfl) rfl rfl)))
theorem b33_9 {X : Nat × (Nat → Int32)} {d : Nat} {I : Nat → Nat → Int32} {L : Nat → Nat → Int64} {Q : Option Value → XW → Prop} {x0 : Int32} {x1 : Int32} {s0 : Int32}  : wp X (d + 1) m33 9 [some (.int x0), some (.int x1), none, none, none] [(.int s0)] (K0, R0, I, L) Q ↔ wp X d m30 0 [some (.int x0)] [] (K0, R0, I, L) (fun r w1 => wp X (d + 1) m33 14 [some (.int x0), some (.int x1), some (.int s0), none, none] (r.toList ++ []) w1 Q) := (w_istore_n (pc' := 10) (ls' := [some (.int x0), some (.int x1), some (.int s0), none, none]) c33_9 (Nat.le_of_ble_eq_true rfl) rfl rfl).trans ((w_iload_n (pc' := 11) c33_10 rfl rfl).trans ((w_callst (pc' := 14) c33_11 (by decide) mt30 rfl (Nat.le_of_ble_eq_true rfl) rfl rfl (Nat.le_of_ble_eq_true rfl) rfl rfl)))
theorem b33_14 {X : Nat × (Nat → Int32)} {d : Nat} {I : Nat → Nat → Int32} {L : Nat → Nat → Int64} {Q : Option Value → XW → Prop} {x0 : Int32} {x1 : Int32} {x2 : Int32} {s0 : Int32}  : wp X (d + 1) m33 14 [some (.int x0), some (.int x1), some (.int x2), none, none] [(.int s0)] (K0, R0, I, L) Q ↔ wp X d m31 0 [some (.int x0)] [] (K0, R0, I, L) (fun r w1 => wp X (d + 1) m33 19 [some (.int x0), some (.int x1), some (.int x2), some (.int s0), none] (r.toList ++ []) w1 Q) := (w_istore_n (pc' := 15) (ls' := [some (.int x0), some (.int x1), some (.int x2), some (.int s0), none]) c33_14 (Nat.le_of_ble_eq_true rfl) rfl rfl).trans ((w_iload_n (pc' := 16) c33_15 rfl rfl).trans ((w_callst (pc' := 19) c33_16 (by decide) mt31 rfl (Nat.le_of_ble_eq_true rfl) rfl rfl (Nat.le_of_ble_eq_true rfl) rfl rfl)))
theorem b33_19 {X : Nat × (Nat → Int32)} {d : Nat} {I : Nat → Nat → Int32} {L : Nat → Nat → Int64} {Q : Option Value → XW → Prop} {x0 : Int32} {x1 : Int32} {x2 : Int32} {x3 : Int32} {s0 : Int32}  : wp X d m33 19 [some (.int x0), some (.int x1), some (.int x2), some (.int x3), none] [(.int s0)] (K0, R0, I, L) Q ↔ Q (some (.int (((x0 ||| (x1 &&& x2)) ||| (x3 &&& s0)) ||| ((x1 ||| x2) &&& (x3 ||| s0))))) (K0, R0, I, L) := (w_istore (pc' := 21) (ls' := [some (.int x0), some (.int x1), some (.int x2), some (.int x3), some (.int s0)]) c33_19 (Nat.le_of_ble_eq_true rfl) rfl rfl).trans ((w_iload_n (pc' := 22) c33_21 rfl rfl).trans ((w_iload_n (pc' := 23) c33_22 rfl rfl).trans ((w_iload_n (pc' := 24) c33_23 rfl rfl).trans ((w_iand (pc' := 25) c33_24 rfl).trans ((w_ior (pc' := 26) c33_25 rfl).trans ((w_iload_n (pc' := 27) c33_26 rfl rfl).trans ((w_iload (pc' := 29) c33_27 rfl rfl).trans ((w_iand (pc' := 30) c33_29 rfl).trans ((w_ior (pc' := 31) c33_30 rfl).trans ((w_iload_n (pc' := 32) c33_31 rfl rfl).trans ((w_iload_n (pc' := 33) c33_32 rfl rfl).trans ((w_ior (pc' := 34) c33_33 rfl).trans ((w_iload_n (pc' := 35) c33_34 rfl rfl).trans ((w_iload (pc' := 37) c33_35 rfl rfl).trans ((w_ior (pc' := 38) c33_37 rfl).trans ((w_iand (pc' := 39) c33_38 rfl).trans ((w_ior (pc' := 40) c33_39 rfl).trans (w_iret c33_40 rfl))))))))))))))))))
-- LeavesObject$Cup.lineAt(I)I
theorem c34_0 : cdx (mC m34) 0 = some (0, .iload_n 1, 1, 1, 0, 0, 0, []) := rfl
theorem c34_1 : cdx (mC m34) 1 = some (1, .ifCond .lt 21, 3, 22, 0, 0, 0, []) := rfl
theorem c34_4 : cdx (mC m34) 4 = some (4, .iload_n 1, 1, 1, 0, 0, 0, []) := rfl
theorem c34_5 : cdx (mC m34) 5 = some (5, .aload_n 0, 1, 0, 0, 0, 0, []) := rfl
theorem c34_6 : cdx (mC m34) 6 = some (6, .getfield 9, 3, 1, 6, 0, 1085, []) := rfl
theorem c34_9 : cdx (mC m34) 9 = some (9, .arraylength, 1, 0, 0, 0, 0, []) := rfl
theorem c34_10 : cdx (mC m34) 10 = some (10, .if_icmp .ge 12, 3, 22, 0, 0, 0, []) := rfl
theorem c34_13 : cdx (mC m34) 13 = some (13, .aload_n 0, 1, 0, 0, 0, 0, []) := rfl
theorem c34_14 : cdx (mC m34) 14 = some (14, .getfield 9, 3, 1, 6, 0, 1085, []) := rfl
theorem c34_17 : cdx (mC m34) 17 = some (17, .iload_n 1, 1, 1, 0, 0, 0, []) := rfl
theorem c34_18 : cdx (mC m34) 18 = some (18, .iaload, 1, 0, 0, 0, 0, []) := rfl
theorem c34_19 : cdx (mC m34) 19 = some (19, .goto 4, 3, 23, 0, 0, 0, []) := rfl
theorem c34_22 : cdx (mC m34) 22 = some (22, .iconst 0, 1, 0, 0, 0, 0, []) := rfl
theorem c34_23 : cdx (mC m34) 23 = some (23, .ireturn, 1, 0, 0, 0, 0, []) := rfl
theorem b34_0 {X : Nat × (Nat → Int32)} {d : Nat} {I : Nat → Nat → Int32} {L : Nat → Nat → Int64} {Q : Option Value → XW → Prop} {r0 : Nat} {x1 : Int32} (hr0 : isCup r0) : wp X d m34 0 [some (.ref r0), some (.int x1)] [] (K0, R0, I, L) Q ↔ (if x1 < 0 then Q (some (.int 0)) (K0, R0, I, L) else (if x1 < 4 then (inA x1 4 = true ∧ Q (some (.int (I (r0 + 1) (Int32.toNatClampNeg x1)))) (K0, R0, I, L)) else Q (some (.int 0)) (K0, R0, I, L))) := (w_iload_n (pc' := 1) c34_0 rfl rfl).trans ((w_if_lt (pc' := 4) c34_1 rfl).trans (ite_iff ((w_iconst (pc' := 23) (v := 0) c34_22 rfl rfl).trans (w_iret c34_23 rfl)) ((w_iload_n (pc' := 5) c34_4 rfl rfl).trans ((w_aload_n (pc' := 6) c34_5 rfl rfl).trans ((w_getR (pc' := 9) (q := (r0 + 1)) c34_6 hr0.1 (by decide) rfl hr0.2.1 rfl).trans ((w_alen (pc' := 10) (v := 4) c34_9 hr0.2.2 rfl rfl).trans ((w_icmp_ge (pc' := 13) c34_10 rfl).trans (ite_iff ((w_aload_n (pc' := 14) c34_13 rfl rfl).trans ((w_getR (pc' := 17) (q := (r0 + 1)) c34_14 hr0.1 (by decide) rfl hr0.2.1 rfl).trans ((w_iload_n (pc' := 18) c34_17 rfl rfl).trans ((w_ialdv (pc' := 19) (v := (I (r0 + 1) (Int32.toNatClampNeg x1))) c34_18 hr0.2.2 (rfl) rfl).trans (and_congr_right (fun _ => (w_goto c34_19).trans (w_iret c34_23 rfl))))))) ((w_iconst (pc' := 23) (v := 0) c34_22 rfl rfl).trans (w_iret c34_23 rfl))))))))))
-- LeavesObject.set(III)I
theorem c35_0 : cdx (mC m35) 0 = some (0, .aload_n 0, 1, 0, 0, 0, 0, []) := rfl
theorem c35_1 : cdx (mC m35) 1 = some (1, .getfield 12, 3, 9, 0, 0, 1239, []) := rfl
theorem c35_4 : cdx (mC m35) 4 = some (4, .iload_n 1, 1, 1, 0, 0, 0, []) := rfl
theorem c35_5 : cdx (mC m35) 5 = some (5, .invokevirtual 92, 3, 17, 1, 0, 2061, [(5, 0)]) := rfl
theorem c35_8 : cdx (mC m35) 8 = some (8, .astore 4, 2, 4, 0, 0, 0, []) := rfl
theorem c35_10 : cdx (mC m35) 10 = some (10, .aload 4, 2, 4, 0, 0, 0, []) := rfl
theorem c35_12 : cdx (mC m35) 12 = some (12, .ifnull 12, 3, 24, 0, 0, 0, []) := rfl
theorem c35_15 : cdx (mC m35) 15 = some (15, .iload_n 2, 1, 2, 0, 0, 0, []) := rfl
theorem c35_16 : cdx (mC m35) 16 = some (16, .ifCond .lt 8, 3, 24, 0, 0, 0, []) := rfl
theorem c35_19 : cdx (mC m35) 19 = some (19, .iload_n 2, 1, 2, 0, 0, 0, []) := rfl
theorem c35_20 : cdx (mC m35) 20 = some (20, .iconst 1, 1, 0, 0, 0, 0, []) := rfl
theorem c35_21 : cdx (mC m35) 21 = some (21, .if_icmp .le 5, 3, 26, 0, 0, 0, []) := rfl
theorem c35_24 : cdx (mC m35) 24 = some (24, .iconst (-1), 1, 0, 0, 0, 0, []) := rfl
theorem c35_25 : cdx (mC m35) 25 = some (25, .ireturn, 1, 0, 0, 0, 0, []) := rfl
theorem c35_26 : cdx (mC m35) 26 = some (26, .iload_n 2, 1, 2, 0, 0, 0, []) := rfl
theorem c35_27 : cdx (mC m35) 27 = some (27, .ifCond .ne 13, 3, 40, 0, 0, 0, []) := rfl
theorem c35_30 : cdx (mC m35) 30 = some (30, .iload_n 3, 1, 3, 0, 0, 0, []) := rfl
theorem c35_31 : cdx (mC m35) 31 = some (31, .invokestatic 74, 3, 12, 1, 4, 2043, []) := rfl
theorem c35_34 : cdx (mC m35) 34 = some (34, .ifCond .ne 16, 3, 50, 0, 0, 0, []) := rfl
theorem c35_37 : cdx (mC m35) 37 = some (37, .goto 10, 3, 47, 0, 0, 0, []) := rfl
theorem c35_40 : cdx (mC m35) 40 = some (40, .iload_n 3, 1, 3, 0, 0, 0, []) := rfl
theorem c35_41 : cdx (mC m35) 41 = some (41, .invokestatic 70, 3, 11, 1, 4, 2040, []) := rfl
theorem c35_44 : cdx (mC m35) 44 = some (44, .ifCond .ne 6, 3, 50, 0, 0, 0, []) := rfl
theorem c35_47 : cdx (mC m35) 47 = some (47, .bipush (-2), 2, 0, 0, 0, 0, []) := rfl
theorem c35_49 : cdx (mC m35) 49 = some (49, .ireturn, 1, 0, 0, 0, 0, []) := rfl
theorem c35_50 : cdx (mC m35) 50 = some (50, .iload_n 2, 1, 2, 0, 0, 0, []) := rfl
theorem c35_51 : cdx (mC m35) 51 = some (51, .ifCond .ne 11, 3, 62, 0, 0, 0, []) := rfl
theorem c35_54 : cdx (mC m35) 54 = some (54, .aload 4, 2, 4, 0, 0, 0, []) := rfl
theorem c35_56 : cdx (mC m35) 56 = some (56, .getfield 119, 3, 1, 3, 0, 1076, []) := rfl
theorem c35_59 : cdx (mC m35) 59 = some (59, .goto 8, 3, 67, 0, 0, 0, []) := rfl
theorem c35_62 : cdx (mC m35) 62 = some (62, .aload 4, 2, 4, 0, 0, 0, []) := rfl
theorem c35_64 : cdx (mC m35) 64 = some (64, .getfield 122, 3, 1, 4, 0, 1081, []) := rfl
theorem c35_67 : cdx (mC m35) 67 = some (67, .istore 5, 2, 5, 0, 0, 0, []) := rfl
theorem c35_69 : cdx (mC m35) 69 = some (69, .iload_n 2, 1, 2, 0, 0, 0, []) := rfl
theorem c35_70 : cdx (mC m35) 70 = some (70, .ifCond .ne 12, 3, 82, 0, 0, 0, []) := rfl
theorem c35_73 : cdx (mC m35) 73 = some (73, .aload 4, 2, 4, 0, 0, 0, []) := rfl
theorem c35_75 : cdx (mC m35) 75 = some (75, .iload_n 3, 1, 3, 0, 0, 0, []) := rfl
theorem c35_76 : cdx (mC m35) 76 = some (76, .putfield 119, 3, 1, 3, 0, 1076, []) := rfl
theorem c35_79 : cdx (mC m35) 79 = some (79, .goto 9, 3, 88, 0, 0, 0, []) := rfl
theorem c35_82 : cdx (mC m35) 82 = some (82, .aload 4, 2, 4, 0, 0, 0, []) := rfl
theorem c35_84 : cdx (mC m35) 84 = some (84, .iload_n 3, 1, 3, 0, 0, 0, []) := rfl
theorem c35_85 : cdx (mC m35) 85 = some (85, .putfield 122, 3, 1, 4, 0, 1081, []) := rfl
theorem c35_88 : cdx (mC m35) 88 = some (88, .iload 5, 2, 5, 0, 0, 0, []) := rfl
theorem c35_90 : cdx (mC m35) 90 = some (90, .ireturn, 1, 0, 0, 0, 0, []) := rfl
def lv35 : List (Nat × List Nat) := [(0, [0, 1, 2, 3]), (1, [1, 2, 3]), (4, [1, 2, 3]), (5, [2, 3]), (8, [2, 3]), (10, [2, 3, 4]), (12, [2, 3, 4]), (15, [2, 3, 4]), (16, [2, 3, 4]), (19, [2, 3, 4]), (20, [2, 3, 4]), (21, [2, 3, 4]), (26, [2, 3, 4]), (27, [2, 3, 4]), (30, [2, 3, 4]), (31, [2, 3, 4]), (34, [2, 3, 4]), (40, [2, 3, 4]), (41, [2, 3, 4]), (44, [2, 3, 4]), (50, [2, 3, 4]), (51, [2, 3, 4]), (54, [2, 3, 4]), (56, [2, 3, 4]), (59, [2, 3, 4]), (62, [2, 3, 4]), (64, [2, 3, 4]), (67, [2, 3, 4]), (69, [2, 3, 4, 5]), (70, [3, 4, 5]), (73, [3, 4, 5]), (75, [3, 5]), (76, [5]), (79, [5]), (82, [3, 4, 5]), (84, [3, 5]), (85, [5]), (88, [5])]
theorem lvok35 : lvOk (mC m35) lv35 = true := by decide +kernel
theorem b35_0 {X : Nat × (Nat → Int32)} {d : Nat} {I : Nat → Nat → Int32} {L : Nat → Nat → Int64} {Q : Option Value → XW → Prop} {x1 : Int32} {x2 : Int32} {x3 : Int32}  : wp X (d + 1) m35 0 [some (.ref 0), some (.int x1), some (.int x2), some (.int x3), none, none] [] (K0, R0, I, L) Q ↔ wp X d m17 0 [some (.ref 1), some (.int x1)] [] (K0, R0, I, L) (fun r w1 => wp X (d + 1) m35 8 [none, none, some (.int x2), some (.int x3), none, none] (r.toList ++ []) w1 Q) := (w_aload_n (pc' := 1) c35_0 rfl rfl).trans ((w_getR (pc' := 4) (q := 1) c35_1 kd_0 (by decide) rfl rd_0_0 rfl).trans ((w_iload_n (pc' := 5) c35_4 rfl rfl).trans ((w_callv (pc' := 8) c35_5 mt17 rfl (Nat.le_of_ble_eq_true rfl) rfl tbl_1.1 rfl rfl (Nat.le_of_ble_eq_true rfl) rfl rfl).trans (wp_congr (fun r w1 => wp_msk lvok35 rfl)))))
theorem b35_8 {X : Nat × (Nat → Int32)} {d : Nat} {I : Nat → Nat → Int32} {L : Nat → Nat → Int64} {Q : Option Value → XW → Prop} {x2 : Int32} {x3 : Int32} {q0 : Nat} (hq0 : isCup q0) : wp X (d + 1) m35 8 [none, none, some (.int x2), some (.int x3), none, none] [(.ref q0)] (K0, R0, I, L) Q ↔ (if x2 < 0 then Q (some (.int (-1))) (K0, R0, I, L) else (if 1 < x2 then Q (some (.int (-1))) (K0, R0, I, L) else (if x2 = 0 then wp X d m12 0 [some (.int x3)] [] (K0, R0, I, L) (fun r w1 => wp X (d + 1) m35 34 [none, none, some (.int x2), some (.int x3), some (.ref q0), none] (r.toList ++ []) w1 Q) else wp X d m11 0 [some (.int x3)] [] (K0, R0, I, L) (fun r w1 => wp X (d + 1) m35 44 [none, none, some (.int x2), some (.int x3), some (.ref q0), none] (r.toList ++ []) w1 Q)))) := (w_astore (pc' := 10) (ls' := [none, none, some (.int x2), some (.int x3), some (.ref q0), none]) c35_8 (Nat.le_of_ble_eq_true rfl) rfl rfl).trans ((w_aload (pc' := 12) c35_10 rfl rfl).trans ((w_ifnull (pc' := 15) c35_12 (k_lt hq0.1) rfl).trans ((w_iload_n (pc' := 16) c35_15 rfl rfl).trans ((w_if_lt (pc' := 19) c35_16 rfl).trans (ite_iff ((w_iconst (pc' := 25) (v := (-1)) c35_24 rfl rfl).trans (w_iret c35_25 rfl)) ((w_iload_n (pc' := 20) c35_19 rfl rfl).trans ((w_iconst (pc' := 21) (v := 1) c35_20 rfl rfl).trans ((w_icmp_le (pc' := 24) c35_21 rfl).trans (ite_iff ((w_iconst (pc' := 25) (v := (-1)) c35_24 rfl rfl).trans (w_iret c35_25 rfl)) ((w_iload_n (pc' := 27) c35_26 rfl rfl).trans ((w_if_ne (pc' := 30) c35_27 rfl).trans (ite_iff ((w_iload_n (pc' := 31) c35_30 rfl rfl).trans ((w_callst (pc' := 34) c35_31 (by decide) mt12 rfl (Nat.le_of_ble_eq_true rfl) rfl rfl (Nat.le_of_ble_eq_true rfl) rfl rfl))) ((w_iload_n (pc' := 41) c35_40 rfl rfl).trans ((w_callst (pc' := 44) c35_41 (by decide) mt11 rfl (Nat.le_of_ble_eq_true rfl) rfl rfl (Nat.le_of_ble_eq_true rfl) rfl rfl)))))))))))))))
theorem b35_8_1 {X : Nat × (Nat → Int32)} {d : Nat} {I : Nat → Nat → Int32} {L : Nat → Nat → Int64} {Q : Option Value → XW → Prop} {x2 : Int32} {x3 : Int32}  : wp X d m35 8 [none, none, some (.int x2), some (.int x3), none, none] [.null] (K0, R0, I, L) Q ↔ Q (some (.int (-1))) (K0, R0, I, L) := (w_astoreN (pc' := 10) (ls' := [none, none, some (.int x2), some (.int x3), some .null, none]) c35_8 (Nat.le_of_ble_eq_true rfl) rfl rfl).trans ((w_aloadN (pc' := 12) c35_10 rfl rfl).trans ((w_ifnullN c35_12).trans ((w_iconst (pc' := 25) (v := (-1)) c35_24 rfl rfl).trans (w_iret c35_25 rfl))))
theorem b35_34 {X : Nat × (Nat → Int32)} {d : Nat} {I : Nat → Nat → Int32} {L : Nat → Nat → Int64} {Q : Option Value → XW → Prop} {x2 : Int32} {x3 : Int32} {r4 : Nat} {s0 : Int32} (hr4 : isCup r4) : wp X d m35 34 [none, none, some (.int x2), some (.int x3), some (.ref r4), none] [(.int s0)] (K0, R0, I, L) Q ↔ (if s0 = 0 then Q (some (.int (-2))) (K0, R0, I, L) else wp X d m35 50 [none, none, some (.int x2), some (.int x3), some (.ref r4), none] [] (K0, R0, I, L) Q) := (w_if_ne (pc' := 37) c35_34 rfl).trans (ite_iff ((w_goto c35_37).trans ((w_bipush (pc' := 49) (v := (-2)) c35_47 rfl rfl).trans (w_iret c35_49 rfl))) (Iff.rfl))
theorem b35_44 {X : Nat × (Nat → Int32)} {d : Nat} {I : Nat → Nat → Int32} {L : Nat → Nat → Int64} {Q : Option Value → XW → Prop} {x2 : Int32} {x3 : Int32} {r4 : Nat} {s0 : Int32} (hr4 : isCup r4) : wp X d m35 44 [none, none, some (.int x2), some (.int x3), some (.ref r4), none] [(.int s0)] (K0, R0, I, L) Q ↔ (if s0 = 0 then Q (some (.int (-2))) (K0, R0, I, L) else wp X d m35 50 [none, none, some (.int x2), some (.int x3), some (.ref r4), none] [] (K0, R0, I, L) Q) := (w_if_ne (pc' := 47) c35_44 rfl).trans (ite_iff ((w_bipush (pc' := 49) (v := (-2)) c35_47 rfl rfl).trans (w_iret c35_49 rfl)) (Iff.rfl))
theorem b35_50 {X : Nat × (Nat → Int32)} {d : Nat} {I : Nat → Nat → Int32} {L : Nat → Nat → Int64} {Q : Option Value → XW → Prop} {x2 : Int32} {x3 : Int32} {r4 : Nat} (hr4 : isCup r4) : wp X d m35 50 [none, none, some (.int x2), some (.int x3), some (.ref r4), none] [] (K0, R0, I, L) Q ↔ (if x2 = 0 then (if x2 = 0 then Q (some (.int (I r4 3))) (K0, R0, (updR I r4 3 x3), L) else Q (some (.int (I r4 3))) (K0, R0, (updR I r4 4 x3), L)) else (if x2 = 0 then Q (some (.int (I r4 4))) (K0, R0, (updR I r4 3 x3), L) else Q (some (.int (I r4 4))) (K0, R0, (updR I r4 4 x3), L))) := (w_iload_n (pc' := 51) c35_50 rfl rfl).trans ((w_if_ne (pc' := 54) c35_51 rfl).trans (ite_iff ((w_aload (pc' := 56) c35_54 rfl rfl).trans ((w_getIv (pc' := 59) (v := (I r4 3)) c35_56 hr4.1 (by decide) rfl (rfl) rfl).trans ((w_goto c35_59).trans ((w_istore (pc' := 69) (ls' := [none, none, some (.int x2), some (.int x3), some (.ref r4), some (.int (I r4 3))]) c35_67 (Nat.le_of_ble_eq_true rfl) rfl rfl).trans ((w_iload_n (pc' := 70) c35_69 rfl rfl).trans ((w_if_ne (pc' := 73) c35_70 rfl).trans (ite_iff ((w_aload (pc' := 75) c35_73 rfl rfl).trans ((w_iload_n (pc' := 76) c35_75 rfl rfl).trans ((w_putI (pc' := 79) c35_76 hr4.1 (by decide) rfl rfl rfl).trans ((w_goto c35_79).trans ((w_iload (pc' := 90) c35_88 rfl rfl).trans (w_iret c35_90 rfl)))))) ((w_aload (pc' := 84) c35_82 rfl rfl).trans ((w_iload_n (pc' := 85) c35_84 rfl rfl).trans ((w_putI (pc' := 88) c35_85 hr4.1 (by decide) rfl rfl rfl).trans ((w_iload (pc' := 90) c35_88 rfl rfl).trans (w_iret c35_90 rfl)))))))))))) ((w_aload (pc' := 64) c35_62 rfl rfl).trans ((w_getIv (pc' := 67) (v := (I r4 4)) c35_64 hr4.1 (by decide) rfl (rfl) rfl).trans ((w_istore (pc' := 69) (ls' := [none, none, some (.int x2), some (.int x3), some (.ref r4), some (.int (I r4 4))]) c35_67 (Nat.le_of_ble_eq_true rfl) rfl rfl).trans ((w_iload_n (pc' := 70) c35_69 rfl rfl).trans ((w_if_ne (pc' := 73) c35_70 rfl).trans (ite_iff ((w_aload (pc' := 75) c35_73 rfl rfl).trans ((w_iload_n (pc' := 76) c35_75 rfl rfl).trans ((w_putI (pc' := 79) c35_76 hr4.1 (by decide) rfl rfl rfl).trans ((w_goto c35_79).trans ((w_iload (pc' := 90) c35_88 rfl rfl).trans (w_iret c35_90 rfl)))))) ((w_aload (pc' := 84) c35_82 rfl rfl).trans ((w_iload_n (pc' := 85) c35_84 rfl rfl).trans ((w_putI (pc' := 88) c35_85 hr4.1 (by decide) rfl rfl rfl).trans ((w_iload (pc' := 90) c35_88 rfl rfl).trans (w_iret c35_90 rfl)))))))))))))
-- LeavesObject.line(III)I
theorem c36_0 : cdx (mC m36) 0 = some (0, .aload_n 0, 1, 0, 0, 0, 0, []) := rfl
theorem c36_1 : cdx (mC m36) 1 = some (1, .getfield 12, 3, 9, 0, 0, 1239, []) := rfl
theorem c36_4 : cdx (mC m36) 4 = some (4, .iload_n 1, 1, 1, 0, 0, 0, []) := rfl
theorem c36_5 : cdx (mC m36) 5 = some (5, .invokevirtual 92, 3, 17, 1, 0, 2061, [(5, 0)]) := rfl
theorem c36_8 : cdx (mC m36) 8 = some (8, .astore 4, 2, 4, 0, 0, 0, []) := rfl
theorem c36_10 : cdx (mC m36) 10 = some (10, .aload 4, 2, 4, 0, 0, 0, []) := rfl
theorem c36_12 : cdx (mC m36) 12 = some (12, .ifnull 12, 3, 24, 0, 0, 0, []) := rfl
theorem c36_15 : cdx (mC m36) 15 = some (15, .iload_n 2, 1, 2, 0, 0, 0, []) := rfl
theorem c36_16 : cdx (mC m36) 16 = some (16, .ifCond .lt 8, 3, 24, 0, 0, 0, []) := rfl
theorem c36_19 : cdx (mC m36) 19 = some (19, .iload_n 2, 1, 2, 0, 0, 0, []) := rfl
theorem c36_20 : cdx (mC m36) 20 = some (20, .iconst 4, 1, 0, 0, 0, 0, []) := rfl
theorem c36_21 : cdx (mC m36) 21 = some (21, .if_icmp .lt 5, 3, 26, 0, 0, 0, []) := rfl
theorem c36_24 : cdx (mC m36) 24 = some (24, .iconst (-1), 1, 0, 0, 0, 0, []) := rfl
theorem c36_25 : cdx (mC m36) 25 = some (25, .ireturn, 1, 0, 0, 0, 0, []) := rfl
theorem c36_26 : cdx (mC m36) 26 = some (26, .iload_n 3, 1, 3, 0, 0, 0, []) := rfl
theorem c36_27 : cdx (mC m36) 27 = some (27, .invokestatic 70, 3, 11, 1, 4, 2040, []) := rfl
theorem c36_30 : cdx (mC m36) 30 = some (30, .ifCond .ne 6, 3, 36, 0, 0, 0, []) := rfl
theorem c36_33 : cdx (mC m36) 33 = some (33, .bipush (-2), 2, 0, 0, 0, 0, []) := rfl
theorem c36_35 : cdx (mC m36) 35 = some (35, .ireturn, 1, 0, 0, 0, 0, []) := rfl
theorem c36_36 : cdx (mC m36) 36 = some (36, .aload 4, 2, 4, 0, 0, 0, []) := rfl
theorem c36_38 : cdx (mC m36) 38 = some (38, .getfield 113, 3, 1, 1, 0, 1067, []) := rfl
theorem c36_41 : cdx (mC m36) 41 = some (41, .bipush 6, 2, 0, 0, 0, 0, []) := rfl
theorem c36_43 : cdx (mC m36) 43 = some (43, .if_icmp .eq 6, 3, 49, 0, 0, 0, []) := rfl
theorem c36_46 : cdx (mC m36) 46 = some (46, .bipush (-3), 2, 0, 0, 0, 0, []) := rfl
theorem c36_48 : cdx (mC m36) 48 = some (48, .ireturn, 1, 0, 0, 0, 0, []) := rfl
theorem c36_49 : cdx (mC m36) 49 = some (49, .aload 4, 2, 4, 0, 0, 0, []) := rfl
theorem c36_51 : cdx (mC m36) 51 = some (51, .iload_n 2, 1, 2, 0, 0, 0, []) := rfl
theorem c36_52 : cdx (mC m36) 52 = some (52, .invokevirtual 128, 3, 34, 1, 0, 2137, [(1, 0)]) := rfl
theorem c36_55 : cdx (mC m36) 55 = some (55, .istore 5, 2, 5, 0, 0, 0, []) := rfl
theorem c36_57 : cdx (mC m36) 57 = some (57, .aload 4, 2, 4, 0, 0, 0, []) := rfl
theorem c36_59 : cdx (mC m36) 59 = some (59, .iload_n 2, 1, 2, 0, 0, 0, []) := rfl
theorem c36_60 : cdx (mC m36) 60 = some (60, .iload_n 3, 1, 3, 0, 0, 0, []) := rfl
theorem c36_61 : cdx (mC m36) 61 = some (61, .invokevirtual 132, 3, 37, 2, 0, 2138, [(1, 0)]) := rfl
theorem c36_64 : cdx (mC m36) 64 = some (64, .iload 5, 2, 5, 0, 0, 0, []) := rfl
theorem c36_66 : cdx (mC m36) 66 = some (66, .ireturn, 1, 0, 0, 0, 0, []) := rfl
def lv36 : List (Nat × List Nat) := [(0, [0, 1, 2, 3]), (1, [1, 2, 3]), (4, [1, 2, 3]), (5, [2, 3]), (8, [2, 3]), (10, [2, 3, 4]), (12, [2, 3, 4]), (15, [2, 3, 4]), (16, [2, 3, 4]), (19, [2, 3, 4]), (20, [2, 3, 4]), (21, [2, 3, 4]), (26, [2, 3, 4]), (27, [2, 3, 4]), (30, [2, 3, 4]), (36, [2, 3, 4]), (38, [2, 3, 4]), (41, [2, 3, 4]), (43, [2, 3, 4]), (49, [2, 3, 4]), (51, [2, 3, 4]), (52, [2, 3, 4]), (55, [2, 3, 4]), (57, [2, 3, 4, 5]), (59, [2, 3, 5]), (60, [3, 5]), (61, [5]), (64, [5])]
theorem lvok36 : lvOk (mC m36) lv36 = true := by decide +kernel
theorem b36_0 {X : Nat × (Nat → Int32)} {d : Nat} {I : Nat → Nat → Int32} {L : Nat → Nat → Int64} {Q : Option Value → XW → Prop} {x1 : Int32} {x2 : Int32} {x3 : Int32}  : wp X (d + 1) m36 0 [some (.ref 0), some (.int x1), some (.int x2), some (.int x3), none, none] [] (K0, R0, I, L) Q ↔ wp X d m17 0 [some (.ref 1), some (.int x1)] [] (K0, R0, I, L) (fun r w1 => wp X (d + 1) m36 8 [none, none, some (.int x2), some (.int x3), none, none] (r.toList ++ []) w1 Q) := (w_aload_n (pc' := 1) c36_0 rfl rfl).trans ((w_getR (pc' := 4) (q := 1) c36_1 kd_0 (by decide) rfl rd_0_0 rfl).trans ((w_iload_n (pc' := 5) c36_4 rfl rfl).trans ((w_callv (pc' := 8) c36_5 mt17 rfl (Nat.le_of_ble_eq_true rfl) rfl tbl_1.1 rfl rfl (Nat.le_of_ble_eq_true rfl) rfl rfl).trans (wp_congr (fun r w1 => wp_msk lvok36 rfl)))))
theorem b36_8 {X : Nat × (Nat → Int32)} {d : Nat} {I : Nat → Nat → Int32} {L : Nat → Nat → Int64} {Q : Option Value → XW → Prop} {x2 : Int32} {x3 : Int32} {q0 : Nat} (hq0 : isCup q0) : wp X (d + 1) m36 8 [none, none, some (.int x2), some (.int x3), none, none] [(.ref q0)] (K0, R0, I, L) Q ↔ (if x2 < 0 then Q (some (.int (-1))) (K0, R0, I, L) else (if x2 < 4 then wp X d m11 0 [some (.int x3)] [] (K0, R0, I, L) (fun r w1 => wp X (d + 1) m36 30 [none, none, some (.int x2), some (.int x3), some (.ref q0), none] (r.toList ++ []) w1 Q) else Q (some (.int (-1))) (K0, R0, I, L))) := (w_astore (pc' := 10) (ls' := [none, none, some (.int x2), some (.int x3), some (.ref q0), none]) c36_8 (Nat.le_of_ble_eq_true rfl) rfl rfl).trans ((w_aload (pc' := 12) c36_10 rfl rfl).trans ((w_ifnull (pc' := 15) c36_12 (k_lt hq0.1) rfl).trans ((w_iload_n (pc' := 16) c36_15 rfl rfl).trans ((w_if_lt (pc' := 19) c36_16 rfl).trans (ite_iff ((w_iconst (pc' := 25) (v := (-1)) c36_24 rfl rfl).trans (w_iret c36_25 rfl)) ((w_iload_n (pc' := 20) c36_19 rfl rfl).trans ((w_iconst (pc' := 21) (v := 4) c36_20 rfl rfl).trans ((w_icmp_lt (pc' := 24) c36_21 rfl).trans (ite_iff ((w_iload_n (pc' := 27) c36_26 rfl rfl).trans ((w_callst (pc' := 30) c36_27 (by decide) mt11 rfl (Nat.le_of_ble_eq_true rfl) rfl rfl (Nat.le_of_ble_eq_true rfl) rfl rfl))) ((w_iconst (pc' := 25) (v := (-1)) c36_24 rfl rfl).trans (w_iret c36_25 rfl)))))))))))
theorem b36_8_1 {X : Nat × (Nat → Int32)} {d : Nat} {I : Nat → Nat → Int32} {L : Nat → Nat → Int64} {Q : Option Value → XW → Prop} {x2 : Int32} {x3 : Int32}  : wp X d m36 8 [none, none, some (.int x2), some (.int x3), none, none] [.null] (K0, R0, I, L) Q ↔ Q (some (.int (-1))) (K0, R0, I, L) := (w_astoreN (pc' := 10) (ls' := [none, none, some (.int x2), some (.int x3), some .null, none]) c36_8 (Nat.le_of_ble_eq_true rfl) rfl rfl).trans ((w_aloadN (pc' := 12) c36_10 rfl rfl).trans ((w_ifnullN c36_12).trans ((w_iconst (pc' := 25) (v := (-1)) c36_24 rfl rfl).trans (w_iret c36_25 rfl))))
theorem b36_30 {X : Nat × (Nat → Int32)} {d : Nat} {I : Nat → Nat → Int32} {L : Nat → Nat → Int64} {Q : Option Value → XW → Prop} {x2 : Int32} {x3 : Int32} {r4 : Nat} {s0 : Int32} (hr4 : isCup r4) : wp X (d + 1) m36 30 [none, none, some (.int x2), some (.int x3), some (.ref r4), none] [(.int s0)] (K0, R0, I, L) Q ↔ (if s0 = 0 then Q (some (.int (-2))) (K0, R0, I, L) else (if (I r4 1) = 6 then wp X d m34 0 [some (.ref r4), some (.int x2)] [] (K0, R0, I, L) (fun r w1 => wp X (d + 1) m36 55 [none, none, some (.int x2), some (.int x3), some (.ref r4), none] (r.toList ++ []) w1 Q) else Q (some (.int (-3))) (K0, R0, I, L))) := (w_if_ne (pc' := 33) c36_30 rfl).trans (ite_iff ((w_bipush (pc' := 35) (v := (-2)) c36_33 rfl rfl).trans (w_iret c36_35 rfl)) ((w_aload (pc' := 38) c36_36 rfl rfl).trans ((w_getIv (pc' := 41) (v := (I r4 1)) c36_38 hr4.1 (by decide) rfl (rfl) rfl).trans ((w_bipush (pc' := 43) (v := 6) c36_41 rfl rfl).trans ((w_icmp_eq (pc' := 46) c36_43 rfl).trans (ite_iff ((w_aload (pc' := 51) c36_49 rfl rfl).trans ((w_iload_n (pc' := 52) c36_51 rfl rfl).trans ((w_callv (pc' := 55) c36_52 mt34 rfl (Nat.le_of_ble_eq_true rfl) rfl hr4.1 rfl rfl (Nat.le_of_ble_eq_true rfl) rfl rfl)))) ((w_bipush (pc' := 48) (v := (-3)) c36_46 rfl rfl).trans (w_iret c36_48 rfl))))))))
theorem b36_55 {X : Nat × (Nat → Int32)} {d : Nat} {I : Nat → Nat → Int32} {L : Nat → Nat → Int64} {Q : Option Value → XW → Prop} {x2 : Int32} {x3 : Int32} {r4 : Nat} {s0 : Int32} (hr4 : isCup r4) : wp X (d + 1) m36 55 [none, none, some (.int x2), some (.int x3), some (.ref r4), none] [(.int s0)] (K0, R0, I, L) Q ↔ wp X d m37 0 [some (.ref r4), some (.int x2), some (.int x3)] [] (K0, R0, I, L) (fun r w1 => wp X (d + 1) m36 64 [none, none, none, none, none, some (.int s0)] (r.toList ++ []) w1 Q) := (w_istore (pc' := 57) (ls' := [none, none, some (.int x2), some (.int x3), some (.ref r4), some (.int s0)]) c36_55 (Nat.le_of_ble_eq_true rfl) rfl rfl).trans ((w_aload (pc' := 59) c36_57 rfl rfl).trans ((w_iload_n (pc' := 60) c36_59 rfl rfl).trans ((w_iload_n (pc' := 61) c36_60 rfl rfl).trans ((w_callv (pc' := 64) c36_61 mt37 rfl (Nat.le_of_ble_eq_true rfl) rfl hr4.1 rfl rfl (Nat.le_of_ble_eq_true rfl) rfl rfl).trans (wp_congr (fun r w1 => wp_msk lvok36 rfl))))))
theorem b36_64 {X : Nat × (Nat → Int32)} {d : Nat} {I : Nat → Nat → Int32} {L : Nat → Nat → Int64} {Q : Option Value → XW → Prop} {x5 : Int32}  : wp X d m36 64 [none, none, none, none, none, some (.int x5)] [] (K0, R0, I, L) Q ↔ Q (some (.int x5)) (K0, R0, I, L) := (w_iload (pc' := 66) c36_64 rfl rfl).trans (w_iret c36_66 rfl)
-- LeavesObject$Cup.setLine(II)V
theorem c37_0 : cdx (mC m37) 0 = some (0, .iload_n 1, 1, 1, 0, 0, 0, []) := rfl
theorem c37_1 : cdx (mC m37) 1 = some (1, .ifCond .lt 19, 3, 20, 0, 0, 0, []) := rfl
theorem c37_4 : cdx (mC m37) 4 = some (4, .iload_n 1, 1, 1, 0, 0, 0, []) := rfl
theorem c37_5 : cdx (mC m37) 5 = some (5, .aload_n 0, 1, 0, 0, 0, 0, []) := rfl
theorem c37_6 : cdx (mC m37) 6 = some (6, .getfield 9, 3, 1, 6, 0, 1085, []) := rfl
theorem c37_9 : cdx (mC m37) 9 = some (9, .arraylength, 1, 0, 0, 0, 0, []) := rfl
theorem c37_10 : cdx (mC m37) 10 = some (10, .if_icmp .ge 10, 3, 20, 0, 0, 0, []) := rfl
theorem c37_13 : cdx (mC m37) 13 = some (13, .aload_n 0, 1, 0, 0, 0, 0, []) := rfl
theorem c37_14 : cdx (mC m37) 14 = some (14, .getfield 9, 3, 1, 6, 0, 1085, []) := rfl
theorem c37_17 : cdx (mC m37) 17 = some (17, .iload_n 1, 1, 1, 0, 0, 0, []) := rfl
theorem c37_18 : cdx (mC m37) 18 = some (18, .iload_n 2, 1, 2, 0, 0, 0, []) := rfl
theorem c37_19 : cdx (mC m37) 19 = some (19, .iastore, 1, 0, 0, 0, 0, []) := rfl
theorem c37_20 : cdx (mC m37) 20 = some (20, .return_, 1, 0, 0, 0, 0, []) := rfl
theorem b37_0 {X : Nat × (Nat → Int32)} {d : Nat} {I : Nat → Nat → Int32} {L : Nat → Nat → Int64} {Q : Option Value → XW → Prop} {r0 : Nat} {x1 : Int32} {x2 : Int32} (hr0 : isCup r0) : wp X d m37 0 [some (.ref r0), some (.int x1), some (.int x2)] [] (K0, R0, I, L) Q ↔ (if x1 < 0 then Q none (K0, R0, I, L) else (if x1 < 4 then (inA x1 4 = true ∧ Q none (K0, R0, (updR I (r0 + 1) (Int32.toNatClampNeg x1) x2), L)) else Q none (K0, R0, I, L))) := (w_iload_n (pc' := 1) c37_0 rfl rfl).trans ((w_if_lt (pc' := 4) c37_1 rfl).trans (ite_iff (w_vret c37_20 rfl) ((w_iload_n (pc' := 5) c37_4 rfl rfl).trans ((w_aload_n (pc' := 6) c37_5 rfl rfl).trans ((w_getR (pc' := 9) (q := (r0 + 1)) c37_6 hr0.1 (by decide) rfl hr0.2.1 rfl).trans ((w_alen (pc' := 10) (v := 4) c37_9 hr0.2.2 rfl rfl).trans ((w_icmp_ge (pc' := 13) c37_10 rfl).trans (ite_iff ((w_aload_n (pc' := 14) c37_13 rfl rfl).trans ((w_getR (pc' := 17) (q := (r0 + 1)) c37_14 hr0.1 (by decide) rfl hr0.2.1 rfl).trans ((w_iload_n (pc' := 18) c37_17 rfl rfl).trans ((w_iload_n (pc' := 19) c37_18 rfl rfl).trans ((w_iast (pc' := 20) c37_19 hr0.2.2 rfl).trans (and_congr_right (fun _ => w_vret c37_20 rfl))))))) (w_vret c37_20 rfl)))))))))
-- LeavesObject.feed(I)I
theorem c38_0 : cdx (mC m38) 0 = some (0, .iload_n 1, 1, 1, 0, 0, 0, []) := rfl
theorem c38_1 : cdx (mC m38) 1 = some (1, .ifCond .lt 10, 3, 11, 0, 0, 0, []) := rfl
theorem c38_4 : cdx (mC m38) 4 = some (4, .iload_n 1, 1, 1, 0, 0, 0, []) := rfl
theorem c38_5 : cdx (mC m38) 5 = some (5, .sipush 128, 3, 0, 0, 0, 0, []) := rfl
theorem c38_8 : cdx (mC m38) 8 = some (8, .if_icmp .lt 6, 3, 14, 0, 0, 0, []) := rfl
theorem c38_11 : cdx (mC m38) 11 = some (11, .bipush (-2), 2, 0, 0, 0, 0, []) := rfl
theorem c38_13 : cdx (mC m38) 13 = some (13, .ireturn, 1, 0, 0, 0, 0, []) := rfl
theorem c38_14 : cdx (mC m38) 14 = some (14, .aload_n 0, 1, 0, 0, 0, 0, []) := rfl
theorem c38_15 : cdx (mC m38) 15 = some (15, .getfield 27, 3, 9, 4, 0, 2003, []) := rfl
theorem c38_18 : cdx (mC m38) 18 = some (18, .iload_n 1, 1, 1, 0, 0, 0, []) := rfl
theorem c38_19 : cdx (mC m38) 19 = some (19, .invokevirtual 136, 3, 39, 1, 0, 2146, [(7, 0)]) := rfl
theorem c38_22 : cdx (mC m38) 22 = some (22, .ifCond .eq 13, 3, 35, 0, 0, 0, []) := rfl
theorem c38_25 : cdx (mC m38) 25 = some (25, .aload_n 0, 1, 0, 0, 0, 0, []) := rfl
theorem c38_26 : cdx (mC m38) 26 = some (26, .getfield 27, 3, 9, 4, 0, 2003, []) := rfl
theorem c38_29 : cdx (mC m38) 29 = some (29, .getfield 139, 3, 7, 1, 0, 1137, []) := rfl
theorem c38_32 : cdx (mC m38) 32 = some (32, .goto 5, 3, 37, 0, 0, 0, []) := rfl
theorem c38_35 : cdx (mC m38) 35 = some (35, .bipush (-4), 2, 0, 0, 0, 0, []) := rfl
theorem c38_37 : cdx (mC m38) 37 = some (37, .ireturn, 1, 0, 0, 0, 0, []) := rfl
def lv38 : List (Nat × List Nat) := [(0, [0, 1]), (1, [0, 1]), (4, [0, 1]), (5, [0, 1]), (8, [0, 1]), (14, [0, 1]), (15, [0, 1]), (18, [0, 1]), (19, [0]), (22, [0]), (25, [0])]
theorem lvok38 : lvOk (mC m38) lv38 = true := by decide +kernel
theorem b38_0 {X : Nat × (Nat → Int32)} {d : Nat} {I : Nat → Nat → Int32} {L : Nat → Nat → Int64} {Q : Option Value → XW → Prop} {x1 : Int32}  : wp X (d + 1) m38 0 [some (.ref 0), some (.int x1)] [] (K0, R0, I, L) Q ↔ (if x1 < 0 then Q (some (.int (-2))) (K0, R0, I, L) else (if x1 < 128 then wp X d m39 0 [some (.ref 64), some (.int x1)] [] (K0, R0, I, L) (fun r w1 => wp X (d + 1) m38 22 [some (.ref 0), none] (r.toList ++ []) w1 Q) else Q (some (.int (-2))) (K0, R0, I, L))) := (w_iload_n (pc' := 1) c38_0 rfl rfl).trans ((w_if_lt (pc' := 4) c38_1 rfl).trans (ite_iff ((w_bipush (pc' := 13) (v := (-2)) c38_11 rfl rfl).trans (w_iret c38_13 rfl)) ((w_iload_n (pc' := 5) c38_4 rfl rfl).trans ((w_sipush (pc' := 8) (v := 128) c38_5 rfl rfl).trans ((w_icmp_lt (pc' := 11) c38_8 rfl).trans (ite_iff ((w_aload_n (pc' := 15) c38_14 rfl rfl).trans ((w_getR (pc' := 18) (q := 64) c38_15 kd_0 (by decide) rfl rd_0_4 rfl).trans ((w_iload_n (pc' := 19) c38_18 rfl rfl).trans ((w_callv (pc' := 22) c38_19 mt39 rfl (Nat.le_of_ble_eq_true rfl) rfl kd_64 rfl rfl (Nat.le_of_ble_eq_true rfl) rfl rfl).trans (wp_congr (fun r w1 => wp_msk lvok38 rfl)))))) ((w_bipush (pc' := 13) (v := (-2)) c38_11 rfl rfl).trans (w_iret c38_13 rfl))))))))
theorem b38_22 {X : Nat × (Nat → Int32)} {d : Nat} {I : Nat → Nat → Int32} {L : Nat → Nat → Int64} {Q : Option Value → XW → Prop} {s0 : Int32}  : wp X d m38 22 [some (.ref 0), none] [(.int s0)] (K0, R0, I, L) Q ↔ Q (some (.int (if s0 = 0 then (-4) else (I 64 1)))) (K0, R0, I, L) := (w_if_eq (pc' := 25) c38_22 rfl).trans ((ite_iff ((w_bipush (pc' := 37) (v := (-4)) c38_35 rfl rfl).trans (w_iret c38_37 rfl)) ((w_aload_n (pc' := 26) c38_25 rfl rfl).trans ((w_getR (pc' := 29) (q := 64) c38_26 kd_0 (by decide) rfl rd_0_4 rfl).trans ((w_getIv (pc' := 32) (v := (I 64 1)) c38_29 kd_64 (by decide) rfl (rfl) rfl).trans ((w_goto c38_32).trans (w_iret c38_37 rfl)))))).trans (ite_val (fun z => Q (some (.int z)) (K0, R0, I, L))))
-- LeavesObject$Text.takes(I)Z
theorem c39_0 : cdx (mC m39) 0 = some (0, .aload_n 0, 1, 0, 0, 0, 0, []) := rfl
theorem c39_1 : cdx (mC m39) 1 = some (1, .getfield 15, 3, 7, 1, 0, 1136, []) := rfl
theorem c39_4 : cdx (mC m39) 4 = some (4, .ifCond .lt 15, 3, 19, 0, 0, 0, []) := rfl
theorem c39_7 : cdx (mC m39) 7 = some (7, .aload_n 0, 1, 0, 0, 0, 0, []) := rfl
theorem c39_8 : cdx (mC m39) 8 = some (8, .getfield 15, 3, 7, 1, 0, 1136, []) := rfl
theorem c39_11 : cdx (mC m39) 11 = some (11, .aload_n 0, 1, 0, 0, 0, 0, []) := rfl
theorem c39_12 : cdx (mC m39) 12 = some (12, .getfield 9, 3, 7, 0, 0, 1135, []) := rfl
theorem c39_15 : cdx (mC m39) 15 = some (15, .arraylength, 1, 0, 0, 0, 0, []) := rfl
theorem c39_16 : cdx (mC m39) 16 = some (16, .if_icmp .lt 5, 3, 21, 0, 0, 0, []) := rfl
theorem c39_19 : cdx (mC m39) 19 = some (19, .iconst 0, 1, 0, 0, 0, 0, []) := rfl
theorem c39_20 : cdx (mC m39) 20 = some (20, .ireturn, 1, 0, 0, 0, 0, []) := rfl
theorem c39_21 : cdx (mC m39) 21 = some (21, .aload_n 0, 1, 0, 0, 0, 0, []) := rfl
theorem c39_22 : cdx (mC m39) 22 = some (22, .getfield 9, 3, 7, 0, 0, 1135, []) := rfl
theorem c39_25 : cdx (mC m39) 25 = some (25, .aload_n 0, 1, 0, 0, 0, 0, []) := rfl
theorem c39_26 : cdx (mC m39) 26 = some (26, .getfield 15, 3, 7, 1, 0, 1136, []) := rfl
theorem c39_29 : cdx (mC m39) 29 = some (29, .iload_n 1, 1, 1, 0, 0, 0, []) := rfl
theorem c39_30 : cdx (mC m39) 30 = some (30, .iastore, 1, 0, 0, 0, 0, []) := rfl
theorem c39_31 : cdx (mC m39) 31 = some (31, .aload_n 0, 1, 0, 0, 0, 0, []) := rfl
theorem c39_32 : cdx (mC m39) 32 = some (32, .dup, 1, 0, 0, 0, 0, []) := rfl
theorem c39_33 : cdx (mC m39) 33 = some (33, .getfield 15, 3, 7, 1, 0, 1136, []) := rfl
theorem c39_36 : cdx (mC m39) 36 = some (36, .iconst 1, 1, 0, 0, 0, 0, []) := rfl
theorem c39_37 : cdx (mC m39) 37 = some (37, .iadd, 1, 0, 0, 0, 0, []) := rfl
theorem c39_38 : cdx (mC m39) 38 = some (38, .putfield 15, 3, 7, 1, 0, 1136, []) := rfl
theorem c39_41 : cdx (mC m39) 41 = some (41, .iconst 1, 1, 0, 0, 0, 0, []) := rfl
theorem c39_42 : cdx (mC m39) 42 = some (42, .ireturn, 1, 0, 0, 0, 0, []) := rfl
theorem b39_0 {X : Nat × (Nat → Int32)} {d : Nat} {I : Nat → Nat → Int32} {L : Nat → Nat → Int64} {Q : Option Value → XW → Prop} {x1 : Int32}  : wp X d m39 0 [some (.ref 64), some (.int x1)] [] (K0, R0, I, L) Q ↔ (if (I 64 1) < 0 then Q (some (.int 0)) (K0, R0, I, L) else (if (I 64 1) < 100 then (inA (I 64 1) 100 = true ∧ Q (some (.int 1)) (K0, R0, (updR (updR I 65 (Int32.toNatClampNeg (I 64 1)) x1) 64 1 ((I 64 1) + 1)), L)) else Q (some (.int 0)) (K0, R0, I, L))) := (w_aload_n (pc' := 1) c39_0 rfl rfl).trans ((w_getIv (pc' := 4) (v := (I 64 1)) c39_1 kd_64 (by decide) rfl (rfl) rfl).trans ((w_if_lt (pc' := 7) c39_4 rfl).trans (ite_iff ((w_iconst (pc' := 20) (v := 0) c39_19 rfl rfl).trans ((w_zret (ty := .boolean) c39_20 rfl (by decide)).trans (and_iff_right (by decide)))) ((w_aload_n (pc' := 8) c39_7 rfl rfl).trans ((w_getIv (pc' := 11) (v := (I 64 1)) c39_8 kd_64 (by decide) rfl (rfl) rfl).trans ((w_aload_n (pc' := 12) c39_11 rfl rfl).trans ((w_getR (pc' := 15) (q := 65) c39_12 kd_64 (by decide) rfl rd_64_0 rfl).trans ((w_alen (pc' := 16) (v := 100) c39_15 kd_65 rfl rfl).trans ((w_icmp_lt (pc' := 19) c39_16 rfl).trans (ite_iff ((w_aload_n (pc' := 22) c39_21 rfl rfl).trans ((w_getR (pc' := 25) (q := 65) c39_22 kd_64 (by decide) rfl rd_64_0 rfl).trans ((w_aload_n (pc' := 26) c39_25 rfl rfl).trans ((w_getIv (pc' := 29) (v := (I 64 1)) c39_26 kd_64 (by decide) rfl (rfl) rfl).trans ((w_iload_n (pc' := 30) c39_29 rfl rfl).trans ((w_iast (pc' := 31) c39_30 kd_65 rfl).trans (and_congr_right (fun _ => (w_aload_n (pc' := 32) c39_31 rfl rfl).trans ((w_dup (pc' := 33) c39_32 rfl rfl).trans ((w_getIv (pc' := 36) (v := (I 64 1)) c39_33 kd_64 (by decide) rfl ((updR_k (by decide)).trans (rfl)) rfl).trans ((w_iconst (pc' := 37) (v := 1) c39_36 rfl rfl).trans ((w_iadd (pc' := 38) c39_37 rfl).trans ((w_putI (pc' := 41) c39_38 kd_64 (by decide) rfl rfl rfl).trans ((w_iconst (pc' := 42) (v := 1) c39_41 rfl rfl).trans ((w_zret (ty := .boolean) c39_42 rfl (by decide)).trans (and_iff_right (by decide))))))))))))))))) ((w_iconst (pc' := 20) (v := 0) c39_19 rfl rfl).trans ((w_zret (ty := .boolean) c39_20 rfl (by decide)).trans (and_iff_right (by decide))))))))))))))
-- LeavesObject.inn()I
theorem c40_0 : cdx (mC m40) 0 = some (0, .aload_n 0, 1, 0, 0, 0, 0, []) := rfl
theorem c40_1 : cdx (mC m40) 1 = some (1, .getfield 142, 3, 9, 6, 0, 2005, []) := rfl
theorem c40_4 : cdx (mC m40) 4 = some (4, .aload_n 0, 1, 0, 0, 0, 0, []) := rfl
theorem c40_5 : cdx (mC m40) 5 = some (5, .getfield 33, 3, 9, 5, 0, 2004, []) := rfl
theorem c40_8 : cdx (mC m40) 8 = some (8, .arraylength, 1, 0, 0, 0, 0, []) := rfl
theorem c40_9 : cdx (mC m40) 9 = some (9, .if_icmp .lt 6, 3, 15, 0, 0, 0, []) := rfl
theorem c40_12 : cdx (mC m40) 12 = some (12, .bipush (-4), 2, 0, 0, 0, 0, []) := rfl
theorem c40_14 : cdx (mC m40) 14 = some (14, .ireturn, 1, 0, 0, 0, 0, []) := rfl
theorem c40_15 : cdx (mC m40) 15 = some (15, .aload_n 0, 1, 0, 0, 0, 0, []) := rfl
theorem c40_16 : cdx (mC m40) 16 = some (16, .getfield 33, 3, 9, 5, 0, 2004, []) := rfl
theorem c40_19 : cdx (mC m40) 19 = some (19, .aload_n 0, 1, 0, 0, 0, 0, []) := rfl
theorem c40_20 : cdx (mC m40) 20 = some (20, .getfield 142, 3, 9, 6, 0, 2005, []) := rfl
theorem c40_23 : cdx (mC m40) 23 = some (23, .aaload, 1, 0, 0, 0, 0, []) := rfl
theorem c40_24 : cdx (mC m40) 24 = some (24, .astore_n 1, 1, 1, 0, 0, 0, []) := rfl
theorem c40_25 : cdx (mC m40) 25 = some (25, .aload_n 1, 1, 1, 0, 0, 0, []) := rfl
theorem c40_26 : cdx (mC m40) 26 = some (26, .ifnonnull 6, 3, 32, 0, 0, 0, []) := rfl
theorem c40_32 : cdx (mC m40) 32 = some (32, .aload_n 0, 1, 0, 0, 0, 0, []) := rfl
theorem c40_33 : cdx (mC m40) 33 = some (33, .getfield 27, 3, 9, 4, 0, 2003, []) := rfl
theorem c40_36 : cdx (mC m40) 36 = some (36, .aload_n 1, 1, 1, 0, 0, 0, []) := rfl
theorem c40_37 : cdx (mC m40) 37 = some (37, .invokevirtual 145, 3, 41, 1, 0, 2154, [(7, 0)]) := rfl
theorem c40_40 : cdx (mC m40) 40 = some (40, .istore_n 2, 1, 2, 0, 0, 0, []) := rfl
theorem c40_41 : cdx (mC m40) 41 = some (41, .aload_n 0, 1, 0, 0, 0, 0, []) := rfl
theorem c40_42 : cdx (mC m40) 42 = some (42, .getfield 27, 3, 9, 4, 0, 2003, []) := rfl
theorem c40_45 : cdx (mC m40) 45 = some (45, .iconst 0, 1, 0, 0, 0, 0, []) := rfl
theorem c40_46 : cdx (mC m40) 46 = some (46, .putfield 139, 3, 7, 1, 0, 1137, []) := rfl
theorem c40_49 : cdx (mC m40) 49 = some (49, .iload_n 2, 1, 2, 0, 0, 0, []) := rfl
theorem c40_50 : cdx (mC m40) 50 = some (50, .ifCond .ne 14, 3, 64, 0, 0, 0, []) := rfl
theorem c40_53 : cdx (mC m40) 53 = some (53, .bipush (-10), 2, 0, 0, 0, 0, []) := rfl
theorem c40_55 : cdx (mC m40) 55 = some (55, .aload_n 0, 1, 0, 0, 0, 0, []) := rfl
theorem c40_56 : cdx (mC m40) 56 = some (56, .getfield 27, 3, 9, 4, 0, 2003, []) := rfl
theorem c40_59 : cdx (mC m40) 59 = some (59, .getfield 149, 3, 7, 2, 0, 1139, []) := rfl
theorem c40_62 : cdx (mC m40) 62 = some (62, .isub, 1, 0, 0, 0, 0, []) := rfl
theorem c40_63 : cdx (mC m40) 63 = some (63, .ireturn, 1, 0, 0, 0, 0, []) := rfl
theorem c40_64 : cdx (mC m40) 64 = some (64, .aload_n 0, 1, 0, 0, 0, 0, []) := rfl
theorem c40_65 : cdx (mC m40) 65 = some (65, .getfield 12, 3, 9, 0, 0, 1239, []) := rfl
theorem c40_68 : cdx (mC m40) 68 = some (68, .aload_n 0, 1, 0, 0, 0, 0, []) := rfl
theorem c40_69 : cdx (mC m40) 69 = some (69, .getfield 142, 3, 9, 6, 0, 2005, []) := rfl
theorem c40_72 : cdx (mC m40) 72 = some (72, .putfield 152, 3, 5, 3, 0, 1107, []) := rfl
theorem c40_75 : cdx (mC m40) 75 = some (75, .aload_n 0, 1, 0, 0, 0, 0, []) := rfl
theorem c40_76 : cdx (mC m40) 76 = some (76, .dup, 1, 0, 0, 0, 0, []) := rfl
theorem c40_77 : cdx (mC m40) 77 = some (77, .getfield 142, 3, 9, 6, 0, 2005, []) := rfl
theorem c40_80 : cdx (mC m40) 80 = some (80, .iconst 1, 1, 0, 0, 0, 0, []) := rfl
theorem c40_81 : cdx (mC m40) 81 = some (81, .iadd, 1, 0, 0, 0, 0, []) := rfl
theorem c40_82 : cdx (mC m40) 82 = some (82, .putfield 142, 3, 9, 6, 0, 2005, []) := rfl
theorem c40_85 : cdx (mC m40) 85 = some (85, .aload_n 0, 1, 0, 0, 0, 0, []) := rfl
theorem c40_86 : cdx (mC m40) 86 = some (86, .getfield 12, 3, 9, 0, 0, 1239, []) := rfl
theorem c40_89 : cdx (mC m40) 89 = some (89, .getfield 152, 3, 5, 3, 0, 1107, []) := rfl
theorem c40_92 : cdx (mC m40) 92 = some (92, .ireturn, 1, 0, 0, 0, 0, []) := rfl
def lv40 : List (Nat × List Nat) := [(0, [0]), (1, [0]), (4, [0]), (5, [0]), (8, [0]), (9, [0]), (15, [0]), (16, [0]), (19, [0]), (20, [0]), (23, [0]), (24, [0]), (25, [0, 1]), (26, [0, 1]), (32, [0, 1]), (33, [0, 1]), (36, [0, 1]), (37, [0]), (40, [0]), (41, [0, 2]), (42, [0, 2]), (45, [0, 2]), (46, [0, 2]), (49, [0, 2]), (50, [0]), (53, [0]), (55, [0]), (64, [0]), (65, [0]), (68, [0]), (69, [0]), (72, [0]), (75, [0]), (76, [0]), (77, [0]), (80, [0]), (81, [0]), (82, [0]), (85, [0])]
theorem lvok40 : lvOk (mC m40) lv40 = true := by decide +kernel
theorem b40_0 {X : Nat × (Nat → Int32)} {d : Nat} {I : Nat → Nat → Int32} {L : Nat → Nat → Int64} {Q : Option Value → XW → Prop}   : wp X (d + 1) m40 0 [some (.ref 0), none, none] [] (K0, R0, I, L) Q ↔ (if (I 0 6) < 6 then (inA (I 0 6) 6 = true ∧ wp X d m41 0 [some (.ref 64), some (.ref (82 + 5 * (Int32.toNatClampNeg (I 0 6)))), none] [] (K0, R0, I, L) (fun r w1 => wp X (d + 1) m40 40 [some (.ref 0), none, none] (r.toList ++ []) w1 Q)) else Q (some (.int (-4))) (K0, R0, I, L)) := (w_aload_n (pc' := 1) c40_0 rfl rfl).trans ((w_getIv (pc' := 4) (v := (I 0 6)) c40_1 kd_0 (by decide) rfl (rfl) rfl).trans ((w_aload_n (pc' := 5) c40_4 rfl rfl).trans ((w_getR (pc' := 8) (q := 66) c40_5 kd_0 (by decide) rfl rd_0_5 rfl).trans ((w_alen (pc' := 9) (v := 6) c40_8 kd_66 rfl rfl).trans ((w_icmp_lt (pc' := 12) c40_9 rfl).trans (ite_iff ((w_aload_n (pc' := 16) c40_15 rfl rfl).trans ((w_getR (pc' := 19) (q := 66) c40_16 kd_0 (by decide) rfl rd_0_5 rfl).trans ((w_aload_n (pc' := 20) c40_19 rfl rfl).trans ((w_getIv (pc' := 23) (v := (I 0 6)) c40_20 kd_0 (by decide) rfl (rfl) rfl).trans ((w_aaldR (pc' := 24) (q := (82 + 5 * (Int32.toNatClampNeg (I 0 6)))) c40_23 kd_66 (fun h => (inns_ok _ (inA_lt h)).1) rfl).trans (and_congr_right (fun hg23 => (w_astore_n (pc' := 25) (ls' := [some (.ref 0), some (.ref (82 + 5 * (Int32.toNatClampNeg (I 0 6)))), none]) c40_24 (Nat.le_of_ble_eq_true rfl) rfl rfl).trans ((w_aload_n (pc' := 26) c40_25 rfl rfl).trans ((w_ifnonnull c40_26 (k_lt (inns_ok _ (inA_lt hg23)).2.1)).trans ((w_aload_n (pc' := 33) c40_32 rfl rfl).trans ((w_getR (pc' := 36) (q := 64) c40_33 kd_0 (by decide) rfl rd_0_4 rfl).trans ((w_aload_n (pc' := 37) c40_36 rfl rfl).trans ((w_callv (pc' := 40) c40_37 mt41 rfl (Nat.le_of_ble_eq_true rfl) rfl kd_64 rfl rfl (Nat.le_of_ble_eq_true rfl) rfl rfl).trans (wp_congr (fun r w1 => wp_msk lvok40 rfl))))))))))))))) ((w_bipush (pc' := 14) (v := (-4)) c40_12 rfl rfl).trans (w_iret c40_14 rfl))))))))
theorem b40_40 {X : Nat × (Nat → Int32)} {d : Nat} {I : Nat → Nat → Int32} {L : Nat → Nat → Int64} {Q : Option Value → XW → Prop} {s0 : Int32}  : wp X d m40 40 [some (.ref 0), none, none] [(.int s0)] (K0, R0, I, L) Q ↔ (if s0 = 0 then Q (some (.int ((-10) - (I 64 2)))) (K0, R0, (updR I 64 1 0), L) else Q (some (.int (I 0 6))) (K0, R0, (updR (updR (updR I 64 1 0) 1 3 (I 0 6)) 0 6 ((I 0 6) + 1)), L)) := (w_istore_n (pc' := 41) (ls' := [some (.ref 0), none, some (.int s0)]) c40_40 (Nat.le_of_ble_eq_true rfl) rfl rfl).trans ((w_aload_n (pc' := 42) c40_41 rfl rfl).trans ((w_getR (pc' := 45) (q := 64) c40_42 kd_0 (by decide) rfl rd_0_4 rfl).trans ((w_iconst (pc' := 46) (v := 0) c40_45 rfl rfl).trans ((w_putI (pc' := 49) c40_46 kd_64 (by decide) rfl rfl rfl).trans ((w_iload_n (pc' := 50) c40_49 rfl rfl).trans ((w_if_ne (pc' := 53) c40_50 rfl).trans (ite_iff ((w_bipush (pc' := 55) (v := (-10)) c40_53 rfl rfl).trans ((w_aload_n (pc' := 56) c40_55 rfl rfl).trans ((w_getR (pc' := 59) (q := 64) c40_56 kd_0 (by decide) rfl rd_0_4 rfl).trans ((w_getIv (pc' := 62) (v := (I 64 2)) c40_59 kd_64 (by decide) rfl ((updR_j (by decide)).trans (rfl)) rfl).trans ((w_isub (pc' := 63) c40_62 rfl).trans (w_iret c40_63 rfl)))))) ((w_aload_n (pc' := 65) c40_64 rfl rfl).trans ((w_getR (pc' := 68) (q := 1) c40_65 kd_0 (by decide) rfl rd_0_0 rfl).trans ((w_aload_n (pc' := 69) c40_68 rfl rfl).trans ((w_getIv (pc' := 72) (v := (I 0 6)) c40_69 kd_0 (by decide) rfl ((updR_k (by decide)).trans (rfl)) rfl).trans ((w_putI (pc' := 75) c40_72 tbl_1.1 (by decide) rfl rfl rfl).trans ((w_aload_n (pc' := 76) c40_75 rfl rfl).trans ((w_dup (pc' := 77) c40_76 rfl rfl).trans ((w_getIv (pc' := 80) (v := (I 0 6)) c40_77 kd_0 (by decide) rfl ((updR_k (by decide)).trans ((updR_k (by decide)).trans (rfl))) rfl).trans ((w_iconst (pc' := 81) (v := 1) c40_80 rfl rfl).trans ((w_iadd (pc' := 82) c40_81 rfl).trans ((w_putI (pc' := 85) c40_82 kd_0 (by decide) rfl rfl rfl).trans ((w_aload_n (pc' := 86) c40_85 rfl rfl).trans ((w_getR (pc' := 89) (q := 1) c40_86 kd_0 (by decide) rfl rd_0_0 rfl).trans ((w_getIv (pc' := 92) (v := (I 0 6)) c40_89 tbl_1.1 (by decide) rfl ((updR_k (by decide)).trans (updR_same)) rfl).trans (w_iret c40_92 rfl))))))))))))))))))))))
-- LeavesObject$Text.readInto(LLeavesObject$Inn;)Z
theorem c41_0 : cdx (mC m41) 0 = some (0, .aload_n 0, 1, 0, 0, 0, 0, []) := rfl
theorem c41_1 : cdx (mC m41) 1 = some (1, .iconst 0, 1, 0, 0, 0, 0, []) := rfl
theorem c41_2 : cdx (mC m41) 2 = some (2, .putfield 19, 3, 7, 2, 0, 1138, []) := rfl
theorem c41_5 : cdx (mC m41) 5 = some (5, .aload_n 1, 1, 1, 0, 0, 0, []) := rfl
theorem c41_6 : cdx (mC m41) 6 = some (6, .invokevirtual 22, 3, 42, 0, 0, 2158, [(2, 0)]) := rfl
theorem c41_9 : cdx (mC m41) 9 = some (9, .iconst 0, 1, 0, 0, 0, 0, []) := rfl
theorem c41_10 : cdx (mC m41) 10 = some (10, .istore_n 2, 1, 2, 0, 0, 0, []) := rfl
theorem c41_11 : cdx (mC m41) 11 = some (11, .iload_n 2, 1, 2, 0, 0, 0, []) := rfl
theorem c41_12 : cdx (mC m41) 12 = some (12, .bipush 10, 2, 0, 0, 0, 0, []) := rfl
theorem c41_14 : cdx (mC m41) 14 = some (14, .if_icmp .ge 61, 3, 75, 0, 0, 0, []) := rfl
theorem c41_17 : cdx (mC m41) 17 = some (17, .aload_n 0, 1, 0, 0, 0, 0, []) := rfl
theorem c41_18 : cdx (mC m41) 18 = some (18, .aload_n 1, 1, 1, 0, 0, 0, []) := rfl
theorem c41_19 : cdx (mC m41) 19 = some (19, .invokevirtual 27, 3, 43, 1, 0, 2162, [(7, 0)]) := rfl
theorem c41_22 : cdx (mC m41) 22 = some (22, .ifCond .ne 5, 3, 27, 0, 0, 0, []) := rfl
theorem c41_25 : cdx (mC m41) 25 = some (25, .iconst 0, 1, 0, 0, 0, 0, []) := rfl
theorem c41_26 : cdx (mC m41) 26 = some (26, .ireturn, 1, 0, 0, 0, 0, []) := rfl
theorem c41_27 : cdx (mC m41) 27 = some (27, .aload_n 0, 1, 0, 0, 0, 0, []) := rfl
theorem c41_28 : cdx (mC m41) 28 = some (28, .invokevirtual 31, 3, 44, 0, 0, 2166, [(7, 0)]) := rfl
theorem c41_31 : cdx (mC m41) 31 = some (31, .bipush 59, 2, 0, 0, 0, 0, []) := rfl
theorem c41_33 : cdx (mC m41) 33 = some (33, .if_icmp .ne 9, 3, 42, 0, 0, 0, []) := rfl
theorem c41_36 : cdx (mC m41) 36 = some (36, .iload_n 2, 1, 2, 0, 0, 0, []) := rfl
theorem c41_37 : cdx (mC m41) 37 = some (37, .bipush 9, 2, 0, 0, 0, 0, []) := rfl
theorem c41_39 : cdx (mC m41) 39 = some (39, .if_icmp .ne 20, 3, 59, 0, 0, 0, []) := rfl
theorem c41_42 : cdx (mC m41) 42 = some (42, .aload_n 0, 1, 0, 0, 0, 0, []) := rfl
theorem c41_43 : cdx (mC m41) 43 = some (43, .getfield 19, 3, 7, 2, 0, 1138, []) := rfl
theorem c41_46 : cdx (mC m41) 46 = some (46, .aload_n 0, 1, 0, 0, 0, 0, []) := rfl
theorem c41_47 : cdx (mC m41) 47 = some (47, .getfield 15, 3, 7, 1, 0, 1136, []) := rfl
theorem c41_50 : cdx (mC m41) 50 = some (50, .if_icmp .ne 7, 3, 57, 0, 0, 0, []) := rfl
theorem c41_53 : cdx (mC m41) 53 = some (53, .iconst 1, 1, 0, 0, 0, 0, []) := rfl
theorem c41_54 : cdx (mC m41) 54 = some (54, .goto 4, 3, 58, 0, 0, 0, []) := rfl
theorem c41_57 : cdx (mC m41) 57 = some (57, .iconst 0, 1, 0, 0, 0, 0, []) := rfl
theorem c41_58 : cdx (mC m41) 58 = some (58, .ireturn, 1, 0, 0, 0, 0, []) := rfl
theorem c41_59 : cdx (mC m41) 59 = some (59, .aload_n 0, 1, 0, 0, 0, 0, []) := rfl
theorem c41_60 : cdx (mC m41) 60 = some (60, .dup, 1, 0, 0, 0, 0, []) := rfl
theorem c41_61 : cdx (mC m41) 61 = some (61, .getfield 19, 3, 7, 2, 0, 1138, []) := rfl
theorem c41_64 : cdx (mC m41) 64 = some (64, .iconst 1, 1, 0, 0, 0, 0, []) := rfl
theorem c41_65 : cdx (mC m41) 65 = some (65, .iadd, 1, 0, 0, 0, 0, []) := rfl
theorem c41_66 : cdx (mC m41) 66 = some (66, .putfield 19, 3, 7, 2, 0, 1138, []) := rfl
theorem c41_69 : cdx (mC m41) 69 = some (69, .iinc 2 1, 3, 2, 0, 0, 0, []) := rfl
theorem c41_72 : cdx (mC m41) 72 = some (72, .goto (-61), 3, 11, 0, 0, 0, []) := rfl
theorem c41_75 : cdx (mC m41) 75 = some (75, .iconst 0, 1, 0, 0, 0, 0, []) := rfl
theorem c41_76 : cdx (mC m41) 76 = some (76, .ireturn, 1, 0, 0, 0, 0, []) := rfl
theorem b41_0 {X : Nat × (Nat → Int32)} {d : Nat} {I : Nat → Nat → Int32} {L : Nat → Nat → Int64} {Q : Option Value → XW → Prop} {r1 : Nat} (hr1 : isInn r1) : wp X (d + 1) m41 0 [some (.ref 64), some (.ref r1), none] [] (K0, R0, I, L) Q ↔ wp X d m42 0 [some (.ref r1)] [] (K0, R0, (updR I 64 2 0), L) (fun r w1 => wp X (d + 1) m41 9 [some (.ref 64), some (.ref r1), none] (r.toList ++ []) w1 Q) := (w_aload_n (pc' := 1) c41_0 rfl rfl).trans ((w_iconst (pc' := 2) (v := 0) c41_1 rfl rfl).trans ((w_putI (pc' := 5) c41_2 kd_64 (by decide) rfl rfl rfl).trans ((w_aload_n (pc' := 6) c41_5 rfl rfl).trans ((w_callv (pc' := 9) c41_6 mt42 rfl (Nat.le_of_ble_eq_true rfl) rfl hr1.1 rfl rfl (Nat.le_of_ble_eq_true rfl) rfl rfl)))))
theorem b41_9 {X : Nat × (Nat → Int32)} {d : Nat} {I : Nat → Nat → Int32} {L : Nat → Nat → Int64} {Q : Option Value → XW → Prop} {r1 : Nat} (hr1 : isInn r1) : wp X d m41 9 [some (.ref 64), some (.ref r1), none] [] (K0, R0, I, L) Q ↔ wp X d m41 11 [some (.ref 64), some (.ref r1), some (.int 0)] [] (K0, R0, I, L) Q := (w_iconst (pc' := 10) (v := 0) c41_9 rfl rfl).trans ((w_istore_n (pc' := 11) (ls' := [some (.ref 64), some (.ref r1), some (.int 0)]) c41_10 (Nat.le_of_ble_eq_true rfl) rfl rfl))
theorem b41_11 {X : Nat × (Nat → Int32)} {d : Nat} {I : Nat → Nat → Int32} {L : Nat → Nat → Int64} {Q : Option Value → XW → Prop} {r1 : Nat} {x2 : Int32} (hr1 : isInn r1) : wp X (d + 1) m41 11 [some (.ref 64), some (.ref r1), some (.int x2)] [] (K0, R0, I, L) Q ↔ (if x2 < 10 then wp X d m43 0 [some (.ref 64), some (.ref r1), none, none] [] (K0, R0, I, L) (fun r w1 => wp X (d + 1) m41 22 [some (.ref 64), some (.ref r1), some (.int x2)] (r.toList ++ []) w1 Q) else Q (some (.int 0)) (K0, R0, I, L)) := (w_iload_n (pc' := 12) c41_11 rfl rfl).trans ((w_bipush (pc' := 14) (v := 10) c41_12 rfl rfl).trans ((w_icmp_ge (pc' := 17) c41_14 rfl).trans (ite_iff ((w_aload_n (pc' := 18) c41_17 rfl rfl).trans ((w_aload_n (pc' := 19) c41_18 rfl rfl).trans ((w_callv (pc' := 22) c41_19 mt43 rfl (Nat.le_of_ble_eq_true rfl) rfl kd_64 rfl rfl (Nat.le_of_ble_eq_true rfl) rfl rfl)))) ((w_iconst (pc' := 76) (v := 0) c41_75 rfl rfl).trans ((w_zret (ty := .boolean) c41_76 rfl (by decide)).trans (and_iff_right (by decide)))))))
theorem b41_22 {X : Nat × (Nat → Int32)} {d : Nat} {I : Nat → Nat → Int32} {L : Nat → Nat → Int64} {Q : Option Value → XW → Prop} {r1 : Nat} {x2 : Int32} {s0 : Int32} (hr1 : isInn r1) : wp X (d + 1) m41 22 [some (.ref 64), some (.ref r1), some (.int x2)] [(.int s0)] (K0, R0, I, L) Q ↔ (if s0 = 0 then Q (some (.int 0)) (K0, R0, I, L) else wp X d m44 0 [some (.ref 64)] [] (K0, R0, I, L) (fun r w1 => wp X (d + 1) m41 31 [some (.ref 64), some (.ref r1), some (.int x2)] (r.toList ++ []) w1 Q)) := (w_if_ne (pc' := 25) c41_22 rfl).trans (ite_iff ((w_iconst (pc' := 26) (v := 0) c41_25 rfl rfl).trans ((w_zret (ty := .boolean) c41_26 rfl (by decide)).trans (and_iff_right (by decide)))) ((w_aload_n (pc' := 28) c41_27 rfl rfl).trans ((w_callv (pc' := 31) c41_28 mt44 rfl (Nat.le_of_ble_eq_true rfl) rfl kd_64 rfl rfl (Nat.le_of_ble_eq_true rfl) rfl rfl))))
theorem b41_31 {X : Nat × (Nat → Int32)} {d : Nat} {I : Nat → Nat → Int32} {L : Nat → Nat → Int64} {Q : Option Value → XW → Prop} {r1 : Nat} {x2 : Int32} {s0 : Int32} (hr1 : isInn r1) : wp X d m41 31 [some (.ref 64), some (.ref r1), some (.int x2)] [(.int s0)] (K0, R0, I, L) Q ↔ (if s0 = 59 then (if x2 = 9 then Q (some (.int (if (I 64 2) = (I 64 1) then 1 else 0))) (K0, R0, I, L) else wp X d m41 11 [some (.ref 64), some (.ref r1), some (.int (x2 + 1))] [] (K0, R0, (updR I 64 2 ((I 64 2) + 1)), L) Q) else Q (some (.int (if (I 64 2) = (I 64 1) then 1 else 0))) (K0, R0, I, L)) := (w_bipush (pc' := 33) (v := 59) c41_31 rfl rfl).trans ((w_icmp_ne (pc' := 36) c41_33 rfl).trans (ite_iff ((w_iload_n (pc' := 37) c41_36 rfl rfl).trans ((w_bipush (pc' := 39) (v := 9) c41_37 rfl rfl).trans ((w_icmp_ne (pc' := 42) c41_39 rfl).trans (ite_iff ((w_aload_n (pc' := 43) c41_42 rfl rfl).trans ((w_getIv (pc' := 46) (v := (I 64 2)) c41_43 kd_64 (by decide) rfl (rfl) rfl).trans ((w_aload_n (pc' := 47) c41_46 rfl rfl).trans ((w_getIv (pc' := 50) (v := (I 64 1)) c41_47 kd_64 (by decide) rfl (rfl) rfl).trans ((w_icmp_ne (pc' := 53) c41_50 rfl).trans ((ite_iff ((w_iconst (pc' := 54) (v := 1) c41_53 rfl rfl).trans ((w_goto c41_54).trans ((w_zret (ty := .boolean) c41_58 rfl (by decide)).trans (and_iff_right (by decide))))) ((w_iconst (pc' := 58) (v := 0) c41_57 rfl rfl).trans ((w_zret (ty := .boolean) c41_58 rfl (by decide)).trans (and_iff_right (by decide))))).trans (ite_val (fun z => Q (some (.int z)) (K0, R0, I, L))))))))) ((w_aload_n (pc' := 60) c41_59 rfl rfl).trans ((w_dup (pc' := 61) c41_60 rfl rfl).trans ((w_getIv (pc' := 64) (v := (I 64 2)) c41_61 kd_64 (by decide) rfl (rfl) rfl).trans ((w_iconst (pc' := 65) (v := 1) c41_64 rfl rfl).trans ((w_iadd (pc' := 66) c41_65 rfl).trans ((w_putI (pc' := 69) c41_66 kd_64 (by decide) rfl rfl rfl).trans ((w_iinc (pc' := 72) (v := (x2 + 1)) (ls' := [some (.ref 64), some (.ref r1), some (.int (x2 + 1))]) c41_69 (Nat.le_of_ble_eq_true rfl) rfl rfl rfl rfl).trans ((w_goto c41_72))))))))))))) ((w_aload_n (pc' := 43) c41_42 rfl rfl).trans ((w_getIv (pc' := 46) (v := (I 64 2)) c41_43 kd_64 (by decide) rfl (rfl) rfl).trans ((w_aload_n (pc' := 47) c41_46 rfl rfl).trans ((w_getIv (pc' := 50) (v := (I 64 1)) c41_47 kd_64 (by decide) rfl (rfl) rfl).trans ((w_icmp_ne (pc' := 53) c41_50 rfl).trans ((ite_iff ((w_iconst (pc' := 54) (v := 1) c41_53 rfl rfl).trans ((w_goto c41_54).trans ((w_zret (ty := .boolean) c41_58 rfl (by decide)).trans (and_iff_right (by decide))))) ((w_iconst (pc' := 58) (v := 0) c41_57 rfl rfl).trans ((w_zret (ty := .boolean) c41_58 rfl (by decide)).trans (and_iff_right (by decide))))).trans (ite_val (fun z => Q (some (.int z)) (K0, R0, I, L)))))))))))
-- LeavesObject$Inn.becomeEmpty()V
theorem c42_0 : cdx (mC m42) 0 = some (0, .aload_n 0, 1, 0, 0, 0, 0, []) := rfl
theorem c42_1 : cdx (mC m42) 1 = some (1, .iconst 2, 1, 0, 0, 0, 0, []) := rfl
theorem c42_2 : cdx (mC m42) 2 = some (2, .putfield 11, 3, 2, 0, 0, 1154, []) := rfl
theorem c42_5 : cdx (mC m42) 5 = some (5, .aload_n 0, 1, 0, 0, 0, 0, []) := rfl
theorem c42_6 : cdx (mC m42) 6 = some (6, .iconst 1, 1, 0, 0, 0, 0, []) := rfl
theorem c42_7 : cdx (mC m42) 7 = some (7, .putfield 15, 3, 2, 1, 0, 1158, []) := rfl
theorem c42_10 : cdx (mC m42) 10 = some (10, .aload_n 0, 1, 0, 0, 0, 0, []) := rfl
theorem c42_11 : cdx (mC m42) 11 = some (11, .iconst 0, 1, 0, 0, 0, 0, []) := rfl
theorem c42_12 : cdx (mC m42) 12 = some (12, .putfield 31, 3, 2, 2, 0, 1162, []) := rfl
theorem c42_15 : cdx (mC m42) 15 = some (15, .aload_n 0, 1, 0, 0, 0, 0, []) := rfl
theorem c42_16 : cdx (mC m42) 16 = some (16, .iconst 0, 1, 0, 0, 0, 0, []) := rfl
theorem c42_17 : cdx (mC m42) 17 = some (17, .putfield 34, 3, 2, 5, 0, 1165, []) := rfl
theorem c42_20 : cdx (mC m42) 20 = some (20, .return_, 1, 0, 0, 0, 0, []) := rfl
theorem b42_0 {X : Nat × (Nat → Int32)} {d : Nat} {I : Nat → Nat → Int32} {L : Nat → Nat → Int64} {Q : Option Value → XW → Prop} {r0 : Nat} (hr0 : isInn r0) : wp X d m42 0 [some (.ref r0)] [] (K0, R0, I, L) Q ↔ Q none (K0, R0, (updR (updR (updR (updR I r0 0 2) r0 1 1) r0 2 0) r0 5 0), L) := (w_aload_n (pc' := 1) c42_0 rfl rfl).trans ((w_iconst (pc' := 2) (v := 2) c42_1 rfl rfl).trans ((w_putI (pc' := 5) c42_2 hr0.1 (by decide) rfl rfl rfl).trans ((w_aload_n (pc' := 6) c42_5 rfl rfl).trans ((w_iconst (pc' := 7) (v := 1) c42_6 rfl rfl).trans ((w_putI (pc' := 10) c42_7 hr0.1 (by decide) rfl rfl rfl).trans ((w_aload_n (pc' := 11) c42_10 rfl rfl).trans ((w_iconst (pc' := 12) (v := 0) c42_11 rfl rfl).trans ((w_putI (pc' := 15) c42_12 hr0.1 (by decide) rfl rfl rfl).trans ((w_aload_n (pc' := 16) c42_15 rfl rfl).trans ((w_iconst (pc' := 17) (v := 0) c42_16 rfl rfl).trans ((w_putI (pc' := 20) c42_17 hr0.1 (by decide) rfl rfl rfl).trans (w_vret c42_20 rfl))))))))))))
-- LeavesObject$Text.readClause(LLeavesObject$Inn;)Z
theorem c43_0 : cdx (mC m43) 0 = some (0, .aload_n 0, 1, 0, 0, 0, 0, []) := rfl
theorem c43_1 : cdx (mC m43) 1 = some (1, .invokevirtual 31, 3, 44, 0, 0, 2166, [(7, 0)]) := rfl
theorem c43_4 : cdx (mC m43) 4 = some (4, .istore_n 2, 1, 2, 0, 0, 0, []) := rfl
theorem c43_5 : cdx (mC m43) 5 = some (5, .aload_n 0, 1, 0, 0, 0, 0, []) := rfl
theorem c43_6 : cdx (mC m43) 6 = some (6, .iload_n 2, 1, 2, 0, 0, 0, []) := rfl
theorem c43_7 : cdx (mC m43) 7 = some (7, .invokestatic 35, 3, 45, 1, 4, 2170, []) := rfl
theorem c43_10 : cdx (mC m43) 10 = some (10, .invokevirtual 39, 3, 46, 1, 0, 2177, [(7, 0)]) := rfl
theorem c43_13 : cdx (mC m43) 13 = some (13, .ifCond .eq 12, 3, 25, 0, 0, 0, []) := rfl
theorem c43_16 : cdx (mC m43) 16 = some (16, .aload_n 0, 1, 0, 0, 0, 0, []) := rfl
theorem c43_17 : cdx (mC m43) 17 = some (17, .ldc 43, 2, 4, 0, 0, 2229, []) := rfl
theorem c43_19 : cdx (mC m43) 19 = some (19, .invokevirtual 39, 3, 46, 1, 0, 2177, [(7, 0)]) := rfl
theorem c43_22 : cdx (mC m43) 22 = some (22, .ifCond .ne 5, 3, 27, 0, 0, 0, []) := rfl
theorem c43_25 : cdx (mC m43) 25 = some (25, .iconst 0, 1, 0, 0, 0, 0, []) := rfl
theorem c43_26 : cdx (mC m43) 26 = some (26, .ireturn, 1, 0, 0, 0, 0, []) := rfl
theorem c43_27 : cdx (mC m43) 27 = some (27, .aload_n 0, 1, 0, 0, 0, 0, []) := rfl
theorem c43_28 : cdx (mC m43) 28 = some (28, .invokevirtual 45, 3, 54, 0, 0, 2230, [(7, 0)]) := rfl
theorem c43_31 : cdx (mC m43) 31 = some (31, .istore_n 3, 1, 3, 0, 0, 0, []) := rfl
theorem c43_32 : cdx (mC m43) 32 = some (32, .iload_n 3, 1, 3, 0, 0, 0, []) := rfl
theorem c43_33 : cdx (mC m43) 33 = some (33, .ifCond .ge 5, 3, 38, 0, 0, 0, []) := rfl
theorem c43_36 : cdx (mC m43) 36 = some (36, .iconst 0, 1, 0, 0, 0, 0, []) := rfl
theorem c43_37 : cdx (mC m43) 37 = some (37, .ireturn, 1, 0, 0, 0, 0, []) := rfl
theorem c43_38 : cdx (mC m43) 38 = some (38, .iload_n 2, 1, 2, 0, 0, 0, []) := rfl
theorem c43_39 : cdx (mC m43) 39 = some (39, .bipush 114, 2, 0, 0, 0, 0, []) := rfl
theorem c43_41 : cdx (mC m43) 41 = some (41, .if_icmp .ne 10, 3, 51, 0, 0, 0, []) := rfl
theorem c43_44 : cdx (mC m43) 44 = some (44, .aload_n 1, 1, 1, 0, 0, 0, []) := rfl
theorem c43_45 : cdx (mC m43) 45 = some (45, .iload_n 3, 1, 3, 0, 0, 0, []) := rfl
theorem c43_46 : cdx (mC m43) 46 = some (46, .putfield 48, 3, 2, 0, 0, 1155, []) := rfl
theorem c43_49 : cdx (mC m43) 49 = some (49, .iconst 1, 1, 0, 0, 0, 0, []) := rfl
theorem c43_50 : cdx (mC m43) 50 = some (50, .ireturn, 1, 0, 0, 0, 0, []) := rfl
theorem c43_51 : cdx (mC m43) 51 = some (51, .iload_n 2, 1, 2, 0, 0, 0, []) := rfl
theorem c43_52 : cdx (mC m43) 52 = some (52, .bipush 102, 2, 0, 0, 0, 0, []) := rfl
theorem c43_54 : cdx (mC m43) 54 = some (54, .if_icmp .ne 10, 3, 64, 0, 0, 0, []) := rfl
theorem c43_57 : cdx (mC m43) 57 = some (57, .aload_n 1, 1, 1, 0, 0, 0, []) := rfl
theorem c43_58 : cdx (mC m43) 58 = some (58, .iload_n 3, 1, 3, 0, 0, 0, []) := rfl
theorem c43_59 : cdx (mC m43) 59 = some (59, .putfield 51, 3, 2, 1, 0, 1159, []) := rfl
theorem c43_62 : cdx (mC m43) 62 = some (62, .iconst 1, 1, 0, 0, 0, 0, []) := rfl
theorem c43_63 : cdx (mC m43) 63 = some (63, .ireturn, 1, 0, 0, 0, 0, []) := rfl
theorem c43_64 : cdx (mC m43) 64 = some (64, .aload_n 0, 1, 0, 0, 0, 0, []) := rfl
theorem c43_65 : cdx (mC m43) 65 = some (65, .ldc 43, 2, 4, 0, 0, 2229, []) := rfl
theorem c43_67 : cdx (mC m43) 67 = some (67, .invokevirtual 39, 3, 46, 1, 0, 2177, [(7, 0)]) := rfl
theorem c43_70 : cdx (mC m43) 70 = some (70, .ifCond .eq 12, 3, 82, 0, 0, 0, []) := rfl
theorem c43_73 : cdx (mC m43) 73 = some (73, .aload_n 0, 1, 0, 0, 0, 0, []) := rfl
theorem c43_74 : cdx (mC m43) 74 = some (74, .aload_n 1, 1, 1, 0, 0, 0, []) := rfl
theorem c43_75 : cdx (mC m43) 75 = some (75, .iconst 0, 1, 0, 0, 0, 0, []) := rfl
theorem c43_76 : cdx (mC m43) 76 = some (76, .invokevirtual 54, 3, 55, 2, 0, 2236, [(7, 0)]) := rfl
theorem c43_79 : cdx (mC m43) 79 = some (79, .ifCond .ne 5, 3, 84, 0, 0, 0, []) := rfl
theorem c43_82 : cdx (mC m43) 82 = some (82, .iconst 0, 1, 0, 0, 0, 0, []) := rfl
theorem c43_83 : cdx (mC m43) 83 = some (83, .ireturn, 1, 0, 0, 0, 0, []) := rfl
theorem c43_84 : cdx (mC m43) 84 = some (84, .aload_n 1, 1, 1, 0, 0, 0, []) := rfl
theorem c43_85 : cdx (mC m43) 85 = some (85, .iload_n 2, 1, 2, 0, 0, 0, []) := rfl
theorem c43_86 : cdx (mC m43) 86 = some (86, .bipush 119, 2, 0, 0, 0, 0, []) := rfl
theorem c43_88 : cdx (mC m43) 88 = some (88, .if_icmp .ne 7, 3, 95, 0, 0, 0, []) := rfl
theorem c43_91 : cdx (mC m43) 91 = some (91, .iload_n 3, 1, 3, 0, 0, 0, []) := rfl
theorem c43_92 : cdx (mC m43) 92 = some (92, .goto 5, 3, 97, 0, 0, 0, []) := rfl
theorem c43_95 : cdx (mC m43) 95 = some (95, .iload_n 3, 1, 3, 0, 0, 0, []) := rfl
theorem c43_96 : cdx (mC m43) 96 = some (96, .ineg, 1, 0, 0, 0, 0, []) := rfl
theorem c43_97 : cdx (mC m43) 97 = some (97, .invokevirtual 58, 3, 62, 1, 0, 3024, [(2, 0)]) := rfl
theorem c43_100 : cdx (mC m43) 100 = some (100, .iconst 1, 1, 0, 0, 0, 0, []) := rfl
theorem c43_101 : cdx (mC m43) 101 = some (101, .ireturn, 1, 0, 0, 0, 0, []) := rfl
def lv43 : List (Nat × List Nat) := [(0, [0, 1]), (1, [0, 1]), (4, [0, 1]), (5, [0, 1, 2]), (6, [0, 1, 2]), (7, [0, 1, 2]), (10, [0, 1, 2]), (13, [0, 1, 2]), (16, [0, 1, 2]), (17, [0, 1, 2]), (19, [0, 1, 2]), (22, [0, 1, 2]), (27, [0, 1, 2]), (28, [0, 1, 2]), (31, [0, 1, 2]), (32, [0, 1, 2, 3]), (33, [0, 1, 2, 3]), (38, [0, 1, 2, 3]), (39, [0, 1, 2, 3]), (41, [0, 1, 2, 3]), (44, [1, 3]), (45, [3]), (51, [0, 1, 2, 3]), (52, [0, 1, 2, 3]), (54, [0, 1, 2, 3]), (57, [1, 3]), (58, [3]), (64, [0, 1, 2, 3]), (65, [0, 1, 2, 3]), (67, [0, 1, 2, 3]), (70, [0, 1, 2, 3]), (73, [0, 1, 2, 3]), (74, [1, 2, 3]), (75, [1, 2, 3]), (76, [1, 2, 3]), (79, [1, 2, 3]), (84, [1, 2, 3]), (85, [2, 3]), (86, [3]), (88, [3]), (91, [3]), (95, [3])]
theorem lvok43 : lvOk (mC m43) lv43 = true := by decide +kernel
theorem b43_0 {X : Nat × (Nat → Int32)} {d : Nat} {I : Nat → Nat → Int32} {L : Nat → Nat → Int64} {Q : Option Value → XW → Prop} {r1 : Nat} (hr1 : isInn r1) : wp X (d + 1) m43 0 [some (.ref 64), some (.ref r1), none, none] [] (K0, R0, I, L) Q ↔ wp X d m44 0 [some (.ref 64)] [] (K0, R0, I, L) (fun r w1 => wp X (d + 1) m43 4 [some (.ref 64), some (.ref r1), none, none] (r.toList ++ []) w1 Q) := (w_aload_n (pc' := 1) c43_0 rfl rfl).trans ((w_callv (pc' := 4) c43_1 mt44 rfl (Nat.le_of_ble_eq_true rfl) rfl kd_64 rfl rfl (Nat.le_of_ble_eq_true rfl) rfl rfl))
theorem b43_4 {X : Nat × (Nat → Int32)} {d : Nat} {I : Nat → Nat → Int32} {L : Nat → Nat → Int64} {Q : Option Value → XW → Prop} {r1 : Nat} {s0 : Int32} (hr1 : isInn r1) : wp X (d + 1) m43 4 [some (.ref 64), some (.ref r1), none, none] [(.int s0)] (K0, R0, I, L) Q ↔ wp X d m45 0 [some (.int s0)] [] (K0, R0, I, L) (fun r w1 => wp X (d + 1) m43 10 [some (.ref 64), some (.ref r1), some (.int s0), none] (r.toList ++ [(.ref 64)]) w1 Q) := (w_istore_n (pc' := 5) (ls' := [some (.ref 64), some (.ref r1), some (.int s0), none]) c43_4 (Nat.le_of_ble_eq_true rfl) rfl rfl).trans ((w_aload_n (pc' := 6) c43_5 rfl rfl).trans ((w_iload_n (pc' := 7) c43_6 rfl rfl).trans ((w_callst (pc' := 10) c43_7 (by decide) mt45 rfl (Nat.le_of_ble_eq_true rfl) rfl rfl (Nat.le_of_ble_eq_true rfl) rfl rfl))))
theorem b43_10 {X : Nat × (Nat → Int32)} {d : Nat} {I : Nat → Nat → Int32} {L : Nat → Nat → Int64} {Q : Option Value → XW → Prop} {r1 : Nat} {x2 : Int32} {q1 nq1 : Nat} {fq1 : Nat → Int32} (hr1 : isInn r1) (hq1 : isStr q1 nq1 fq1) : wp X (d + 1) m43 10 [some (.ref 64), some (.ref r1), some (.int x2), none] [(.ref q1), (.ref 64)] (K0, R0, I, L) Q ↔ wp X d m46 0 [some (.ref 64), some (.ref q1), none] [] (K0, R0, I, L) (fun r w1 => wp X (d + 1) m43 13 [some (.ref 64), some (.ref r1), some (.int x2), none] (r.toList ++ []) w1 Q) := (w_callv (pc' := 13) c43_10 mt46 rfl (Nat.le_of_ble_eq_true rfl) rfl kd_64 rfl rfl (Nat.le_of_ble_eq_true rfl) rfl rfl)
theorem b43_13 {X : Nat × (Nat → Int32)} {d : Nat} {I : Nat → Nat → Int32} {L : Nat → Nat → Int64} {Q : Option Value → XW → Prop} {r1 : Nat} {x2 : Int32} {s0 : Int32} (hr1 : isInn r1) : wp X (d + 1) m43 13 [some (.ref 64), some (.ref r1), some (.int x2), none] [(.int s0)] (K0, R0, I, L) Q ↔ (if s0 = 0 then Q (some (.int 0)) (K0, R0, I, L) else wp X d m46 0 [some (.ref 64), some (.ref 1000004), none] [] (K0, R0, I, L) (fun r w1 => wp X (d + 1) m43 22 [some (.ref 64), some (.ref r1), some (.int x2), none] (r.toList ++ []) w1 Q)) := (w_if_eq (pc' := 16) c43_13 rfl).trans (ite_iff ((w_iconst (pc' := 26) (v := 0) c43_25 rfl rfl).trans ((w_zret (ty := .boolean) c43_26 rfl (by decide)).trans (and_iff_right (by decide)))) ((w_aload_n (pc' := 17) c43_16 rfl rfl).trans ((w_ldc (pc' := 19) (q := 1000004) c43_17 rfl rfl).trans ((w_callv (pc' := 22) c43_19 mt46 rfl (Nat.le_of_ble_eq_true rfl) rfl kd_64 rfl rfl (Nat.le_of_ble_eq_true rfl) rfl rfl)))))
theorem b43_22 {X : Nat × (Nat → Int32)} {d : Nat} {I : Nat → Nat → Int32} {L : Nat → Nat → Int64} {Q : Option Value → XW → Prop} {r1 : Nat} {x2 : Int32} {s0 : Int32} (hr1 : isInn r1) : wp X (d + 1) m43 22 [some (.ref 64), some (.ref r1), some (.int x2), none] [(.int s0)] (K0, R0, I, L) Q ↔ (if s0 = 0 then Q (some (.int 0)) (K0, R0, I, L) else wp X d m54 0 [some (.ref 64), none, none, none] [] (K0, R0, I, L) (fun r w1 => wp X (d + 1) m43 31 [some (.ref 64), some (.ref r1), some (.int x2), none] (r.toList ++ []) w1 Q)) := (w_if_ne (pc' := 25) c43_22 rfl).trans (ite_iff ((w_iconst (pc' := 26) (v := 0) c43_25 rfl rfl).trans ((w_zret (ty := .boolean) c43_26 rfl (by decide)).trans (and_iff_right (by decide)))) ((w_aload_n (pc' := 28) c43_27 rfl rfl).trans ((w_callv (pc' := 31) c43_28 mt54 rfl (Nat.le_of_ble_eq_true rfl) rfl kd_64 rfl rfl (Nat.le_of_ble_eq_true rfl) rfl rfl))))
theorem b43_31 {X : Nat × (Nat → Int32)} {d : Nat} {I : Nat → Nat → Int32} {L : Nat → Nat → Int64} {Q : Option Value → XW → Prop} {r1 : Nat} {x2 : Int32} {s0 : Int32} (hr1 : isInn r1) : wp X (d + 1) m43 31 [some (.ref 64), some (.ref r1), some (.int x2), none] [(.int s0)] (K0, R0, I, L) Q ↔ (if s0 < 0 then Q (some (.int 0)) (K0, R0, I, L) else (if x2 = 114 then Q (some (.int 1)) (K0, R0, (updR I r1 0 s0), L) else (if x2 = 102 then Q (some (.int 1)) (K0, R0, (updR I r1 1 s0), L) else wp X d m46 0 [some (.ref 64), some (.ref 1000004), none] [] (K0, R0, I, L) (fun r w1 => wp X (d + 1) m43 70 [some (.ref 64), some (.ref r1), some (.int x2), some (.int s0)] (r.toList ++ []) w1 Q)))) := (w_istore_n (pc' := 32) (ls' := [some (.ref 64), some (.ref r1), some (.int x2), some (.int s0)]) c43_31 (Nat.le_of_ble_eq_true rfl) rfl rfl).trans ((w_iload_n (pc' := 33) c43_32 rfl rfl).trans ((w_if_ge (pc' := 36) c43_33 rfl).trans (ite_iff ((w_iconst (pc' := 37) (v := 0) c43_36 rfl rfl).trans ((w_zret (ty := .boolean) c43_37 rfl (by decide)).trans (and_iff_right (by decide)))) ((w_iload_n (pc' := 39) c43_38 rfl rfl).trans ((w_bipush (pc' := 41) (v := 114) c43_39 rfl rfl).trans ((w_icmp_ne (pc' := 44) c43_41 rfl).trans (ite_iff ((w_aload_n (pc' := 45) c43_44 rfl rfl).trans ((w_iload_n (pc' := 46) c43_45 rfl rfl).trans ((w_putI (pc' := 49) c43_46 hr1.1 (by decide) rfl rfl rfl).trans ((w_iconst (pc' := 50) (v := 1) c43_49 rfl rfl).trans ((w_zret (ty := .boolean) c43_50 rfl (by decide)).trans (and_iff_right (by decide))))))) ((w_iload_n (pc' := 52) c43_51 rfl rfl).trans ((w_bipush (pc' := 54) (v := 102) c43_52 rfl rfl).trans ((w_icmp_ne (pc' := 57) c43_54 rfl).trans (ite_iff ((w_aload_n (pc' := 58) c43_57 rfl rfl).trans ((w_iload_n (pc' := 59) c43_58 rfl rfl).trans ((w_putI (pc' := 62) c43_59 hr1.1 (by decide) rfl rfl rfl).trans ((w_iconst (pc' := 63) (v := 1) c43_62 rfl rfl).trans ((w_zret (ty := .boolean) c43_63 rfl (by decide)).trans (and_iff_right (by decide))))))) ((w_aload_n (pc' := 65) c43_64 rfl rfl).trans ((w_ldc (pc' := 67) (q := 1000004) c43_65 rfl rfl).trans ((w_callv (pc' := 70) c43_67 mt46 rfl (Nat.le_of_ble_eq_true rfl) rfl kd_64 rfl rfl (Nat.le_of_ble_eq_true rfl) rfl rfl)))))))))))))))
theorem b43_70 {X : Nat × (Nat → Int32)} {d : Nat} {I : Nat → Nat → Int32} {L : Nat → Nat → Int64} {Q : Option Value → XW → Prop} {r1 : Nat} {x2 : Int32} {x3 : Int32} {s0 : Int32} (hr1 : isInn r1) : wp X (d + 1) m43 70 [some (.ref 64), some (.ref r1), some (.int x2), some (.int x3)] [(.int s0)] (K0, R0, I, L) Q ↔ (if s0 = 0 then Q (some (.int 0)) (K0, R0, I, L) else wp X d m55 0 [some (.ref 64), some (.ref r1), some (.int 0), none] [] (K0, R0, I, L) (fun r w1 => wp X (d + 1) m43 79 [none, some (.ref r1), some (.int x2), some (.int x3)] (r.toList ++ []) w1 Q)) := (w_if_eq (pc' := 73) c43_70 rfl).trans (ite_iff ((w_iconst (pc' := 83) (v := 0) c43_82 rfl rfl).trans ((w_zret (ty := .boolean) c43_83 rfl (by decide)).trans (and_iff_right (by decide)))) ((w_aload_n (pc' := 74) c43_73 rfl rfl).trans ((w_aload_n (pc' := 75) c43_74 rfl rfl).trans ((w_iconst (pc' := 76) (v := 0) c43_75 rfl rfl).trans ((w_callv (pc' := 79) c43_76 mt55 rfl (Nat.le_of_ble_eq_true rfl) rfl kd_64 rfl rfl (Nat.le_of_ble_eq_true rfl) rfl rfl).trans (wp_congr (fun r w1 => wp_msk lvok43 rfl)))))))
theorem b43_79 {X : Nat × (Nat → Int32)} {d : Nat} {I : Nat → Nat → Int32} {L : Nat → Nat → Int64} {Q : Option Value → XW → Prop} {r1 : Nat} {x2 : Int32} {x3 : Int32} {s0 : Int32} (hr1 : isInn r1) : wp X (d + 1) m43 79 [none, some (.ref r1), some (.int x2), some (.int x3)] [(.int s0)] (K0, R0, I, L) Q ↔ (if s0 = 0 then Q (some (.int 0)) (K0, R0, I, L) else (if x2 = 119 then wp X d m62 0 [some (.ref r1), some (.int x3)] [] (K0, R0, I, L) (fun r w1 => wp X (d + 1) m43 100 [none, none, none, none] (r.toList ++ []) w1 Q) else wp X d m62 0 [some (.ref r1), some (.int (-x3))] [] (K0, R0, I, L) (fun r w1 => wp X (d + 1) m43 100 [none, none, none, none] (r.toList ++ []) w1 Q))) := (w_if_ne (pc' := 82) c43_79 rfl).trans (ite_iff ((w_iconst (pc' := 83) (v := 0) c43_82 rfl rfl).trans ((w_zret (ty := .boolean) c43_83 rfl (by decide)).trans (and_iff_right (by decide)))) ((w_aload_n (pc' := 85) c43_84 rfl rfl).trans ((w_iload_n (pc' := 86) c43_85 rfl rfl).trans ((w_bipush (pc' := 88) (v := 119) c43_86 rfl rfl).trans ((w_icmp_ne (pc' := 91) c43_88 rfl).trans (ite_iff ((w_iload_n (pc' := 92) c43_91 rfl rfl).trans ((w_goto c43_92).trans ((w_callv (pc' := 100) c43_97 mt62 rfl (Nat.le_of_ble_eq_true rfl) rfl hr1.1 rfl rfl (Nat.le_of_ble_eq_true rfl) rfl rfl).trans (wp_congr (fun r w1 => wp_msk lvok43 rfl))))) ((w_iload_n (pc' := 96) c43_95 rfl rfl).trans ((w_ineg (pc' := 97) c43_96 rfl).trans ((w_callv (pc' := 100) c43_97 mt62 rfl (Nat.le_of_ble_eq_true rfl) rfl hr1.1 rfl rfl (Nat.le_of_ble_eq_true rfl) rfl rfl).trans (wp_congr (fun r w1 => wp_msk lvok43 rfl)))))))))))
theorem b43_100 {X : Nat × (Nat → Int32)} {d : Nat} {I : Nat → Nat → Int32} {L : Nat → Nat → Int64} {Q : Option Value → XW → Prop}   : wp X d m43 100 [none, none, none, none] [] (K0, R0, I, L) Q ↔ Q (some (.int 1)) (K0, R0, I, L) := (w_iconst (pc' := 101) (v := 1) c43_100 rfl rfl).trans ((w_zret (ty := .boolean) c43_101 rfl (by decide)).trans (and_iff_right (by decide)))
-- LeavesObject$Text.sign()I
theorem c44_0 : cdx (mC m44) 0 = some (0, .aload_n 0, 1, 0, 0, 0, 0, []) := rfl
theorem c44_1 : cdx (mC m44) 1 = some (1, .getfield 19, 3, 7, 2, 0, 1138, []) := rfl
theorem c44_4 : cdx (mC m44) 4 = some (4, .ifCond .lt 38, 3, 42, 0, 0, 0, []) := rfl
theorem c44_7 : cdx (mC m44) 7 = some (7, .aload_n 0, 1, 0, 0, 0, 0, []) := rfl
theorem c44_8 : cdx (mC m44) 8 = some (8, .getfield 19, 3, 7, 2, 0, 1138, []) := rfl
theorem c44_11 : cdx (mC m44) 11 = some (11, .aload_n 0, 1, 0, 0, 0, 0, []) := rfl
theorem c44_12 : cdx (mC m44) 12 = some (12, .getfield 15, 3, 7, 1, 0, 1136, []) := rfl
theorem c44_15 : cdx (mC m44) 15 = some (15, .if_icmp .ge 27, 3, 42, 0, 0, 0, []) := rfl
theorem c44_18 : cdx (mC m44) 18 = some (18, .aload_n 0, 1, 0, 0, 0, 0, []) := rfl
theorem c44_19 : cdx (mC m44) 19 = some (19, .getfield 19, 3, 7, 2, 0, 1138, []) := rfl
theorem c44_22 : cdx (mC m44) 22 = some (22, .aload_n 0, 1, 0, 0, 0, 0, []) := rfl
theorem c44_23 : cdx (mC m44) 23 = some (23, .getfield 9, 3, 7, 0, 0, 1135, []) := rfl
theorem c44_26 : cdx (mC m44) 26 = some (26, .arraylength, 1, 0, 0, 0, 0, []) := rfl
theorem c44_27 : cdx (mC m44) 27 = some (27, .if_icmp .ge 15, 3, 42, 0, 0, 0, []) := rfl
theorem c44_30 : cdx (mC m44) 30 = some (30, .aload_n 0, 1, 0, 0, 0, 0, []) := rfl
theorem c44_31 : cdx (mC m44) 31 = some (31, .getfield 9, 3, 7, 0, 0, 1135, []) := rfl
theorem c44_34 : cdx (mC m44) 34 = some (34, .aload_n 0, 1, 0, 0, 0, 0, []) := rfl
theorem c44_35 : cdx (mC m44) 35 = some (35, .getfield 19, 3, 7, 2, 0, 1138, []) := rfl
theorem c44_38 : cdx (mC m44) 38 = some (38, .iaload, 1, 0, 0, 0, 0, []) := rfl
theorem c44_39 : cdx (mC m44) 39 = some (39, .goto 4, 3, 43, 0, 0, 0, []) := rfl
theorem c44_42 : cdx (mC m44) 42 = some (42, .iconst (-1), 1, 0, 0, 0, 0, []) := rfl
theorem c44_43 : cdx (mC m44) 43 = some (43, .ireturn, 1, 0, 0, 0, 0, []) := rfl
theorem b44_0 {X : Nat × (Nat → Int32)} {d : Nat} {I : Nat → Nat → Int32} {L : Nat → Nat → Int64} {Q : Option Value → XW → Prop}   : wp X d m44 0 [some (.ref 64)] [] (K0, R0, I, L) Q ↔ (if (I 64 2) < 0 then Q (some (.int (-1))) (K0, R0, I, L) else (if (I 64 2) < (I 64 1) then (if (I 64 2) < 100 then (inA (I 64 2) 100 = true ∧ Q (some (.int (I 65 (Int32.toNatClampNeg (I 64 2))))) (K0, R0, I, L)) else Q (some (.int (-1))) (K0, R0, I, L)) else Q (some (.int (-1))) (K0, R0, I, L))) := (w_aload_n (pc' := 1) c44_0 rfl rfl).trans ((w_getIv (pc' := 4) (v := (I 64 2)) c44_1 kd_64 (by decide) rfl (rfl) rfl).trans ((w_if_lt (pc' := 7) c44_4 rfl).trans (ite_iff ((w_iconst (pc' := 43) (v := (-1)) c44_42 rfl rfl).trans (w_iret c44_43 rfl)) ((w_aload_n (pc' := 8) c44_7 rfl rfl).trans ((w_getIv (pc' := 11) (v := (I 64 2)) c44_8 kd_64 (by decide) rfl (rfl) rfl).trans ((w_aload_n (pc' := 12) c44_11 rfl rfl).trans ((w_getIv (pc' := 15) (v := (I 64 1)) c44_12 kd_64 (by decide) rfl (rfl) rfl).trans ((w_icmp_ge (pc' := 18) c44_15 rfl).trans (ite_iff ((w_aload_n (pc' := 19) c44_18 rfl rfl).trans ((w_getIv (pc' := 22) (v := (I 64 2)) c44_19 kd_64 (by decide) rfl (rfl) rfl).trans ((w_aload_n (pc' := 23) c44_22 rfl rfl).trans ((w_getR (pc' := 26) (q := 65) c44_23 kd_64 (by decide) rfl rd_64_0 rfl).trans ((w_alen (pc' := 27) (v := 100) c44_26 kd_65 rfl rfl).trans ((w_icmp_ge (pc' := 30) c44_27 rfl).trans (ite_iff ((w_aload_n (pc' := 31) c44_30 rfl rfl).trans ((w_getR (pc' := 34) (q := 65) c44_31 kd_64 (by decide) rfl rd_64_0 rfl).trans ((w_aload_n (pc' := 35) c44_34 rfl rfl).trans ((w_getIv (pc' := 38) (v := (I 64 2)) c44_35 kd_64 (by decide) rfl (rfl) rfl).trans ((w_ialdv (pc' := 39) (v := (I 65 (Int32.toNatClampNeg (I 64 2)))) c44_38 kd_65 (rfl) rfl).trans (and_congr_right (fun _ => (w_goto c44_39).trans (w_iret c44_43 rfl)))))))) ((w_iconst (pc' := 43) (v := (-1)) c44_42 rfl rfl).trans (w_iret c44_43 rfl))))))))) ((w_iconst (pc' := 43) (v := (-1)) c44_42 rfl rfl).trans (w_iret c44_43 rfl)))))))))))
-- LeavesObject$Text.wordWith(I)Ljava/lang/String;
theorem c45_0 : cdx (mC m45) 0 = some (0, .iload_n 0, 1, 0, 0, 0, 0, []) := rfl
theorem c45_1 : cdx (mC m45) 1 = some (1, .lookupswitch 44 #[(98, 35), (102, 41), (114, 38)], 35, 45, 0, 0, 0, [(98, 36), (102, 42), (114, 39)]) := rfl
theorem c45_36 : cdx (mC m45) 36 = some (36, .ldc 62, 2, 0, 0, 0, 2173, []) := rfl
theorem c45_38 : cdx (mC m45) 38 = some (38, .areturn, 1, 0, 0, 0, 0, []) := rfl
theorem c45_39 : cdx (mC m45) 39 = some (39, .ldc 64, 2, 1, 0, 0, 2174, []) := rfl
theorem c45_41 : cdx (mC m45) 41 = some (41, .areturn, 1, 0, 0, 0, 0, []) := rfl
theorem c45_42 : cdx (mC m45) 42 = some (42, .ldc 65, 2, 2, 0, 0, 2175, []) := rfl
theorem c45_44 : cdx (mC m45) 44 = some (44, .areturn, 1, 0, 0, 0, 0, []) := rfl
theorem c45_45 : cdx (mC m45) 45 = some (45, .ldc 66, 2, 3, 0, 0, 2176, []) := rfl
theorem c45_47 : cdx (mC m45) 47 = some (47, .areturn, 1, 0, 0, 0, 0, []) := rfl
theorem b45_0 {X : Nat × (Nat → Int32)} {d : Nat} {I : Nat → Nat → Int32} {L : Nat → Nat → Int64} {Q : Option Value → XW → Prop} {x0 : Int32}  : wp X d m45 0 [some (.int x0)] [] (K0, R0, I, L) Q ↔ (if x0 = 98 then Q (some (.ref 1000000)) (K0, R0, I, L) else (if x0 = 102 then Q (some (.ref 1000002)) (K0, R0, I, L) else (if x0 = 114 then Q (some (.ref 1000001)) (K0, R0, I, L) else Q (some (.ref 1000003)) (K0, R0, I, L)))) := (w_iload_n (pc' := 1) c45_0 rfl rfl).trans ((w_lswitch c45_1).trans ((w_swcons (v := 98) rfl).trans (ite_iff ((w_ldc (pc' := 38) (q := 1000000) c45_36 rfl rfl).trans (w_aret c45_38 rfl)) ((w_swcons (v := 102) rfl).trans (ite_iff ((w_ldc (pc' := 44) (q := 1000002) c45_42 rfl rfl).trans (w_aret c45_44 rfl)) ((w_swcons (v := 114) rfl).trans (ite_iff ((w_ldc (pc' := 41) (q := 1000001) c45_39 rfl rfl).trans (w_aret c45_41 rfl)) ((w_swnil).trans ((w_ldc (pc' := 47) (q := 1000003) c45_45 rfl rfl).trans (w_aret c45_47 rfl))))))))))
-- LeavesObject$Text.readWord(Ljava/lang/String;)Z
theorem c46_0 : cdx (mC m46) 0 = some (0, .iconst 0, 1, 0, 0, 0, 0, []) := rfl
theorem c46_1 : cdx (mC m46) 1 = some (1, .istore_n 2, 1, 2, 0, 0, 0, []) := rfl
theorem c46_2 : cdx (mC m46) 2 = some (2, .iload_n 2, 1, 2, 0, 0, 0, []) := rfl
theorem c46_3 : cdx (mC m46) 3 = some (3, .aload_n 1, 1, 1, 0, 0, 0, []) := rfl
theorem c46_4 : cdx (mC m46) 4 = some (4, .invokevirtual 68, 3, 47, 0, 0, 2181, [(99, 0)]) := rfl
theorem c46_7 : cdx (mC m46) 7 = some (7, .if_icmp .ge 33, 3, 40, 0, 0, 0, []) := rfl
theorem c46_10 : cdx (mC m46) 10 = some (10, .aload_n 0, 1, 0, 0, 0, 0, []) := rfl
theorem c46_11 : cdx (mC m46) 11 = some (11, .invokevirtual 31, 3, 44, 0, 0, 2166, [(7, 0)]) := rfl
theorem c46_14 : cdx (mC m46) 14 = some (14, .aload_n 1, 1, 1, 0, 0, 0, []) := rfl
theorem c46_15 : cdx (mC m46) 15 = some (15, .iload_n 2, 1, 2, 0, 0, 0, []) := rfl
theorem c46_16 : cdx (mC m46) 16 = some (16, .invokevirtual 73, 3, 49, 1, 0, 2191, [(99, 0)]) := rfl
theorem c46_19 : cdx (mC m46) 19 = some (19, .if_icmp .eq 5, 3, 24, 0, 0, 0, []) := rfl
theorem c46_22 : cdx (mC m46) 22 = some (22, .iconst 0, 1, 0, 0, 0, 0, []) := rfl
theorem c46_23 : cdx (mC m46) 23 = some (23, .ireturn, 1, 0, 0, 0, 0, []) := rfl
theorem c46_24 : cdx (mC m46) 24 = some (24, .aload_n 0, 1, 0, 0, 0, 0, []) := rfl
theorem c46_25 : cdx (mC m46) 25 = some (25, .dup, 1, 0, 0, 0, 0, []) := rfl
theorem c46_26 : cdx (mC m46) 26 = some (26, .getfield 19, 3, 7, 2, 0, 1138, []) := rfl
theorem c46_29 : cdx (mC m46) 29 = some (29, .iconst 1, 1, 0, 0, 0, 0, []) := rfl
theorem c46_30 : cdx (mC m46) 30 = some (30, .iadd, 1, 0, 0, 0, 0, []) := rfl
theorem c46_31 : cdx (mC m46) 31 = some (31, .putfield 19, 3, 7, 2, 0, 1138, []) := rfl
theorem c46_34 : cdx (mC m46) 34 = some (34, .iinc 2 1, 3, 2, 0, 0, 0, []) := rfl
theorem c46_37 : cdx (mC m46) 37 = some (37, .goto (-35), 3, 2, 0, 0, 0, []) := rfl
theorem c46_40 : cdx (mC m46) 40 = some (40, .iconst 1, 1, 0, 0, 0, 0, []) := rfl
theorem c46_41 : cdx (mC m46) 41 = some (41, .ireturn, 1, 0, 0, 0, 0, []) := rfl
theorem b46_0 {X : Nat × (Nat → Int32)} {d : Nat} {I : Nat → Nat → Int32} {L : Nat → Nat → Int64} {Q : Option Value → XW → Prop} {r1 nr1 : Nat} {fr1 : Nat → Int32} (hr1 : isStr r1 nr1 fr1) : wp X d m46 0 [some (.ref 64), some (.ref r1), none] [] (K0, R0, I, L) Q ↔ wp X d m46 2 [some (.ref 64), some (.ref r1), some (.int 0)] [] (K0, R0, I, L) Q := (w_iconst (pc' := 1) (v := 0) c46_0 rfl rfl).trans ((w_istore_n (pc' := 2) (ls' := [some (.ref 64), some (.ref r1), some (.int 0)]) c46_1 (Nat.le_of_ble_eq_true rfl) rfl rfl))
theorem b46_2 {X : Nat × (Nat → Int32)} {d : Nat} {I : Nat → Nat → Int32} {L : Nat → Nat → Int64} {Q : Option Value → XW → Prop} {r1 nr1 : Nat} {fr1 : Nat → Int32} {x2 : Int32} (hr1 : isStr r1 nr1 fr1) : wp X (d + 1) m46 2 [some (.ref 64), some (.ref r1), some (.int x2)] [] (K0, R0, I, L) Q ↔ wp X d m47 0 [some (.ref r1)] [] (K0, R0, I, L) (fun r w1 => wp X (d + 1) m46 7 [some (.ref 64), some (.ref r1), some (.int x2)] (r.toList ++ [(.int x2)]) w1 Q) := (w_iload_n (pc' := 3) c46_2 rfl rfl).trans ((w_aload_n (pc' := 4) c46_3 rfl rfl).trans ((w_calls (pc' := 7) c46_4 mt47 rfl (Nat.le_of_ble_eq_true rfl) rfl hr1.1 hr1.2.1 rfl (Nat.le_of_ble_eq_true rfl) rfl rfl)))
theorem b46_7 {X : Nat × (Nat → Int32)} {d : Nat} {I : Nat → Nat → Int32} {L : Nat → Nat → Int64} {Q : Option Value → XW → Prop} {r1 nr1 : Nat} {fr1 : Nat → Int32} {x2 : Int32} {s0 : Int32} {s1 : Int32} (hr1 : isStr r1 nr1 fr1) : wp X (d + 1) m46 7 [some (.ref 64), some (.ref r1), some (.int x2)] [(.int s1), (.int s0)] (K0, R0, I, L) Q ↔ (if s0 < s1 then wp X d m44 0 [some (.ref 64)] [] (K0, R0, I, L) (fun r w1 => wp X (d + 1) m46 14 [some (.ref 64), some (.ref r1), some (.int x2)] (r.toList ++ []) w1 Q) else Q (some (.int 1)) (K0, R0, I, L)) := (w_icmp_ge (pc' := 10) c46_7 rfl).trans (ite_iff ((w_aload_n (pc' := 11) c46_10 rfl rfl).trans ((w_callv (pc' := 14) c46_11 mt44 rfl (Nat.le_of_ble_eq_true rfl) rfl kd_64 rfl rfl (Nat.le_of_ble_eq_true rfl) rfl rfl))) ((w_iconst (pc' := 41) (v := 1) c46_40 rfl rfl).trans ((w_zret (ty := .boolean) c46_41 rfl (by decide)).trans (and_iff_right (by decide)))))
theorem b46_14 {X : Nat × (Nat → Int32)} {d : Nat} {I : Nat → Nat → Int32} {L : Nat → Nat → Int64} {Q : Option Value → XW → Prop} {r1 nr1 : Nat} {fr1 : Nat → Int32} {x2 : Int32} {s0 : Int32} (hr1 : isStr r1 nr1 fr1) : wp X (d + 1) m46 14 [some (.ref 64), some (.ref r1), some (.int x2)] [(.int s0)] (K0, R0, I, L) Q ↔ wp X d m49 0 [some (.ref r1), some (.int x2)] [] (K0, R0, I, L) (fun r w1 => wp X (d + 1) m46 19 [some (.ref 64), some (.ref r1), some (.int x2)] (r.toList ++ [(.int s0)]) w1 Q) := (w_aload_n (pc' := 15) c46_14 rfl rfl).trans ((w_iload_n (pc' := 16) c46_15 rfl rfl).trans ((w_calls (pc' := 19) c46_16 mt49 rfl (Nat.le_of_ble_eq_true rfl) rfl hr1.1 hr1.2.1 rfl (Nat.le_of_ble_eq_true rfl) rfl rfl)))
theorem b46_19 {X : Nat × (Nat → Int32)} {d : Nat} {I : Nat → Nat → Int32} {L : Nat → Nat → Int64} {Q : Option Value → XW → Prop} {r1 nr1 : Nat} {fr1 : Nat → Int32} {x2 : Int32} {s0 : Int32} {s1 : Int32} (hr1 : isStr r1 nr1 fr1) : wp X d m46 19 [some (.ref 64), some (.ref r1), some (.int x2)] [(.int s1), (.int s0)] (K0, R0, I, L) Q ↔ (if s0 = s1 then wp X d m46 2 [some (.ref 64), some (.ref r1), some (.int (x2 + 1))] [] (K0, R0, (updR I 64 2 ((I 64 2) + 1)), L) Q else Q (some (.int 0)) (K0, R0, I, L)) := (w_icmp_eq (pc' := 22) c46_19 rfl).trans (ite_iff ((w_aload_n (pc' := 25) c46_24 rfl rfl).trans ((w_dup (pc' := 26) c46_25 rfl rfl).trans ((w_getIv (pc' := 29) (v := (I 64 2)) c46_26 kd_64 (by decide) rfl (rfl) rfl).trans ((w_iconst (pc' := 30) (v := 1) c46_29 rfl rfl).trans ((w_iadd (pc' := 31) c46_30 rfl).trans ((w_putI (pc' := 34) c46_31 kd_64 (by decide) rfl rfl rfl).trans ((w_iinc (pc' := 37) (v := (x2 + 1)) (ls' := [some (.ref 64), some (.ref r1), some (.int (x2 + 1))]) c46_34 (Nat.le_of_ble_eq_true rfl) rfl rfl rfl rfl).trans ((w_goto c46_37))))))))) ((w_iconst (pc' := 23) (v := 0) c46_22 rfl rfl).trans ((w_zret (ty := .boolean) c46_23 rfl (by decide)).trans (and_iff_right (by decide)))))
