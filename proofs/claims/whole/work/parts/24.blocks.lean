/-! Block equations of the methods 47 to 79 (printed by a program of ours out of their code). -/
-- java/lang/String.length()I
theorem c47_0 : cdx (mC m47) 0 = some (0, .aload_n 0, 1, 0, 0, 0, 0, []) := rfl
theorem c47_1 : cdx (mC m47) 1 = some (1, .getfield 9, 3, 0, 1, 1, 6230, []) := rfl
theorem c47_4 : cdx (mC m47) 4 = some (4, .arraylength, 1, 0, 0, 0, 0, []) := rfl
theorem c47_5 : cdx (mC m47) 5 = some (5, .aload_n 0, 1, 0, 0, 0, 0, []) := rfl
theorem c47_6 : cdx (mC m47) 6 = some (6, .invokevirtual 335, 3, 48, 0, 0, 2185, [(99, 0)]) := rfl
theorem c47_9 : cdx (mC m47) 9 = some (9, .ishr, 1, 0, 0, 0, 0, []) := rfl
theorem c47_10 : cdx (mC m47) 10 = some (10, .ireturn, 1, 0, 0, 0, 0, []) := rfl
def lv47 : List (Nat × List Nat) := [(0, [0]), (1, [0]), (4, [0]), (5, [0])]
theorem lvok47 : lvOk (mC m47) lv47 = true := by decide +kernel
theorem b47_0 {X : Nat × (Nat → Int32)} {d : Nat} {I : Nat → Nat → Int32} {L : Nat → Nat → Int64} {Q : Option Value → XW → Prop} {r0 nr0 : Nat} {fr0 : Nat → Int32} (hr0 : isStr r0 nr0 fr0) : wp X (d + 1) m47 0 [some (.ref r0)] [] (K0, R0, I, L) Q ↔ wp X d m48 0 [some (.ref r0)] [] (K0, R0, I, L) (fun r w1 => wp X (d + 1) m47 9 [none] (r.toList ++ [(.int (Int32.ofNat nr0))]) w1 Q) := (w_aload_n (pc' := 1) c47_0 rfl rfl).trans ((w_getS1 (pc' := 4) c47_1 hr0.1 hr0.2.1 rfl rfl).trans ((w_alen_b (pc' := 5) (v := Int32.ofNat nr0) c47_4 (strBytes (X := X) hr0).1 (strBytes (X := X) hr0).2.1 (strBytes (X := X) hr0).2.2 rfl rfl).trans ((w_aload_n (pc' := 6) c47_5 rfl rfl).trans ((w_calls (pc' := 9) c47_6 mt48 rfl (Nat.le_of_ble_eq_true rfl) rfl hr0.1 hr0.2.1 rfl (Nat.le_of_ble_eq_true rfl) rfl rfl).trans (wp_congr (fun r w1 => wp_msk lvok47 rfl))))))
theorem b47_9 {X : Nat × (Nat → Int32)} {d : Nat} {I : Nat → Nat → Int32} {L : Nat → Nat → Int64} {Q : Option Value → XW → Prop} {s0 : Int32} {s1 : Int32}  : wp X d m47 9 [none] [(.int s1), (.int s0)] (K0, R0, I, L) Q ↔ Q (some (.int (s0 >>> (s1 &&& 31)))) (K0, R0, I, L) := (w_ishr (pc' := 10) c47_9 rfl).trans (w_iret c47_10 rfl)
-- java/lang/String.coder()B
theorem c48_0 : cdx (mC m48) 0 = some (0, .getstatic 38, 3, 0, 1, 1, 2189, []) := rfl
theorem c48_3 : cdx (mC m48) 3 = some (3, .ifCond .eq 10, 3, 13, 0, 0, 0, []) := rfl
theorem c48_6 : cdx (mC m48) 6 = some (6, .aload_n 0, 1, 0, 0, 0, 0, []) := rfl
theorem c48_7 : cdx (mC m48) 7 = some (7, .getfield 15, 3, 0, 0, 1, 6231, []) := rfl
theorem c48_10 : cdx (mC m48) 10 = some (10, .goto 4, 3, 14, 0, 0, 0, []) := rfl
theorem c48_13 : cdx (mC m48) 13 = some (13, .iconst 1, 1, 0, 0, 0, 0, []) := rfl
theorem c48_14 : cdx (mC m48) 14 = some (14, .ireturn, 1, 0, 0, 0, 0, []) := rfl
theorem b48_0 {X : Nat × (Nat → Int32)} {d : Nat} {I : Nat → Nat → Int32} {L : Nat → Nat → Int64} {Q : Option Value → XW → Prop} {r0 nr0 : Nat} {fr0 : Nat → Int32} (hr0 : isStr r0 nr0 fr0) : wp X d m48 0 [some (.ref r0)] [] (K0, R0, I, L) Q ↔ Q (some (.int (if (1 : Int32) = 0 then 1 else 0))) (K0, R0, I, L) := (w_gets_i (pc' := 3) (v := 1) c48_0 rfl rfl).trans ((w_if_eq (pc' := 6) c48_3 rfl).trans ((ite_iff ((w_iconst (pc' := 14) (v := 1) c48_13 rfl rfl).trans ((w_zret (ty := .byte) c48_14 rfl (by decide)).trans (and_iff_right (by decide)))) ((w_aload_n (pc' := 7) c48_6 rfl rfl).trans ((w_getS0 (pc' := 10) c48_7 hr0.1 hr0.2.1 rfl rfl).trans ((w_goto c48_10).trans ((w_zret (ty := .byte) c48_14 rfl (by decide)).trans (and_iff_right (by decide))))))).trans (ite_val (fun z => Q (some (.int z)) (K0, R0, I, L)))))
-- java/lang/String.charAt(I)C
theorem c49_0 : cdx (mC m49) 0 = some (0, .aload_n 0, 1, 0, 0, 0, 0, []) := rfl
theorem c49_1 : cdx (mC m49) 1 = some (1, .invokevirtual 492, 3, 50, 0, 0, 2195, [(99, 0)]) := rfl
theorem c49_4 : cdx (mC m49) 4 = some (4, .ifCond .eq 12, 3, 16, 0, 0, 0, []) := rfl
theorem c49_7 : cdx (mC m49) 7 = some (7, .aload_n 0, 1, 0, 0, 0, 0, []) := rfl
theorem c49_8 : cdx (mC m49) 8 = some (8, .getfield 9, 3, 0, 1, 1, 6230, []) := rfl
theorem c49_11 : cdx (mC m49) 11 = some (11, .iload_n 1, 1, 1, 0, 0, 0, []) := rfl
theorem c49_12 : cdx (mC m49) 12 = some (12, .invokestatic 495, 3, 51, 2, 5, 2199, []) := rfl
theorem c49_15 : cdx (mC m49) 15 = some (15, .ireturn, 1, 0, 0, 0, 0, []) := rfl
theorem c49_16 : cdx (mC m49) 16 = some (16, .aload_n 0, 1, 0, 0, 0, 0, []) := rfl
theorem c49_17 : cdx (mC m49) 17 = some (17, .getfield 9, 3, 0, 1, 1, 6230, []) := rfl
theorem c49_20 : cdx (mC m49) 20 = some (20, .iload_n 1, 1, 1, 0, 0, 0, []) := rfl
theorem c49_21 : cdx (mC m49) 21 = some (21, .invokestatic 498, 3, 0, 0, 99, 0, []) := rfl
def lv49 : List (Nat × List Nat) := [(0, [0, 1]), (1, [0, 1]), (4, [0, 1]), (7, [0, 1]), (8, [1]), (11, [1]), (16, [0, 1]), (17, [1]), (20, [1])]
theorem lvok49 : lvOk (mC m49) lv49 = true := by decide +kernel
theorem b49_0 {X : Nat × (Nat → Int32)} {d : Nat} {I : Nat → Nat → Int32} {L : Nat → Nat → Int64} {Q : Option Value → XW → Prop} {r0 nr0 : Nat} {fr0 : Nat → Int32} {x1 : Int32} (hr0 : isStr r0 nr0 fr0) : wp X (d + 1) m49 0 [some (.ref r0), some (.int x1)] [] (K0, R0, I, L) Q ↔ wp X d m50 0 [some (.ref r0)] [] (K0, R0, I, L) (fun r w1 => wp X (d + 1) m49 4 [some (.ref r0), some (.int x1)] (r.toList ++ []) w1 Q) := (w_aload_n (pc' := 1) c49_0 rfl rfl).trans ((w_calls (pc' := 4) c49_1 mt50 rfl (Nat.le_of_ble_eq_true rfl) rfl hr0.1 hr0.2.1 rfl (Nat.le_of_ble_eq_true rfl) rfl rfl))
theorem b49_4 {X : Nat × (Nat → Int32)} {d : Nat} {I : Nat → Nat → Int32} {L : Nat → Nat → Int64} {Q : Option Value → XW → Prop} {r0 nr0 : Nat} {fr0 : Nat → Int32} {x1 : Int32} {s0 : Int32} (hr0 : isStr r0 nr0 fr0) : wp X (d + 1) m49 4 [some (.ref r0), some (.int x1)] [(.int s0)] (K0, R0, I, L) Q ↔ (if s0 = 0 then wp X (d + 1) m49 21 [some (.ref r0), some (.int x1)] [(.int x1), (.ref (r0 + 20))] (K0, R0, I, L) Q else wp X d m51 0 [some (.ref (r0 + 20)), some (.int x1)] [] (K0, R0, I, L) (fun r w1 => wp X (d + 1) m49 15 [none, none] (r.toList ++ []) w1 Q)) := (w_if_eq (pc' := 7) c49_4 rfl).trans (ite_iff ((w_aload_n (pc' := 17) c49_16 rfl rfl).trans ((w_getS1 (pc' := 20) c49_17 hr0.1 hr0.2.1 rfl rfl).trans ((w_iload_n (pc' := 21) c49_20 rfl rfl)))) ((w_aload_n (pc' := 8) c49_7 rfl rfl).trans ((w_getS1 (pc' := 11) c49_8 hr0.1 hr0.2.1 rfl rfl).trans ((w_iload_n (pc' := 12) c49_11 rfl rfl).trans ((w_callst (pc' := 15) c49_12 (by decide) mt51 rfl (Nat.le_of_ble_eq_true rfl) rfl rfl (Nat.le_of_ble_eq_true rfl) rfl rfl).trans (wp_congr (fun r w1 => wp_msk lvok49 rfl)))))))
theorem b49_15 {X : Nat × (Nat → Int32)} {d : Nat} {I : Nat → Nat → Int32} {L : Nat → Nat → Int64} {Q : Option Value → XW → Prop} {s0 : Int32}  : wp X d m49 15 [none, none] [(.int s0)] (K0, R0, I, L) Q ↔ (fits .char (.int s0) = true ∧ Q (some (.int s0)) (K0, R0, I, L)) := w_zret c49_15 rfl (by decide)
-- java/lang/String.isLatin1()Z
theorem c50_0 : cdx (mC m50) 0 = some (0, .getstatic 38, 3, 0, 1, 1, 2189, []) := rfl
theorem c50_3 : cdx (mC m50) 3 = some (3, .ifCond .eq 14, 3, 17, 0, 0, 0, []) := rfl
theorem c50_6 : cdx (mC m50) 6 = some (6, .aload_n 0, 1, 0, 0, 0, 0, []) := rfl
theorem c50_7 : cdx (mC m50) 7 = some (7, .getfield 15, 3, 0, 0, 1, 6231, []) := rfl
theorem c50_10 : cdx (mC m50) 10 = some (10, .ifCond .ne 7, 3, 17, 0, 0, 0, []) := rfl
theorem c50_13 : cdx (mC m50) 13 = some (13, .iconst 1, 1, 0, 0, 0, 0, []) := rfl
theorem c50_14 : cdx (mC m50) 14 = some (14, .goto 4, 3, 18, 0, 0, 0, []) := rfl
theorem c50_17 : cdx (mC m50) 17 = some (17, .iconst 0, 1, 0, 0, 0, 0, []) := rfl
theorem c50_18 : cdx (mC m50) 18 = some (18, .ireturn, 1, 0, 0, 0, 0, []) := rfl
theorem b50_0 {X : Nat × (Nat → Int32)} {d : Nat} {I : Nat → Nat → Int32} {L : Nat → Nat → Int64} {Q : Option Value → XW → Prop} {r0 nr0 : Nat} {fr0 : Nat → Int32} (hr0 : isStr r0 nr0 fr0) : wp X d m50 0 [some (.ref r0)] [] (K0, R0, I, L) Q ↔ Q (some (.int (if (1 : Int32) = 0 then 0 else (if (0 : Int32) = 0 then 1 else 0)))) (K0, R0, I, L) := (w_gets_i (pc' := 3) (v := 1) c50_0 rfl rfl).trans ((w_if_eq (pc' := 6) c50_3 rfl).trans ((ite_iff ((w_iconst (pc' := 18) (v := 0) c50_17 rfl rfl).trans ((w_zret (ty := .boolean) c50_18 rfl (by decide)).trans (and_iff_right (by decide)))) ((w_aload_n (pc' := 7) c50_6 rfl rfl).trans ((w_getS0 (pc' := 10) c50_7 hr0.1 hr0.2.1 rfl rfl).trans ((w_if_ne (pc' := 13) c50_10 rfl).trans ((ite_iff ((w_iconst (pc' := 14) (v := 1) c50_13 rfl rfl).trans ((w_goto c50_14).trans ((w_zret (ty := .boolean) c50_18 rfl (by decide)).trans (and_iff_right (by decide))))) ((w_iconst (pc' := 18) (v := 0) c50_17 rfl rfl).trans ((w_zret (ty := .boolean) c50_18 rfl (by decide)).trans (and_iff_right (by decide))))).trans (ite_val (fun z => Q (some (.int z)) (K0, R0, I, L)))))))).trans (ite_val (fun z => Q (some (.int z)) (K0, R0, I, L)))))
-- java/lang/StringLatin1.charAt([BI)C
theorem c51_0 : cdx (mC m51) 0 = some (0, .iload_n 1, 1, 1, 0, 0, 0, []) := rfl
theorem c51_1 : cdx (mC m51) 1 = some (1, .aload_n 0, 1, 0, 0, 0, 0, []) := rfl
theorem c51_2 : cdx (mC m51) 2 = some (2, .arraylength, 1, 0, 0, 0, 0, []) := rfl
theorem c51_3 : cdx (mC m51) 3 = some (3, .invokestatic 9, 3, 52, 2, 5, 2202, []) := rfl
theorem c51_6 : cdx (mC m51) 6 = some (6, .aload_n 0, 1, 0, 0, 0, 0, []) := rfl
theorem c51_7 : cdx (mC m51) 7 = some (7, .iload_n 1, 1, 1, 0, 0, 0, []) := rfl
theorem c51_8 : cdx (mC m51) 8 = some (8, .baload, 1, 0, 0, 0, 0, []) := rfl
theorem c51_9 : cdx (mC m51) 9 = some (9, .sipush 255, 3, 0, 0, 0, 0, []) := rfl
theorem c51_12 : cdx (mC m51) 12 = some (12, .iand, 1, 0, 0, 0, 0, []) := rfl
theorem c51_13 : cdx (mC m51) 13 = some (13, .i2c, 1, 0, 0, 0, 0, []) := rfl
theorem c51_14 : cdx (mC m51) 14 = some (14, .ireturn, 1, 0, 0, 0, 0, []) := rfl
theorem b51_0 {X : Nat × (Nat → Int32)} {d : Nat} {I : Nat → Nat → Int32} {L : Nat → Nat → Int64} {Q : Option Value → XW → Prop} {r0 nr0 : Nat} {fr0 : Nat → Int32} {x1 : Int32} (hr0 : K0[r0]? = none ∧ cInts X r0 = none ∧ cByts r0 = some (nr0, fr0)) : wp X (d + 1) m51 0 [some (.ref r0), some (.int x1)] [] (K0, R0, I, L) Q ↔ wp X d m52 0 [some (.int x1), some (.int (Int32.ofNat nr0))] [] (K0, R0, I, L) (fun r w1 => wp X (d + 1) m51 6 [some (.ref r0), some (.int x1)] (r.toList ++ []) w1 Q) := (w_iload_n (pc' := 1) c51_0 rfl rfl).trans ((w_aload_n (pc' := 2) c51_1 rfl rfl).trans ((w_alen_b (pc' := 3) (v := Int32.ofNat nr0) c51_2 hr0.1 hr0.2.1 hr0.2.2 rfl rfl).trans ((w_callst (pc' := 6) c51_3 (by decide) mt52 rfl (Nat.le_of_ble_eq_true rfl) rfl rfl (Nat.le_of_ble_eq_true rfl) rfl rfl))))
theorem b51_6 {X : Nat × (Nat → Int32)} {d : Nat} {I : Nat → Nat → Int32} {L : Nat → Nat → Int64} {Q : Option Value → XW → Prop} {r0 nr0 : Nat} {fr0 : Nat → Int32} {x1 : Int32} (hr0 : K0[r0]? = none ∧ cInts X r0 = none ∧ cByts r0 = some (nr0, fr0)) : wp X d m51 6 [some (.ref r0), some (.int x1)] [] (K0, R0, I, L) Q ↔ (inA x1 nr0 = true ∧ (fits .char (.int (((Int32.toUInt32 ((fr0 (Int32.toNatClampNeg x1)) &&& (255 : Int32))) % 65536).toInt32)) = true ∧ Q (some (.int (((Int32.toUInt32 ((fr0 (Int32.toNatClampNeg x1)) &&& (255 : Int32))) % 65536).toInt32))) (K0, R0, I, L))) := (w_aload_n (pc' := 7) c51_6 rfl rfl).trans ((w_iload_n (pc' := 8) c51_7 rfl rfl).trans ((w_bald_c (pc' := 9) c51_8 hr0.1 hr0.2.2 rfl).trans (and_congr_right (fun _ => (w_sipush (pc' := 12) (v := 255) c51_9 rfl rfl).trans ((w_iand (pc' := 13) c51_12 rfl).trans ((w_i2c (pc' := 14) c51_13 rfl).trans (w_zret c51_14 rfl (by decide))))))))
-- java/lang/String.checkIndex(II)V
theorem c52_0 : cdx (mC m52) 0 = some (0, .iload_n 0, 1, 0, 0, 0, 0, []) := rfl
theorem c52_1 : cdx (mC m52) 1 = some (1, .iload_n 1, 1, 1, 0, 0, 0, []) := rfl
theorem c52_2 : cdx (mC m52) 2 = some (2, .getstatic 1053, 3, 0, 20, 0, 2205, []) := rfl
theorem c52_5 : cdx (mC m52) 5 = some (5, .invokestatic 1059, 3, 53, 3, 5, 2207, []) := rfl
theorem c52_8 : cdx (mC m52) 8 = some (8, .pop, 1, 0, 0, 0, 0, []) := rfl
theorem c52_9 : cdx (mC m52) 9 = some (9, .return_, 1, 0, 0, 0, 0, []) := rfl
def lv52 : List (Nat × List Nat) := [(0, [0, 1]), (1, [1])]
theorem lvok52 : lvOk (mC m52) lv52 = true := by decide +kernel
theorem b52_0 {X : Nat × (Nat → Int32)} {d : Nat} {I : Nat → Nat → Int32} {L : Nat → Nat → Int64} {Q : Option Value → XW → Prop} {x0 : Int32} {x1 : Int32}  : wp X (d + 1) m52 0 [some (.int x0), some (.int x1)] [] (K0, R0, I, L) Q ↔ wp X d m53 0 [some (.int x0), some (.int x1), some (.ref 1000060)] [] (K0, R0, I, L) (fun r w1 => wp X (d + 1) m52 8 [none, none] (r.toList ++ []) w1 Q) := (w_iload_n (pc' := 1) c52_0 rfl rfl).trans ((w_iload_n (pc' := 2) c52_1 rfl rfl).trans ((w_gets_r (pc' := 5) (q := 1000060) c52_2 rfl rfl).trans ((w_callst (pc' := 8) c52_5 (by decide) mt53 rfl (Nat.le_of_ble_eq_true rfl) rfl rfl (Nat.le_of_ble_eq_true rfl) rfl rfl).trans (wp_congr (fun r w1 => wp_msk lvok52 rfl)))))
theorem b52_8 {X : Nat × (Nat → Int32)} {d : Nat} {I : Nat → Nat → Int32} {L : Nat → Nat → Int64} {Q : Option Value → XW → Prop} {s0 : Int32}  : wp X d m52 8 [none, none] [(.int s0)] (K0, R0, I, L) Q ↔ Q none (K0, R0, I, L) := (w_pop (pc' := 9) c52_8 rfl rfl).trans (w_vret c52_9 rfl)
-- jdk/internal/util/Preconditions.checkIndex(IILjava/util/function/BiFunction;)I
theorem c53_0 : cdx (mC m53) 0 = some (0, .iload_n 0, 1, 0, 0, 0, 0, []) := rfl
theorem c53_1 : cdx (mC m53) 1 = some (1, .ifCond .lt 8, 3, 9, 0, 0, 0, []) := rfl
theorem c53_4 : cdx (mC m53) 4 = some (4, .iload_n 0, 1, 0, 0, 0, 0, []) := rfl
theorem c53_5 : cdx (mC m53) 5 = some (5, .iload_n 1, 1, 1, 0, 0, 0, []) := rfl
theorem c53_6 : cdx (mC m53) 6 = some (6, .if_icmp .lt 10, 3, 16, 0, 0, 0, []) := rfl
theorem c53_9 : cdx (mC m53) 9 = some (9, .aload_n 2, 1, 2, 0, 0, 0, []) := rfl
theorem c53_10 : cdx (mC m53) 10 = some (10, .iload_n 0, 1, 0, 0, 0, 0, []) := rfl
theorem c53_11 : cdx (mC m53) 11 = some (11, .iload_n 1, 1, 1, 0, 0, 0, []) := rfl
theorem c53_12 : cdx (mC m53) 12 = some (12, .invokestatic 95, 3, 0, 0, 99, 0, []) := rfl
theorem c53_16 : cdx (mC m53) 16 = some (16, .iload_n 0, 1, 0, 0, 0, 0, []) := rfl
theorem c53_17 : cdx (mC m53) 17 = some (17, .ireturn, 1, 0, 0, 0, 0, []) := rfl
theorem b53_0 {X : Nat × (Nat → Int32)} {d : Nat} {I : Nat → Nat → Int32} {L : Nat → Nat → Int64} {Q : Option Value → XW → Prop} {x0 : Int32} {x1 : Int32}  : wp X d m53 0 [some (.int x0), some (.int x1), some (.ref 1000060)] [] (K0, R0, I, L) Q ↔ (if x0 < 0 then wp X d m53 12 [some (.int x0), some (.int x1), some (.ref 1000060)] [(.int x1), (.int x0), (.ref 1000060)] (K0, R0, I, L) Q else (if x0 < x1 then Q (some (.int x0)) (K0, R0, I, L) else wp X d m53 12 [some (.int x0), some (.int x1), some (.ref 1000060)] [(.int x1), (.int x0), (.ref 1000060)] (K0, R0, I, L) Q)) := (w_iload_n (pc' := 1) c53_0 rfl rfl).trans ((w_if_lt (pc' := 4) c53_1 rfl).trans (ite_iff ((w_aload_n (pc' := 10) c53_9 rfl rfl).trans ((w_iload_n (pc' := 11) c53_10 rfl rfl).trans ((w_iload_n (pc' := 12) c53_11 rfl rfl)))) ((w_iload_n (pc' := 5) c53_4 rfl rfl).trans ((w_iload_n (pc' := 6) c53_5 rfl rfl).trans ((w_icmp_lt (pc' := 9) c53_6 rfl).trans (ite_iff ((w_iload_n (pc' := 17) c53_16 rfl rfl).trans (w_iret c53_17 rfl)) ((w_aload_n (pc' := 10) c53_9 rfl rfl).trans ((w_iload_n (pc' := 11) c53_10 rfl rfl).trans ((w_iload_n (pc' := 12) c53_11 rfl rfl))))))))))
-- LeavesObject$Text.readNumber()I
theorem c54_0 : cdx (mC m54) 0 = some (0, .iconst (-1), 1, 0, 0, 0, 0, []) := rfl
theorem c54_1 : cdx (mC m54) 1 = some (1, .istore_n 1, 1, 1, 0, 0, 0, []) := rfl
theorem c54_2 : cdx (mC m54) 2 = some (2, .iconst 0, 1, 0, 0, 0, 0, []) := rfl
theorem c54_3 : cdx (mC m54) 3 = some (3, .istore_n 2, 1, 2, 0, 0, 0, []) := rfl
theorem c54_4 : cdx (mC m54) 4 = some (4, .iload_n 2, 1, 2, 0, 0, 0, []) := rfl
theorem c54_5 : cdx (mC m54) 5 = some (5, .iconst 2, 1, 0, 0, 0, 0, []) := rfl
theorem c54_6 : cdx (mC m54) 6 = some (6, .if_icmp .ge 47, 3, 53, 0, 0, 0, []) := rfl
theorem c54_9 : cdx (mC m54) 9 = some (9, .aload_n 0, 1, 0, 0, 0, 0, []) := rfl
theorem c54_10 : cdx (mC m54) 10 = some (10, .invokevirtual 31, 3, 44, 0, 0, 2166, [(7, 0)]) := rfl
theorem c54_13 : cdx (mC m54) 13 = some (13, .bipush 48, 2, 0, 0, 0, 0, []) := rfl
theorem c54_15 : cdx (mC m54) 15 = some (15, .isub, 1, 0, 0, 0, 0, []) := rfl
theorem c54_16 : cdx (mC m54) 16 = some (16, .istore_n 3, 1, 3, 0, 0, 0, []) := rfl
theorem c54_17 : cdx (mC m54) 17 = some (17, .iload_n 3, 1, 3, 0, 0, 0, []) := rfl
theorem c54_18 : cdx (mC m54) 18 = some (18, .invokestatic 77, 3, 11, 1, 6, 2234, []) := rfl
theorem c54_21 : cdx (mC m54) 21 = some (21, .ifCond .ne 5, 3, 26, 0, 0, 0, []) := rfl
theorem c54_24 : cdx (mC m54) 24 = some (24, .iload_n 1, 1, 1, 0, 0, 0, []) := rfl
theorem c54_25 : cdx (mC m54) 25 = some (25, .ireturn, 1, 0, 0, 0, 0, []) := rfl
theorem c54_26 : cdx (mC m54) 26 = some (26, .iload_n 1, 1, 1, 0, 0, 0, []) := rfl
theorem c54_27 : cdx (mC m54) 27 = some (27, .iconst 0, 1, 0, 0, 0, 0, []) := rfl
theorem c54_28 : cdx (mC m54) 28 = some (28, .invokestatic 81, 3, 3, 2, 5, 2235, []) := rfl
theorem c54_31 : cdx (mC m54) 31 = some (31, .bipush 10, 2, 0, 0, 0, 0, []) := rfl
theorem c54_33 : cdx (mC m54) 33 = some (33, .imul, 1, 0, 0, 0, 0, []) := rfl
theorem c54_34 : cdx (mC m54) 34 = some (34, .iload_n 3, 1, 3, 0, 0, 0, []) := rfl
theorem c54_35 : cdx (mC m54) 35 = some (35, .iadd, 1, 0, 0, 0, 0, []) := rfl
theorem c54_36 : cdx (mC m54) 36 = some (36, .istore_n 1, 1, 1, 0, 0, 0, []) := rfl
theorem c54_37 : cdx (mC m54) 37 = some (37, .aload_n 0, 1, 0, 0, 0, 0, []) := rfl
theorem c54_38 : cdx (mC m54) 38 = some (38, .dup, 1, 0, 0, 0, 0, []) := rfl
theorem c54_39 : cdx (mC m54) 39 = some (39, .getfield 19, 3, 7, 2, 0, 1138, []) := rfl
theorem c54_42 : cdx (mC m54) 42 = some (42, .iconst 1, 1, 0, 0, 0, 0, []) := rfl
theorem c54_43 : cdx (mC m54) 43 = some (43, .iadd, 1, 0, 0, 0, 0, []) := rfl
theorem c54_44 : cdx (mC m54) 44 = some (44, .putfield 19, 3, 7, 2, 0, 1138, []) := rfl
theorem c54_47 : cdx (mC m54) 47 = some (47, .iinc 2 1, 3, 2, 0, 0, 0, []) := rfl
theorem c54_50 : cdx (mC m54) 50 = some (50, .goto (-46), 3, 4, 0, 0, 0, []) := rfl
theorem c54_53 : cdx (mC m54) 53 = some (53, .iload_n 1, 1, 1, 0, 0, 0, []) := rfl
theorem c54_54 : cdx (mC m54) 54 = some (54, .ireturn, 1, 0, 0, 0, 0, []) := rfl
def lv54 : List (Nat × List Nat) := [(0, [0]), (1, [0]), (2, [0, 1]), (3, [0, 1]), (4, [0, 1, 2]), (5, [0, 1, 2]), (6, [0, 1, 2]), (9, [0, 1, 2]), (10, [0, 1, 2]), (13, [0, 1, 2]), (15, [0, 1, 2]), (16, [0, 1, 2]), (17, [0, 1, 2, 3]), (18, [0, 1, 2, 3]), (21, [0, 1, 2, 3]), (24, [1]), (26, [0, 1, 2, 3]), (27, [0, 2, 3]), (28, [0, 2, 3]), (31, [0, 2, 3]), (33, [0, 2, 3]), (34, [0, 2, 3]), (35, [0, 2]), (36, [0, 2]), (37, [0, 1, 2]), (38, [0, 1, 2]), (39, [0, 1, 2]), (42, [0, 1, 2]), (43, [0, 1, 2]), (44, [0, 1, 2]), (47, [0, 1, 2]), (50, [0, 1, 2]), (53, [1])]
theorem lvok54 : lvOk (mC m54) lv54 = true := by decide +kernel
theorem b54_0 {X : Nat × (Nat → Int32)} {d : Nat} {I : Nat → Nat → Int32} {L : Nat → Nat → Int64} {Q : Option Value → XW → Prop}   : wp X d m54 0 [some (.ref 64), none, none, none] [] (K0, R0, I, L) Q ↔ wp X d m54 4 [some (.ref 64), some (.int (-1)), some (.int 0), none] [] (K0, R0, I, L) Q := (w_iconst (pc' := 1) (v := (-1)) c54_0 rfl rfl).trans ((w_istore_n (pc' := 2) (ls' := [some (.ref 64), some (.int (-1)), none, none]) c54_1 (Nat.le_of_ble_eq_true rfl) rfl rfl).trans ((w_iconst (pc' := 3) (v := 0) c54_2 rfl rfl).trans ((w_istore_n (pc' := 4) (ls' := [some (.ref 64), some (.int (-1)), some (.int 0), none]) c54_3 (Nat.le_of_ble_eq_true rfl) rfl rfl))))
theorem b54_4 {X : Nat × (Nat → Int32)} {d : Nat} {I : Nat → Nat → Int32} {L : Nat → Nat → Int64} {Q : Option Value → XW → Prop} {x1 : Int32} {x2 : Int32}  : wp X (d + 1) m54 4 [some (.ref 64), some (.int x1), some (.int x2), none] [] (K0, R0, I, L) Q ↔ (if x2 < 2 then wp X d m44 0 [some (.ref 64)] [] (K0, R0, I, L) (fun r w1 => wp X (d + 1) m54 13 [some (.ref 64), some (.int x1), some (.int x2), none] (r.toList ++ []) w1 Q) else Q (some (.int x1)) (K0, R0, I, L)) := (w_iload_n (pc' := 5) c54_4 rfl rfl).trans ((w_iconst (pc' := 6) (v := 2) c54_5 rfl rfl).trans ((w_icmp_ge (pc' := 9) c54_6 rfl).trans (ite_iff ((w_aload_n (pc' := 10) c54_9 rfl rfl).trans ((w_callv (pc' := 13) c54_10 mt44 rfl (Nat.le_of_ble_eq_true rfl) rfl kd_64 rfl rfl (Nat.le_of_ble_eq_true rfl) rfl rfl))) ((w_iload_n (pc' := 54) c54_53 rfl rfl).trans (w_iret c54_54 rfl)))))
theorem b54_13 {X : Nat × (Nat → Int32)} {d : Nat} {I : Nat → Nat → Int32} {L : Nat → Nat → Int64} {Q : Option Value → XW → Prop} {x1 : Int32} {x2 : Int32} {s0 : Int32}  : wp X (d + 1) m54 13 [some (.ref 64), some (.int x1), some (.int x2), none] [(.int s0)] (K0, R0, I, L) Q ↔ wp X d m11 0 [some (.int (s0 - 48))] [] (K0, R0, I, L) (fun r w1 => wp X (d + 1) m54 21 [some (.ref 64), some (.int x1), some (.int x2), some (.int (s0 - 48))] (r.toList ++ []) w1 Q) := (w_bipush (pc' := 15) (v := 48) c54_13 rfl rfl).trans ((w_isub (pc' := 16) c54_15 rfl).trans ((w_istore_n (pc' := 17) (ls' := [some (.ref 64), some (.int x1), some (.int x2), some (.int (s0 - 48))]) c54_16 (Nat.le_of_ble_eq_true rfl) rfl rfl).trans ((w_iload_n (pc' := 18) c54_17 rfl rfl).trans ((w_callst (pc' := 21) c54_18 (by decide) mt11 rfl (Nat.le_of_ble_eq_true rfl) rfl rfl (Nat.le_of_ble_eq_true rfl) rfl rfl)))))
theorem b54_21 {X : Nat × (Nat → Int32)} {d : Nat} {I : Nat → Nat → Int32} {L : Nat → Nat → Int64} {Q : Option Value → XW → Prop} {x1 : Int32} {x2 : Int32} {x3 : Int32} {s0 : Int32}  : wp X (d + 1) m54 21 [some (.ref 64), some (.int x1), some (.int x2), some (.int x3)] [(.int s0)] (K0, R0, I, L) Q ↔ (if s0 = 0 then Q (some (.int x1)) (K0, R0, I, L) else wp X d m3 0 [some (.int x1), some (.int 0)] [] (K0, R0, I, L) (fun r w1 => wp X (d + 1) m54 31 [some (.ref 64), none, some (.int x2), some (.int x3)] (r.toList ++ []) w1 Q)) := (w_if_ne (pc' := 24) c54_21 rfl).trans (ite_iff ((w_iload_n (pc' := 25) c54_24 rfl rfl).trans (w_iret c54_25 rfl)) ((w_iload_n (pc' := 27) c54_26 rfl rfl).trans ((w_iconst (pc' := 28) (v := 0) c54_27 rfl rfl).trans ((w_callst (pc' := 31) c54_28 (by decide) mt3 rfl (Nat.le_of_ble_eq_true rfl) rfl rfl (Nat.le_of_ble_eq_true rfl) rfl rfl).trans (wp_congr (fun r w1 => wp_msk lvok54 rfl))))))
theorem b54_31 {X : Nat × (Nat → Int32)} {d : Nat} {I : Nat → Nat → Int32} {L : Nat → Nat → Int64} {Q : Option Value → XW → Prop} {x2 : Int32} {x3 : Int32} {s0 : Int32}  : wp X d m54 31 [some (.ref 64), none, some (.int x2), some (.int x3)] [(.int s0)] (K0, R0, I, L) Q ↔ wp X d m54 4 [some (.ref 64), some (.int ((s0 * 10) + x3)), some (.int (x2 + 1)), none] [] (K0, R0, (updR I 64 2 ((I 64 2) + 1)), L) Q := (w_bipush (pc' := 33) (v := 10) c54_31 rfl rfl).trans ((w_imul (pc' := 34) c54_33 rfl).trans ((w_iload_n (pc' := 35) c54_34 rfl rfl).trans ((w_iadd (pc' := 36) c54_35 rfl).trans ((w_istore_n (pc' := 37) (ls' := [some (.ref 64), some (.int ((s0 * 10) + x3)), some (.int x2), some (.int x3)]) c54_36 (Nat.le_of_ble_eq_true rfl) rfl rfl).trans ((w_aload_n (pc' := 38) c54_37 rfl rfl).trans ((w_dup (pc' := 39) c54_38 rfl rfl).trans ((w_getIv (pc' := 42) (v := (I 64 2)) c54_39 kd_64 (by decide) rfl (rfl) rfl).trans ((w_iconst (pc' := 43) (v := 1) c54_42 rfl rfl).trans ((w_iadd (pc' := 44) c54_43 rfl).trans ((w_putI (pc' := 47) c54_44 kd_64 (by decide) rfl rfl rfl).trans ((w_iinc (pc' := 50) (v := (x2 + 1)) (ls' := [some (.ref 64), some (.int ((s0 * 10) + x3)), some (.int (x2 + 1)), some (.int x3)]) c54_47 (Nat.le_of_ble_eq_true rfl) rfl rfl rfl rfl).trans ((w_goto c54_50).trans ((wp_msk lvok54 rfl))))))))))))))
-- LeavesObject$Text.readEither(LLeavesObject$Inn;I)Z
theorem c55_0 : cdx (mC m55) 0 = some (0, .aload_n 0, 1, 0, 0, 0, 0, []) := rfl
theorem c55_1 : cdx (mC m55) 1 = some (1, .aload_n 1, 1, 1, 0, 0, 0, []) := rfl
theorem c55_2 : cdx (mC m55) 2 = some (2, .iload_n 2, 1, 2, 0, 0, 0, []) := rfl
theorem c55_3 : cdx (mC m55) 3 = some (3, .invokevirtual 87, 3, 56, 2, 0, 3000, [(7, 0)]) := rfl
theorem c55_6 : cdx (mC m55) 6 = some (6, .ifCond .ne 5, 3, 11, 0, 0, 0, []) := rfl
theorem c55_9 : cdx (mC m55) 9 = some (9, .iconst 0, 1, 0, 0, 0, 0, []) := rfl
theorem c55_10 : cdx (mC m55) 10 = some (10, .ireturn, 1, 0, 0, 0, 0, []) := rfl
theorem c55_11 : cdx (mC m55) 11 = some (11, .iconst 0, 1, 0, 0, 0, 0, []) := rfl
theorem c55_12 : cdx (mC m55) 12 = some (12, .istore_n 3, 1, 3, 0, 0, 0, []) := rfl
theorem c55_13 : cdx (mC m55) 13 = some (13, .iload_n 3, 1, 3, 0, 0, 0, []) := rfl
theorem c55_14 : cdx (mC m55) 14 = some (14, .bipush 100, 2, 0, 0, 0, 0, []) := rfl
theorem c55_16 : cdx (mC m55) 16 = some (16, .if_icmp .ge 45, 3, 61, 0, 0, 0, []) := rfl
theorem c55_19 : cdx (mC m55) 19 = some (19, .aload_n 0, 1, 0, 0, 0, 0, []) := rfl
theorem c55_20 : cdx (mC m55) 20 = some (20, .invokevirtual 31, 3, 44, 0, 0, 2166, [(7, 0)]) := rfl
theorem c55_23 : cdx (mC m55) 23 = some (23, .bipush 124, 2, 0, 0, 0, 0, []) := rfl
theorem c55_25 : cdx (mC m55) 25 = some (25, .if_icmp .ne 36, 3, 61, 0, 0, 0, []) := rfl
theorem c55_28 : cdx (mC m55) 28 = some (28, .aload_n 0, 1, 0, 0, 0, 0, []) := rfl
theorem c55_29 : cdx (mC m55) 29 = some (29, .dup, 1, 0, 0, 0, 0, []) := rfl
theorem c55_30 : cdx (mC m55) 30 = some (30, .getfield 19, 3, 7, 2, 0, 1138, []) := rfl
theorem c55_33 : cdx (mC m55) 33 = some (33, .iconst 1, 1, 0, 0, 0, 0, []) := rfl
theorem c55_34 : cdx (mC m55) 34 = some (34, .iadd, 1, 0, 0, 0, 0, []) := rfl
theorem c55_35 : cdx (mC m55) 35 = some (35, .putfield 19, 3, 7, 2, 0, 1138, []) := rfl
theorem c55_38 : cdx (mC m55) 38 = some (38, .aload_n 0, 1, 0, 0, 0, 0, []) := rfl
theorem c55_39 : cdx (mC m55) 39 = some (39, .aload_n 1, 1, 1, 0, 0, 0, []) := rfl
theorem c55_40 : cdx (mC m55) 40 = some (40, .iload_n 2, 1, 2, 0, 0, 0, []) := rfl
theorem c55_41 : cdx (mC m55) 41 = some (41, .invokevirtual 87, 3, 56, 2, 0, 3000, [(7, 0)]) := rfl
theorem c55_44 : cdx (mC m55) 44 = some (44, .ifCond .ne 5, 3, 49, 0, 0, 0, []) := rfl
theorem c55_47 : cdx (mC m55) 47 = some (47, .iconst 0, 1, 0, 0, 0, 0, []) := rfl
theorem c55_48 : cdx (mC m55) 48 = some (48, .ireturn, 1, 0, 0, 0, 0, []) := rfl
theorem c55_49 : cdx (mC m55) 49 = some (49, .aload_n 1, 1, 1, 0, 0, 0, []) := rfl
theorem c55_50 : cdx (mC m55) 50 = some (50, .bipush (-3), 2, 0, 0, 0, 0, []) := rfl
theorem c55_52 : cdx (mC m55) 52 = some (52, .invokevirtual 90, 3, 61, 1, 0, 3009, [(2, 0)]) := rfl
theorem c55_55 : cdx (mC m55) 55 = some (55, .iinc 3 1, 3, 3, 0, 0, 0, []) := rfl
theorem c55_58 : cdx (mC m55) 58 = some (58, .goto (-45), 3, 13, 0, 0, 0, []) := rfl
theorem c55_61 : cdx (mC m55) 61 = some (61, .iconst 1, 1, 0, 0, 0, 0, []) := rfl
theorem c55_62 : cdx (mC m55) 62 = some (62, .ireturn, 1, 0, 0, 0, 0, []) := rfl
theorem b55_0 {X : Nat × (Nat → Int32)} {d : Nat} {I : Nat → Nat → Int32} {L : Nat → Nat → Int64} {Q : Option Value → XW → Prop} {r1 : Nat} {x2 : Int32} (hr1 : isInn r1) : wp X (d + 1) m55 0 [some (.ref 64), some (.ref r1), some (.int x2), none] [] (K0, R0, I, L) Q ↔ wp X d m56 0 [some (.ref 64), some (.ref r1), some (.int x2), none] [] (K0, R0, I, L) (fun r w1 => wp X (d + 1) m55 6 [some (.ref 64), some (.ref r1), some (.int x2), none] (r.toList ++ []) w1 Q) := (w_aload_n (pc' := 1) c55_0 rfl rfl).trans ((w_aload_n (pc' := 2) c55_1 rfl rfl).trans ((w_iload_n (pc' := 3) c55_2 rfl rfl).trans ((w_callv (pc' := 6) c55_3 mt56 rfl (Nat.le_of_ble_eq_true rfl) rfl kd_64 rfl rfl (Nat.le_of_ble_eq_true rfl) rfl rfl))))
theorem b55_6 {X : Nat × (Nat → Int32)} {d : Nat} {I : Nat → Nat → Int32} {L : Nat → Nat → Int64} {Q : Option Value → XW → Prop} {r1 : Nat} {x2 : Int32} {s0 : Int32} (hr1 : isInn r1) : wp X d m55 6 [some (.ref 64), some (.ref r1), some (.int x2), none] [(.int s0)] (K0, R0, I, L) Q ↔ (if s0 = 0 then Q (some (.int 0)) (K0, R0, I, L) else wp X d m55 13 [some (.ref 64), some (.ref r1), some (.int x2), some (.int 0)] [] (K0, R0, I, L) Q) := (w_if_ne (pc' := 9) c55_6 rfl).trans (ite_iff ((w_iconst (pc' := 10) (v := 0) c55_9 rfl rfl).trans ((w_zret (ty := .boolean) c55_10 rfl (by decide)).trans (and_iff_right (by decide)))) ((w_iconst (pc' := 12) (v := 0) c55_11 rfl rfl).trans ((w_istore_n (pc' := 13) (ls' := [some (.ref 64), some (.ref r1), some (.int x2), some (.int 0)]) c55_12 (Nat.le_of_ble_eq_true rfl) rfl rfl))))
theorem b55_13 {X : Nat × (Nat → Int32)} {d : Nat} {I : Nat → Nat → Int32} {L : Nat → Nat → Int64} {Q : Option Value → XW → Prop} {r1 : Nat} {x2 : Int32} {x3 : Int32} (hr1 : isInn r1) : wp X (d + 1) m55 13 [some (.ref 64), some (.ref r1), some (.int x2), some (.int x3)] [] (K0, R0, I, L) Q ↔ (if x3 < 100 then wp X d m44 0 [some (.ref 64)] [] (K0, R0, I, L) (fun r w1 => wp X (d + 1) m55 23 [some (.ref 64), some (.ref r1), some (.int x2), some (.int x3)] (r.toList ++ []) w1 Q) else Q (some (.int 1)) (K0, R0, I, L)) := (w_iload_n (pc' := 14) c55_13 rfl rfl).trans ((w_bipush (pc' := 16) (v := 100) c55_14 rfl rfl).trans ((w_icmp_ge (pc' := 19) c55_16 rfl).trans (ite_iff ((w_aload_n (pc' := 20) c55_19 rfl rfl).trans ((w_callv (pc' := 23) c55_20 mt44 rfl (Nat.le_of_ble_eq_true rfl) rfl kd_64 rfl rfl (Nat.le_of_ble_eq_true rfl) rfl rfl))) ((w_iconst (pc' := 62) (v := 1) c55_61 rfl rfl).trans ((w_zret (ty := .boolean) c55_62 rfl (by decide)).trans (and_iff_right (by decide)))))))
theorem b55_23 {X : Nat × (Nat → Int32)} {d : Nat} {I : Nat → Nat → Int32} {L : Nat → Nat → Int64} {Q : Option Value → XW → Prop} {r1 : Nat} {x2 : Int32} {x3 : Int32} {s0 : Int32} (hr1 : isInn r1) : wp X (d + 1) m55 23 [some (.ref 64), some (.ref r1), some (.int x2), some (.int x3)] [(.int s0)] (K0, R0, I, L) Q ↔ (if s0 = 124 then wp X d m56 0 [some (.ref 64), some (.ref r1), some (.int x2), none] [] (K0, R0, (updR I 64 2 ((I 64 2) + 1)), L) (fun r w1 => wp X (d + 1) m55 44 [some (.ref 64), some (.ref r1), some (.int x2), some (.int x3)] (r.toList ++ []) w1 Q) else Q (some (.int 1)) (K0, R0, I, L)) := (w_bipush (pc' := 25) (v := 124) c55_23 rfl rfl).trans ((w_icmp_ne (pc' := 28) c55_25 rfl).trans (ite_iff ((w_aload_n (pc' := 29) c55_28 rfl rfl).trans ((w_dup (pc' := 30) c55_29 rfl rfl).trans ((w_getIv (pc' := 33) (v := (I 64 2)) c55_30 kd_64 (by decide) rfl (rfl) rfl).trans ((w_iconst (pc' := 34) (v := 1) c55_33 rfl rfl).trans ((w_iadd (pc' := 35) c55_34 rfl).trans ((w_putI (pc' := 38) c55_35 kd_64 (by decide) rfl rfl rfl).trans ((w_aload_n (pc' := 39) c55_38 rfl rfl).trans ((w_aload_n (pc' := 40) c55_39 rfl rfl).trans ((w_iload_n (pc' := 41) c55_40 rfl rfl).trans ((w_callv (pc' := 44) c55_41 mt56 rfl (Nat.le_of_ble_eq_true rfl) rfl kd_64 rfl rfl (Nat.le_of_ble_eq_true rfl) rfl rfl))))))))))) ((w_iconst (pc' := 62) (v := 1) c55_61 rfl rfl).trans ((w_zret (ty := .boolean) c55_62 rfl (by decide)).trans (and_iff_right (by decide))))))
theorem b55_44 {X : Nat × (Nat → Int32)} {d : Nat} {I : Nat → Nat → Int32} {L : Nat → Nat → Int64} {Q : Option Value → XW → Prop} {r1 : Nat} {x2 : Int32} {x3 : Int32} {s0 : Int32} (hr1 : isInn r1) : wp X (d + 1) m55 44 [some (.ref 64), some (.ref r1), some (.int x2), some (.int x3)] [(.int s0)] (K0, R0, I, L) Q ↔ (if s0 = 0 then Q (some (.int 0)) (K0, R0, I, L) else wp X d m61 0 [some (.ref r1), some (.int (-3))] [] (K0, R0, I, L) (fun r w1 => wp X (d + 1) m55 55 [some (.ref 64), some (.ref r1), some (.int x2), some (.int x3)] (r.toList ++ []) w1 Q)) := (w_if_ne (pc' := 47) c55_44 rfl).trans (ite_iff ((w_iconst (pc' := 48) (v := 0) c55_47 rfl rfl).trans ((w_zret (ty := .boolean) c55_48 rfl (by decide)).trans (and_iff_right (by decide)))) ((w_aload_n (pc' := 50) c55_49 rfl rfl).trans ((w_bipush (pc' := 52) (v := (-3)) c55_50 rfl rfl).trans ((w_callv (pc' := 55) c55_52 mt61 rfl (Nat.le_of_ble_eq_true rfl) rfl hr1.1 rfl rfl (Nat.le_of_ble_eq_true rfl) rfl rfl)))))
theorem b55_55 {X : Nat × (Nat → Int32)} {d : Nat} {I : Nat → Nat → Int32} {L : Nat → Nat → Int64} {Q : Option Value → XW → Prop} {r1 : Nat} {x2 : Int32} {x3 : Int32} (hr1 : isInn r1) : wp X d m55 55 [some (.ref 64), some (.ref r1), some (.int x2), some (.int x3)] [] (K0, R0, I, L) Q ↔ wp X d m55 13 [some (.ref 64), some (.ref r1), some (.int x2), some (.int (x3 + 1))] [] (K0, R0, I, L) Q := (w_iinc (pc' := 58) (v := (x3 + 1)) (ls' := [some (.ref 64), some (.ref r1), some (.int x2), some (.int (x3 + 1))]) c55_55 (Nat.le_of_ble_eq_true rfl) rfl rfl rfl rfl).trans ((w_goto c55_58))
-- LeavesObject$Text.readBoth(LLeavesObject$Inn;I)Z
theorem c56_0 : cdx (mC m56) 0 = some (0, .aload_n 0, 1, 0, 0, 0, 0, []) := rfl
theorem c56_1 : cdx (mC m56) 1 = some (1, .aload_n 1, 1, 1, 0, 0, 0, []) := rfl
theorem c56_2 : cdx (mC m56) 2 = some (2, .iload_n 2, 1, 2, 0, 0, 0, []) := rfl
theorem c56_3 : cdx (mC m56) 3 = some (3, .invokevirtual 93, 3, 57, 2, 0, 3004, [(7, 0)]) := rfl
theorem c56_6 : cdx (mC m56) 6 = some (6, .ifCond .ne 5, 3, 11, 0, 0, 0, []) := rfl
theorem c56_9 : cdx (mC m56) 9 = some (9, .iconst 0, 1, 0, 0, 0, 0, []) := rfl
theorem c56_10 : cdx (mC m56) 10 = some (10, .ireturn, 1, 0, 0, 0, 0, []) := rfl
theorem c56_11 : cdx (mC m56) 11 = some (11, .iconst 0, 1, 0, 0, 0, 0, []) := rfl
theorem c56_12 : cdx (mC m56) 12 = some (12, .istore_n 3, 1, 3, 0, 0, 0, []) := rfl
theorem c56_13 : cdx (mC m56) 13 = some (13, .iload_n 3, 1, 3, 0, 0, 0, []) := rfl
theorem c56_14 : cdx (mC m56) 14 = some (14, .bipush 100, 2, 0, 0, 0, 0, []) := rfl
theorem c56_16 : cdx (mC m56) 16 = some (16, .if_icmp .ge 45, 3, 61, 0, 0, 0, []) := rfl
theorem c56_19 : cdx (mC m56) 19 = some (19, .aload_n 0, 1, 0, 0, 0, 0, []) := rfl
theorem c56_20 : cdx (mC m56) 20 = some (20, .invokevirtual 31, 3, 44, 0, 0, 2166, [(7, 0)]) := rfl
theorem c56_23 : cdx (mC m56) 23 = some (23, .bipush 38, 2, 0, 0, 0, 0, []) := rfl
theorem c56_25 : cdx (mC m56) 25 = some (25, .if_icmp .ne 36, 3, 61, 0, 0, 0, []) := rfl
theorem c56_28 : cdx (mC m56) 28 = some (28, .aload_n 0, 1, 0, 0, 0, 0, []) := rfl
theorem c56_29 : cdx (mC m56) 29 = some (29, .dup, 1, 0, 0, 0, 0, []) := rfl
theorem c56_30 : cdx (mC m56) 30 = some (30, .getfield 19, 3, 7, 2, 0, 1138, []) := rfl
theorem c56_33 : cdx (mC m56) 33 = some (33, .iconst 1, 1, 0, 0, 0, 0, []) := rfl
theorem c56_34 : cdx (mC m56) 34 = some (34, .iadd, 1, 0, 0, 0, 0, []) := rfl
theorem c56_35 : cdx (mC m56) 35 = some (35, .putfield 19, 3, 7, 2, 0, 1138, []) := rfl
theorem c56_38 : cdx (mC m56) 38 = some (38, .aload_n 0, 1, 0, 0, 0, 0, []) := rfl
theorem c56_39 : cdx (mC m56) 39 = some (39, .aload_n 1, 1, 1, 0, 0, 0, []) := rfl
theorem c56_40 : cdx (mC m56) 40 = some (40, .iload_n 2, 1, 2, 0, 0, 0, []) := rfl
theorem c56_41 : cdx (mC m56) 41 = some (41, .invokevirtual 93, 3, 57, 2, 0, 3004, [(7, 0)]) := rfl
theorem c56_44 : cdx (mC m56) 44 = some (44, .ifCond .ne 5, 3, 49, 0, 0, 0, []) := rfl
theorem c56_47 : cdx (mC m56) 47 = some (47, .iconst 0, 1, 0, 0, 0, 0, []) := rfl
theorem c56_48 : cdx (mC m56) 48 = some (48, .ireturn, 1, 0, 0, 0, 0, []) := rfl
theorem c56_49 : cdx (mC m56) 49 = some (49, .aload_n 1, 1, 1, 0, 0, 0, []) := rfl
theorem c56_50 : cdx (mC m56) 50 = some (50, .bipush (-2), 2, 0, 0, 0, 0, []) := rfl
theorem c56_52 : cdx (mC m56) 52 = some (52, .invokevirtual 90, 3, 61, 1, 0, 3009, [(2, 0)]) := rfl
theorem c56_55 : cdx (mC m56) 55 = some (55, .iinc 3 1, 3, 3, 0, 0, 0, []) := rfl
theorem c56_58 : cdx (mC m56) 58 = some (58, .goto (-45), 3, 13, 0, 0, 0, []) := rfl
theorem c56_61 : cdx (mC m56) 61 = some (61, .iconst 1, 1, 0, 0, 0, 0, []) := rfl
theorem c56_62 : cdx (mC m56) 62 = some (62, .ireturn, 1, 0, 0, 0, 0, []) := rfl
theorem b56_0 {X : Nat × (Nat → Int32)} {d : Nat} {I : Nat → Nat → Int32} {L : Nat → Nat → Int64} {Q : Option Value → XW → Prop} {r1 : Nat} {x2 : Int32} (hr1 : isInn r1) : wp X (d + 1) m56 0 [some (.ref 64), some (.ref r1), some (.int x2), none] [] (K0, R0, I, L) Q ↔ wp X d m57 0 [some (.ref 64), some (.ref r1), some (.int x2), none, none, none, none] [] (K0, R0, I, L) (fun r w1 => wp X (d + 1) m56 6 [some (.ref 64), some (.ref r1), some (.int x2), none] (r.toList ++ []) w1 Q) := (w_aload_n (pc' := 1) c56_0 rfl rfl).trans ((w_aload_n (pc' := 2) c56_1 rfl rfl).trans ((w_iload_n (pc' := 3) c56_2 rfl rfl).trans ((w_callv (pc' := 6) c56_3 mt57 rfl (Nat.le_of_ble_eq_true rfl) rfl kd_64 rfl rfl (Nat.le_of_ble_eq_true rfl) rfl rfl))))
theorem b56_6 {X : Nat × (Nat → Int32)} {d : Nat} {I : Nat → Nat → Int32} {L : Nat → Nat → Int64} {Q : Option Value → XW → Prop} {r1 : Nat} {x2 : Int32} {s0 : Int32} (hr1 : isInn r1) : wp X d m56 6 [some (.ref 64), some (.ref r1), some (.int x2), none] [(.int s0)] (K0, R0, I, L) Q ↔ (if s0 = 0 then Q (some (.int 0)) (K0, R0, I, L) else wp X d m56 13 [some (.ref 64), some (.ref r1), some (.int x2), some (.int 0)] [] (K0, R0, I, L) Q) := (w_if_ne (pc' := 9) c56_6 rfl).trans (ite_iff ((w_iconst (pc' := 10) (v := 0) c56_9 rfl rfl).trans ((w_zret (ty := .boolean) c56_10 rfl (by decide)).trans (and_iff_right (by decide)))) ((w_iconst (pc' := 12) (v := 0) c56_11 rfl rfl).trans ((w_istore_n (pc' := 13) (ls' := [some (.ref 64), some (.ref r1), some (.int x2), some (.int 0)]) c56_12 (Nat.le_of_ble_eq_true rfl) rfl rfl))))
theorem b56_13 {X : Nat × (Nat → Int32)} {d : Nat} {I : Nat → Nat → Int32} {L : Nat → Nat → Int64} {Q : Option Value → XW → Prop} {r1 : Nat} {x2 : Int32} {x3 : Int32} (hr1 : isInn r1) : wp X (d + 1) m56 13 [some (.ref 64), some (.ref r1), some (.int x2), some (.int x3)] [] (K0, R0, I, L) Q ↔ (if x3 < 100 then wp X d m44 0 [some (.ref 64)] [] (K0, R0, I, L) (fun r w1 => wp X (d + 1) m56 23 [some (.ref 64), some (.ref r1), some (.int x2), some (.int x3)] (r.toList ++ []) w1 Q) else Q (some (.int 1)) (K0, R0, I, L)) := (w_iload_n (pc' := 14) c56_13 rfl rfl).trans ((w_bipush (pc' := 16) (v := 100) c56_14 rfl rfl).trans ((w_icmp_ge (pc' := 19) c56_16 rfl).trans (ite_iff ((w_aload_n (pc' := 20) c56_19 rfl rfl).trans ((w_callv (pc' := 23) c56_20 mt44 rfl (Nat.le_of_ble_eq_true rfl) rfl kd_64 rfl rfl (Nat.le_of_ble_eq_true rfl) rfl rfl))) ((w_iconst (pc' := 62) (v := 1) c56_61 rfl rfl).trans ((w_zret (ty := .boolean) c56_62 rfl (by decide)).trans (and_iff_right (by decide)))))))
theorem b56_23 {X : Nat × (Nat → Int32)} {d : Nat} {I : Nat → Nat → Int32} {L : Nat → Nat → Int64} {Q : Option Value → XW → Prop} {r1 : Nat} {x2 : Int32} {x3 : Int32} {s0 : Int32} (hr1 : isInn r1) : wp X (d + 1) m56 23 [some (.ref 64), some (.ref r1), some (.int x2), some (.int x3)] [(.int s0)] (K0, R0, I, L) Q ↔ (if s0 = 38 then wp X d m57 0 [some (.ref 64), some (.ref r1), some (.int x2), none, none, none, none] [] (K0, R0, (updR I 64 2 ((I 64 2) + 1)), L) (fun r w1 => wp X (d + 1) m56 44 [some (.ref 64), some (.ref r1), some (.int x2), some (.int x3)] (r.toList ++ []) w1 Q) else Q (some (.int 1)) (K0, R0, I, L)) := (w_bipush (pc' := 25) (v := 38) c56_23 rfl rfl).trans ((w_icmp_ne (pc' := 28) c56_25 rfl).trans (ite_iff ((w_aload_n (pc' := 29) c56_28 rfl rfl).trans ((w_dup (pc' := 30) c56_29 rfl rfl).trans ((w_getIv (pc' := 33) (v := (I 64 2)) c56_30 kd_64 (by decide) rfl (rfl) rfl).trans ((w_iconst (pc' := 34) (v := 1) c56_33 rfl rfl).trans ((w_iadd (pc' := 35) c56_34 rfl).trans ((w_putI (pc' := 38) c56_35 kd_64 (by decide) rfl rfl rfl).trans ((w_aload_n (pc' := 39) c56_38 rfl rfl).trans ((w_aload_n (pc' := 40) c56_39 rfl rfl).trans ((w_iload_n (pc' := 41) c56_40 rfl rfl).trans ((w_callv (pc' := 44) c56_41 mt57 rfl (Nat.le_of_ble_eq_true rfl) rfl kd_64 rfl rfl (Nat.le_of_ble_eq_true rfl) rfl rfl))))))))))) ((w_iconst (pc' := 62) (v := 1) c56_61 rfl rfl).trans ((w_zret (ty := .boolean) c56_62 rfl (by decide)).trans (and_iff_right (by decide))))))
theorem b56_44 {X : Nat × (Nat → Int32)} {d : Nat} {I : Nat → Nat → Int32} {L : Nat → Nat → Int64} {Q : Option Value → XW → Prop} {r1 : Nat} {x2 : Int32} {x3 : Int32} {s0 : Int32} (hr1 : isInn r1) : wp X (d + 1) m56 44 [some (.ref 64), some (.ref r1), some (.int x2), some (.int x3)] [(.int s0)] (K0, R0, I, L) Q ↔ (if s0 = 0 then Q (some (.int 0)) (K0, R0, I, L) else wp X d m61 0 [some (.ref r1), some (.int (-2))] [] (K0, R0, I, L) (fun r w1 => wp X (d + 1) m56 55 [some (.ref 64), some (.ref r1), some (.int x2), some (.int x3)] (r.toList ++ []) w1 Q)) := (w_if_ne (pc' := 47) c56_44 rfl).trans (ite_iff ((w_iconst (pc' := 48) (v := 0) c56_47 rfl rfl).trans ((w_zret (ty := .boolean) c56_48 rfl (by decide)).trans (and_iff_right (by decide)))) ((w_aload_n (pc' := 50) c56_49 rfl rfl).trans ((w_bipush (pc' := 52) (v := (-2)) c56_50 rfl rfl).trans ((w_callv (pc' := 55) c56_52 mt61 rfl (Nat.le_of_ble_eq_true rfl) rfl hr1.1 rfl rfl (Nat.le_of_ble_eq_true rfl) rfl rfl)))))
theorem b56_55 {X : Nat × (Nat → Int32)} {d : Nat} {I : Nat → Nat → Int32} {L : Nat → Nat → Int64} {Q : Option Value → XW → Prop} {r1 : Nat} {x2 : Int32} {x3 : Int32} (hr1 : isInn r1) : wp X d m56 55 [some (.ref 64), some (.ref r1), some (.int x2), some (.int x3)] [] (K0, R0, I, L) Q ↔ wp X d m56 13 [some (.ref 64), some (.ref r1), some (.int x2), some (.int (x3 + 1))] [] (K0, R0, I, L) Q := (w_iinc (pc' := 58) (v := (x3 + 1)) (ls' := [some (.ref 64), some (.ref r1), some (.int x2), some (.int (x3 + 1))]) c56_55 (Nat.le_of_ble_eq_true rfl) rfl rfl rfl rfl).trans ((w_goto c56_58))
-- LeavesObject$Text.readOne(LLeavesObject$Inn;I)Z
theorem c57_0 : cdx (mC m57) 0 = some (0, .aload_n 0, 1, 0, 0, 0, 0, []) := rfl
theorem c57_1 : cdx (mC m57) 1 = some (1, .invokevirtual 31, 3, 44, 0, 0, 2166, [(7, 0)]) := rfl
theorem c57_4 : cdx (mC m57) 4 = some (4, .istore_n 3, 1, 3, 0, 0, 0, []) := rfl
theorem c57_5 : cdx (mC m57) 5 = some (5, .iload_n 3, 1, 3, 0, 0, 0, []) := rfl
theorem c57_6 : cdx (mC m57) 6 = some (6, .bipush 33, 2, 0, 0, 0, 0, []) := rfl
theorem c57_8 : cdx (mC m57) 8 = some (8, .if_icmp .eq 9, 3, 17, 0, 0, 0, []) := rfl
theorem c57_11 : cdx (mC m57) 11 = some (11, .iload_n 3, 1, 3, 0, 0, 0, []) := rfl
theorem c57_12 : cdx (mC m57) 12 = some (12, .bipush 40, 2, 0, 0, 0, 0, []) := rfl
theorem c57_14 : cdx (mC m57) 14 = some (14, .if_icmp .ne 10, 3, 24, 0, 0, 0, []) := rfl
theorem c57_17 : cdx (mC m57) 17 = some (17, .iload_n 2, 1, 2, 0, 0, 0, []) := rfl
theorem c57_18 : cdx (mC m57) 18 = some (18, .iconst 4, 1, 0, 0, 0, 0, []) := rfl
theorem c57_19 : cdx (mC m57) 19 = some (19, .if_icmp .lt 5, 3, 24, 0, 0, 0, []) := rfl
theorem c57_22 : cdx (mC m57) 22 = some (22, .iconst 0, 1, 0, 0, 0, 0, []) := rfl
theorem c57_23 : cdx (mC m57) 23 = some (23, .ireturn, 1, 0, 0, 0, 0, []) := rfl
theorem c57_24 : cdx (mC m57) 24 = some (24, .iload_n 3, 1, 3, 0, 0, 0, []) := rfl
theorem c57_25 : cdx (mC m57) 25 = some (25, .bipush 40, 2, 0, 0, 0, 0, []) := rfl
theorem c57_27 : cdx (mC m57) 27 = some (27, .if_icmp .ne 39, 3, 66, 0, 0, 0, []) := rfl
theorem c57_30 : cdx (mC m57) 30 = some (30, .aload_n 0, 1, 0, 0, 0, 0, []) := rfl
theorem c57_31 : cdx (mC m57) 31 = some (31, .dup, 1, 0, 0, 0, 0, []) := rfl
theorem c57_32 : cdx (mC m57) 32 = some (32, .getfield 19, 3, 7, 2, 0, 1138, []) := rfl
theorem c57_35 : cdx (mC m57) 35 = some (35, .iconst 1, 1, 0, 0, 0, 0, []) := rfl
theorem c57_36 : cdx (mC m57) 36 = some (36, .iadd, 1, 0, 0, 0, 0, []) := rfl
theorem c57_37 : cdx (mC m57) 37 = some (37, .putfield 19, 3, 7, 2, 0, 1138, []) := rfl
theorem c57_40 : cdx (mC m57) 40 = some (40, .aload_n 0, 1, 0, 0, 0, 0, []) := rfl
theorem c57_41 : cdx (mC m57) 41 = some (41, .aload_n 1, 1, 1, 0, 0, 0, []) := rfl
theorem c57_42 : cdx (mC m57) 42 = some (42, .iload_n 2, 1, 2, 0, 0, 0, []) := rfl
theorem c57_43 : cdx (mC m57) 43 = some (43, .iconst 1, 1, 0, 0, 0, 0, []) := rfl
theorem c57_44 : cdx (mC m57) 44 = some (44, .iadd, 1, 0, 0, 0, 0, []) := rfl
theorem c57_45 : cdx (mC m57) 45 = some (45, .invokevirtual 54, 3, 55, 2, 0, 2236, [(7, 0)]) := rfl
theorem c57_48 : cdx (mC m57) 48 = some (48, .ifCond .eq 16, 3, 64, 0, 0, 0, []) := rfl
theorem c57_51 : cdx (mC m57) 51 = some (51, .aload_n 0, 1, 0, 0, 0, 0, []) := rfl
theorem c57_52 : cdx (mC m57) 52 = some (52, .ldc 96, 2, 7, 0, 0, 3008, []) := rfl
theorem c57_54 : cdx (mC m57) 54 = some (54, .invokevirtual 39, 3, 46, 1, 0, 2177, [(7, 0)]) := rfl
theorem c57_57 : cdx (mC m57) 57 = some (57, .ifCond .eq 7, 3, 64, 0, 0, 0, []) := rfl
theorem c57_60 : cdx (mC m57) 60 = some (60, .iconst 1, 1, 0, 0, 0, 0, []) := rfl
theorem c57_61 : cdx (mC m57) 61 = some (61, .goto 4, 3, 65, 0, 0, 0, []) := rfl
theorem c57_64 : cdx (mC m57) 64 = some (64, .iconst 0, 1, 0, 0, 0, 0, []) := rfl
theorem c57_65 : cdx (mC m57) 65 = some (65, .ireturn, 1, 0, 0, 0, 0, []) := rfl
theorem c57_66 : cdx (mC m57) 66 = some (66, .iload_n 3, 1, 3, 0, 0, 0, []) := rfl
theorem c57_67 : cdx (mC m57) 67 = some (67, .bipush 33, 2, 0, 0, 0, 0, []) := rfl
theorem c57_69 : cdx (mC m57) 69 = some (69, .if_icmp .ne 33, 3, 102, 0, 0, 0, []) := rfl
theorem c57_72 : cdx (mC m57) 72 = some (72, .aload_n 0, 1, 0, 0, 0, 0, []) := rfl
theorem c57_73 : cdx (mC m57) 73 = some (73, .dup, 1, 0, 0, 0, 0, []) := rfl
theorem c57_74 : cdx (mC m57) 74 = some (74, .getfield 19, 3, 7, 2, 0, 1138, []) := rfl
theorem c57_77 : cdx (mC m57) 77 = some (77, .iconst 1, 1, 0, 0, 0, 0, []) := rfl
theorem c57_78 : cdx (mC m57) 78 = some (78, .iadd, 1, 0, 0, 0, 0, []) := rfl
theorem c57_79 : cdx (mC m57) 79 = some (79, .putfield 19, 3, 7, 2, 0, 1138, []) := rfl
theorem c57_82 : cdx (mC m57) 82 = some (82, .aload_n 0, 1, 0, 0, 0, 0, []) := rfl
theorem c57_83 : cdx (mC m57) 83 = some (83, .aload_n 1, 1, 1, 0, 0, 0, []) := rfl
theorem c57_84 : cdx (mC m57) 84 = some (84, .iload_n 2, 1, 2, 0, 0, 0, []) := rfl
theorem c57_85 : cdx (mC m57) 85 = some (85, .iconst 1, 1, 0, 0, 0, 0, []) := rfl
theorem c57_86 : cdx (mC m57) 86 = some (86, .iadd, 1, 0, 0, 0, 0, []) := rfl
theorem c57_87 : cdx (mC m57) 87 = some (87, .invokevirtual 93, 3, 57, 2, 0, 3004, [(7, 0)]) := rfl
theorem c57_90 : cdx (mC m57) 90 = some (90, .ifCond .ne 5, 3, 95, 0, 0, 0, []) := rfl
theorem c57_93 : cdx (mC m57) 93 = some (93, .iconst 0, 1, 0, 0, 0, 0, []) := rfl
theorem c57_94 : cdx (mC m57) 94 = some (94, .ireturn, 1, 0, 0, 0, 0, []) := rfl
theorem c57_95 : cdx (mC m57) 95 = some (95, .aload_n 1, 1, 1, 0, 0, 0, []) := rfl
theorem c57_96 : cdx (mC m57) 96 = some (96, .iconst (-1), 1, 0, 0, 0, 0, []) := rfl
theorem c57_97 : cdx (mC m57) 97 = some (97, .invokevirtual 90, 3, 61, 1, 0, 3009, [(2, 0)]) := rfl
theorem c57_100 : cdx (mC m57) 100 = some (100, .iconst 1, 1, 0, 0, 0, 0, []) := rfl
theorem c57_101 : cdx (mC m57) 101 = some (101, .ireturn, 1, 0, 0, 0, 0, []) := rfl
theorem c57_102 : cdx (mC m57) 102 = some (102, .aload_n 0, 1, 0, 0, 0, 0, []) := rfl
theorem c57_103 : cdx (mC m57) 103 = some (103, .ldc 98, 2, 5, 0, 0, 3013, []) := rfl
theorem c57_105 : cdx (mC m57) 105 = some (105, .invokevirtual 100, 3, 59, 1, 0, 3014, [(7, 0)]) := rfl
theorem c57_108 : cdx (mC m57) 108 = some (108, .istore 4, 2, 4, 0, 0, 0, []) := rfl
theorem c57_110 : cdx (mC m57) 110 = some (110, .iload 4, 2, 4, 0, 0, 0, []) := rfl
theorem c57_112 : cdx (mC m57) 112 = some (112, .ifCond .ge 7, 3, 119, 0, 0, 0, []) := rfl
theorem c57_115 : cdx (mC m57) 115 = some (115, .iconst (-1), 1, 0, 0, 0, 0, []) := rfl
theorem c57_116 : cdx (mC m57) 116 = some (116, .goto 9, 3, 125, 0, 0, 0, []) := rfl
theorem c57_119 : cdx (mC m57) 119 = some (119, .aload_n 0, 1, 0, 0, 0, 0, []) := rfl
theorem c57_120 : cdx (mC m57) 120 = some (120, .ldc 104, 2, 6, 0, 0, 3018, []) := rfl
theorem c57_122 : cdx (mC m57) 122 = some (122, .invokevirtual 100, 3, 59, 1, 0, 3014, [(7, 0)]) := rfl
theorem c57_125 : cdx (mC m57) 125 = some (125, .istore 5, 2, 5, 0, 0, 0, []) := rfl
theorem c57_127 : cdx (mC m57) 127 = some (127, .iload 5, 2, 5, 0, 0, 0, []) := rfl
theorem c57_129 : cdx (mC m57) 129 = some (129, .ifCond .ge 7, 3, 136, 0, 0, 0, []) := rfl
theorem c57_132 : cdx (mC m57) 132 = some (132, .iconst (-1), 1, 0, 0, 0, 0, []) := rfl
theorem c57_133 : cdx (mC m57) 133 = some (133, .goto 7, 3, 140, 0, 0, 0, []) := rfl
theorem c57_136 : cdx (mC m57) 136 = some (136, .aload_n 0, 1, 0, 0, 0, 0, []) := rfl
theorem c57_137 : cdx (mC m57) 137 = some (137, .invokevirtual 45, 3, 54, 0, 0, 2230, [(7, 0)]) := rfl
theorem c57_140 : cdx (mC m57) 140 = some (140, .istore 6, 2, 6, 0, 0, 0, []) := rfl
theorem c57_142 : cdx (mC m57) 142 = some (142, .iload 6, 2, 6, 0, 0, 0, []) := rfl
theorem c57_144 : cdx (mC m57) 144 = some (144, .ifCond .ge 5, 3, 149, 0, 0, 0, []) := rfl
theorem c57_147 : cdx (mC m57) 147 = some (147, .iconst 0, 1, 0, 0, 0, 0, []) := rfl
theorem c57_148 : cdx (mC m57) 148 = some (148, .ireturn, 1, 0, 0, 0, 0, []) := rfl
theorem c57_149 : cdx (mC m57) 149 = some (149, .aload_n 1, 1, 1, 0, 0, 0, []) := rfl
theorem c57_150 : cdx (mC m57) 150 = some (150, .iload 4, 2, 4, 0, 0, 0, []) := rfl
set_option maxRecDepth 20000 in
theorem c57_152 : cdx (mC m57) 152 = some (152, .iload 5, 2, 5, 0, 0, 0, []) := rfl
set_option maxRecDepth 20000 in
theorem c57_154 : cdx (mC m57) 154 = some (154, .iload 6, 2, 6, 0, 0, 0, []) := rfl
set_option maxRecDepth 20000 in
theorem c57_156 : cdx (mC m57) 156 = some (156, .invokevirtual 106, 3, 60, 3, 0, 3019, [(2, 0)]) := rfl
set_option maxRecDepth 20000 in
theorem c57_159 : cdx (mC m57) 159 = some (159, .iconst 1, 1, 0, 0, 0, 0, []) := rfl
set_option maxRecDepth 20000 in
theorem c57_160 : cdx (mC m57) 160 = some (160, .ireturn, 1, 0, 0, 0, 0, []) := rfl
def lv57 : List (Nat × List Nat) := [(0, [0, 1, 2]), (1, [0, 1, 2]), (4, [0, 1, 2]), (5, [0, 1, 2, 3]), (6, [0, 1, 2, 3]), (8, [0, 1, 2, 3]), (11, [0, 1, 2, 3]), (12, [0, 1, 2, 3]), (14, [0, 1, 2, 3]), (17, [0, 1, 2, 3]), (18, [0, 1, 2, 3]), (19, [0, 1, 2, 3]), (24, [0, 1, 2, 3]), (25, [0, 1, 2, 3]), (27, [0, 1, 2, 3]), (30, [0, 1, 2]), (31, [0, 1, 2]), (32, [0, 1, 2]), (35, [0, 1, 2]), (36, [0, 1, 2]), (37, [0, 1, 2]), (40, [0, 1, 2]), (41, [0, 1, 2]), (42, [0, 2]), (43, [0]), (44, [0]), (45, [0]), (48, [0]), (51, [0]), (66, [0, 1, 2, 3]), (67, [0, 1, 2]), (69, [0, 1, 2]), (72, [0, 1, 2]), (73, [0, 1, 2]), (74, [0, 1, 2]), (77, [0, 1, 2]), (78, [0, 1, 2]), (79, [0, 1, 2]), (82, [0, 1, 2]), (83, [1, 2]), (84, [1, 2]), (85, [1]), (86, [1]), (87, [1]), (90, [1]), (95, [1]), (102, [0, 1]), (103, [0, 1]), (105, [0, 1]), (108, [0, 1]), (110, [0, 1, 4]), (112, [0, 1, 4]), (115, [0, 1, 4]), (116, [0, 1, 4]), (119, [0, 1, 4]), (120, [0, 1, 4]), (122, [0, 1, 4]), (125, [0, 1, 4]), (127, [0, 1, 4, 5]), (129, [0, 1, 4, 5]), (132, [1, 4, 5]), (133, [1, 4, 5]), (136, [0, 1, 4, 5]), (137, [1, 4, 5]), (140, [1, 4, 5]), (142, [1, 4, 5, 6]), (144, [1, 4, 5, 6]), (149, [1, 4, 5, 6]), (150, [4, 5, 6]), (152, [5, 6]), (154, [6])]
theorem lvok57 : lvOk (mC m57) lv57 = true := by decide +kernel
theorem b57_0 {X : Nat × (Nat → Int32)} {d : Nat} {I : Nat → Nat → Int32} {L : Nat → Nat → Int64} {Q : Option Value → XW → Prop} {r1 : Nat} {x2 : Int32} (hr1 : isInn r1) : wp X (d + 1) m57 0 [some (.ref 64), some (.ref r1), some (.int x2), none, none, none, none] [] (K0, R0, I, L) Q ↔ wp X d m44 0 [some (.ref 64)] [] (K0, R0, I, L) (fun r w1 => wp X (d + 1) m57 4 [some (.ref 64), some (.ref r1), some (.int x2), none, none, none, none] (r.toList ++ []) w1 Q) := (w_aload_n (pc' := 1) c57_0 rfl rfl).trans ((w_callv (pc' := 4) c57_1 mt44 rfl (Nat.le_of_ble_eq_true rfl) rfl kd_64 rfl rfl (Nat.le_of_ble_eq_true rfl) rfl rfl))
theorem b57_4 {X : Nat × (Nat → Int32)} {d : Nat} {I : Nat → Nat → Int32} {L : Nat → Nat → Int64} {Q : Option Value → XW → Prop} {r1 : Nat} {x2 : Int32} {s0 : Int32} (hr1 : isInn r1) : wp X d m57 4 [some (.ref 64), some (.ref r1), some (.int x2), none, none, none, none] [(.int s0)] (K0, R0, I, L) Q ↔ (if s0 = 33 then (if x2 < 4 then wp X d m57 24 [some (.ref 64), some (.ref r1), some (.int x2), some (.int s0), none, none, none] [] (K0, R0, I, L) Q else Q (some (.int 0)) (K0, R0, I, L)) else (if s0 = 40 then (if x2 < 4 then wp X d m57 24 [some (.ref 64), some (.ref r1), some (.int x2), some (.int s0), none, none, none] [] (K0, R0, I, L) Q else Q (some (.int 0)) (K0, R0, I, L)) else wp X d m57 24 [some (.ref 64), some (.ref r1), some (.int x2), some (.int s0), none, none, none] [] (K0, R0, I, L) Q)) := (w_istore_n (pc' := 5) (ls' := [some (.ref 64), some (.ref r1), some (.int x2), some (.int s0), none, none, none]) c57_4 (Nat.le_of_ble_eq_true rfl) rfl rfl).trans ((w_iload_n (pc' := 6) c57_5 rfl rfl).trans ((w_bipush (pc' := 8) (v := 33) c57_6 rfl rfl).trans ((w_icmp_eq (pc' := 11) c57_8 rfl).trans (ite_iff ((w_iload_n (pc' := 18) c57_17 rfl rfl).trans ((w_iconst (pc' := 19) (v := 4) c57_18 rfl rfl).trans ((w_icmp_lt (pc' := 22) c57_19 rfl).trans (ite_iff (Iff.rfl) ((w_iconst (pc' := 23) (v := 0) c57_22 rfl rfl).trans ((w_zret (ty := .boolean) c57_23 rfl (by decide)).trans (and_iff_right (by decide)))))))) ((w_iload_n (pc' := 12) c57_11 rfl rfl).trans ((w_bipush (pc' := 14) (v := 40) c57_12 rfl rfl).trans ((w_icmp_ne (pc' := 17) c57_14 rfl).trans (ite_iff ((w_iload_n (pc' := 18) c57_17 rfl rfl).trans ((w_iconst (pc' := 19) (v := 4) c57_18 rfl rfl).trans ((w_icmp_lt (pc' := 22) c57_19 rfl).trans (ite_iff (Iff.rfl) ((w_iconst (pc' := 23) (v := 0) c57_22 rfl rfl).trans ((w_zret (ty := .boolean) c57_23 rfl (by decide)).trans (and_iff_right (by decide)))))))) (Iff.rfl)))))))))
theorem b57_24 {X : Nat × (Nat → Int32)} {d : Nat} {I : Nat → Nat → Int32} {L : Nat → Nat → Int64} {Q : Option Value → XW → Prop} {r1 : Nat} {x2 : Int32} {x3 : Int32} (hr1 : isInn r1) : wp X (d + 1) m57 24 [some (.ref 64), some (.ref r1), some (.int x2), some (.int x3), none, none, none] [] (K0, R0, I, L) Q ↔ (if x3 = 40 then wp X d m55 0 [some (.ref 64), some (.ref r1), some (.int (x2 + 1)), none] [] (K0, R0, (updR I 64 2 ((I 64 2) + 1)), L) (fun r w1 => wp X (d + 1) m57 48 [some (.ref 64), none, none, none, none, none, none] (r.toList ++ []) w1 Q) else (if x3 = 33 then wp X d m57 0 [some (.ref 64), some (.ref r1), some (.int (x2 + 1)), none, none, none, none] [] (K0, R0, (updR I 64 2 ((I 64 2) + 1)), L) (fun r w1 => wp X (d + 1) m57 90 [none, some (.ref r1), none, none, none, none, none] (r.toList ++ []) w1 Q) else wp X d m59 0 [some (.ref 64), some (.ref 1000005), none] [] (K0, R0, I, L) (fun r w1 => wp X (d + 1) m57 108 [some (.ref 64), some (.ref r1), none, none, none, none, none] (r.toList ++ []) w1 Q))) := (w_iload_n (pc' := 25) c57_24 rfl rfl).trans ((w_bipush (pc' := 27) (v := 40) c57_25 rfl rfl).trans ((w_icmp_ne (pc' := 30) c57_27 rfl).trans (ite_iff ((w_aload_n (pc' := 31) c57_30 rfl rfl).trans ((w_dup (pc' := 32) c57_31 rfl rfl).trans ((w_getIv (pc' := 35) (v := (I 64 2)) c57_32 kd_64 (by decide) rfl (rfl) rfl).trans ((w_iconst (pc' := 36) (v := 1) c57_35 rfl rfl).trans ((w_iadd (pc' := 37) c57_36 rfl).trans ((w_putI (pc' := 40) c57_37 kd_64 (by decide) rfl rfl rfl).trans ((w_aload_n (pc' := 41) c57_40 rfl rfl).trans ((w_aload_n (pc' := 42) c57_41 rfl rfl).trans ((w_iload_n (pc' := 43) c57_42 rfl rfl).trans ((w_iconst (pc' := 44) (v := 1) c57_43 rfl rfl).trans ((w_iadd (pc' := 45) c57_44 rfl).trans ((w_callv (pc' := 48) c57_45 mt55 rfl (Nat.le_of_ble_eq_true rfl) rfl kd_64 rfl rfl (Nat.le_of_ble_eq_true rfl) rfl rfl).trans (wp_congr (fun r w1 => wp_msk lvok57 rfl)))))))))))))) ((w_iload_n (pc' := 67) c57_66 rfl rfl).trans ((w_bipush (pc' := 69) (v := 33) c57_67 rfl rfl).trans ((w_icmp_ne (pc' := 72) c57_69 rfl).trans (ite_iff ((w_aload_n (pc' := 73) c57_72 rfl rfl).trans ((w_dup (pc' := 74) c57_73 rfl rfl).trans ((w_getIv (pc' := 77) (v := (I 64 2)) c57_74 kd_64 (by decide) rfl (rfl) rfl).trans ((w_iconst (pc' := 78) (v := 1) c57_77 rfl rfl).trans ((w_iadd (pc' := 79) c57_78 rfl).trans ((w_putI (pc' := 82) c57_79 kd_64 (by decide) rfl rfl rfl).trans ((w_aload_n (pc' := 83) c57_82 rfl rfl).trans ((w_aload_n (pc' := 84) c57_83 rfl rfl).trans ((w_iload_n (pc' := 85) c57_84 rfl rfl).trans ((w_iconst (pc' := 86) (v := 1) c57_85 rfl rfl).trans ((w_iadd (pc' := 87) c57_86 rfl).trans ((w_callv (pc' := 90) c57_87 mt57 rfl (Nat.le_of_ble_eq_true rfl) rfl kd_64 rfl rfl (Nat.le_of_ble_eq_true rfl) rfl rfl).trans (wp_congr (fun r w1 => wp_msk lvok57 rfl)))))))))))))) ((w_aload_n (pc' := 103) c57_102 rfl rfl).trans ((w_ldc (pc' := 105) (q := 1000005) c57_103 rfl rfl).trans ((w_callv (pc' := 108) c57_105 mt59 rfl (Nat.le_of_ble_eq_true rfl) rfl kd_64 rfl rfl (Nat.le_of_ble_eq_true rfl) rfl rfl).trans (wp_congr (fun r w1 => wp_msk lvok57 rfl))))))))))))
theorem b57_48 {X : Nat × (Nat → Int32)} {d : Nat} {I : Nat → Nat → Int32} {L : Nat → Nat → Int64} {Q : Option Value → XW → Prop} {s0 : Int32}  : wp X (d + 1) m57 48 [some (.ref 64), none, none, none, none, none, none] [(.int s0)] (K0, R0, I, L) Q ↔ (if s0 = 0 then Q (some (.int 0)) (K0, R0, I, L) else wp X d m46 0 [some (.ref 64), some (.ref 1000007), none] [] (K0, R0, I, L) (fun r w1 => wp X (d + 1) m57 57 [none, none, none, none, none, none, none] (r.toList ++ []) w1 Q)) := (w_if_eq (pc' := 51) c57_48 rfl).trans (ite_iff ((w_iconst (pc' := 65) (v := 0) c57_64 rfl rfl).trans ((w_zret (ty := .boolean) c57_65 rfl (by decide)).trans (and_iff_right (by decide)))) ((w_aload_n (pc' := 52) c57_51 rfl rfl).trans ((w_ldc (pc' := 54) (q := 1000007) c57_52 rfl rfl).trans ((w_callv (pc' := 57) c57_54 mt46 rfl (Nat.le_of_ble_eq_true rfl) rfl kd_64 rfl rfl (Nat.le_of_ble_eq_true rfl) rfl rfl).trans (wp_congr (fun r w1 => wp_msk lvok57 rfl))))))
theorem b57_90 {X : Nat × (Nat → Int32)} {d : Nat} {I : Nat → Nat → Int32} {L : Nat → Nat → Int64} {Q : Option Value → XW → Prop} {r1 : Nat} {s0 : Int32} (hr1 : isInn r1) : wp X (d + 1) m57 90 [none, some (.ref r1), none, none, none, none, none] [(.int s0)] (K0, R0, I, L) Q ↔ (if s0 = 0 then Q (some (.int 0)) (K0, R0, I, L) else wp X d m61 0 [some (.ref r1), some (.int (-1))] [] (K0, R0, I, L) (fun r w1 => wp X (d + 1) m57 100 [none, none, none, none, none, none, none] (r.toList ++ []) w1 Q)) := (w_if_ne (pc' := 93) c57_90 rfl).trans (ite_iff ((w_iconst (pc' := 94) (v := 0) c57_93 rfl rfl).trans ((w_zret (ty := .boolean) c57_94 rfl (by decide)).trans (and_iff_right (by decide)))) ((w_aload_n (pc' := 96) c57_95 rfl rfl).trans ((w_iconst (pc' := 97) (v := (-1)) c57_96 rfl rfl).trans ((w_callv (pc' := 100) c57_97 mt61 rfl (Nat.le_of_ble_eq_true rfl) rfl hr1.1 rfl rfl (Nat.le_of_ble_eq_true rfl) rfl rfl).trans (wp_congr (fun r w1 => wp_msk lvok57 rfl))))))
theorem b57_108 {X : Nat × (Nat → Int32)} {d : Nat} {I : Nat → Nat → Int32} {L : Nat → Nat → Int64} {Q : Option Value → XW → Prop} {r1 : Nat} {s0 : Int32} (hr1 : isInn r1) : wp X (d + 1) m57 108 [some (.ref 64), some (.ref r1), none, none, none, none, none] [(.int s0)] (K0, R0, I, L) Q ↔ (if s0 < 0 then wp X (d + 1) m57 125 [some (.ref 64), some (.ref r1), none, none, some (.int s0), none, none] [(.int (-1))] (K0, R0, I, L) Q else wp X d m59 0 [some (.ref 64), some (.ref 1000006), none] [] (K0, R0, I, L) (fun r w1 => wp X (d + 1) m57 125 [some (.ref 64), some (.ref r1), none, none, some (.int s0), none, none] (r.toList ++ []) w1 Q)) := (w_istore (pc' := 110) (ls' := [some (.ref 64), some (.ref r1), none, none, some (.int s0), none, none]) c57_108 (Nat.le_of_ble_eq_true rfl) rfl rfl).trans ((w_iload (pc' := 112) c57_110 rfl rfl).trans ((w_if_ge (pc' := 115) c57_112 rfl).trans (ite_iff ((w_iconst (pc' := 116) (v := (-1)) c57_115 rfl rfl).trans ((w_goto c57_116))) ((w_aload_n (pc' := 120) c57_119 rfl rfl).trans ((w_ldc (pc' := 122) (q := 1000006) c57_120 rfl rfl).trans ((w_callv (pc' := 125) c57_122 mt59 rfl (Nat.le_of_ble_eq_true rfl) rfl kd_64 rfl rfl (Nat.le_of_ble_eq_true rfl) rfl rfl)))))))
theorem b57_57 {X : Nat × (Nat → Int32)} {d : Nat} {I : Nat → Nat → Int32} {L : Nat → Nat → Int64} {Q : Option Value → XW → Prop} {s0 : Int32}  : wp X d m57 57 [none, none, none, none, none, none, none] [(.int s0)] (K0, R0, I, L) Q ↔ Q (some (.int (if s0 = 0 then 0 else 1))) (K0, R0, I, L) := (w_if_eq (pc' := 60) c57_57 rfl).trans ((ite_iff ((w_iconst (pc' := 65) (v := 0) c57_64 rfl rfl).trans ((w_zret (ty := .boolean) c57_65 rfl (by decide)).trans (and_iff_right (by decide)))) ((w_iconst (pc' := 61) (v := 1) c57_60 rfl rfl).trans ((w_goto c57_61).trans ((w_zret (ty := .boolean) c57_65 rfl (by decide)).trans (and_iff_right (by decide)))))).trans (ite_val (fun z => Q (some (.int z)) (K0, R0, I, L))))
theorem b57_100 {X : Nat × (Nat → Int32)} {d : Nat} {I : Nat → Nat → Int32} {L : Nat → Nat → Int64} {Q : Option Value → XW → Prop}   : wp X d m57 100 [none, none, none, none, none, none, none] [] (K0, R0, I, L) Q ↔ Q (some (.int 1)) (K0, R0, I, L) := (w_iconst (pc' := 101) (v := 1) c57_100 rfl rfl).trans ((w_zret (ty := .boolean) c57_101 rfl (by decide)).trans (and_iff_right (by decide)))
theorem b57_125 {X : Nat × (Nat → Int32)} {d : Nat} {I : Nat → Nat → Int32} {L : Nat → Nat → Int64} {Q : Option Value → XW → Prop} {r1 : Nat} {x4 : Int32} {s0 : Int32} (hr1 : isInn r1) : wp X (d + 1) m57 125 [some (.ref 64), some (.ref r1), none, none, some (.int x4), none, none] [(.int s0)] (K0, R0, I, L) Q ↔ (if s0 < 0 then wp X (d + 1) m57 140 [none, some (.ref r1), none, none, some (.int x4), some (.int s0), none] [(.int (-1))] (K0, R0, I, L) Q else wp X d m54 0 [some (.ref 64), none, none, none] [] (K0, R0, I, L) (fun r w1 => wp X (d + 1) m57 140 [none, some (.ref r1), none, none, some (.int x4), some (.int s0), none] (r.toList ++ []) w1 Q)) := (w_istore (pc' := 127) (ls' := [some (.ref 64), some (.ref r1), none, none, some (.int x4), some (.int s0), none]) c57_125 (Nat.le_of_ble_eq_true rfl) rfl rfl).trans ((w_iload (pc' := 129) c57_127 rfl rfl).trans ((w_if_ge (pc' := 132) c57_129 rfl).trans (ite_iff ((w_iconst (pc' := 133) (v := (-1)) c57_132 rfl rfl).trans ((w_goto c57_133).trans ((wp_msk lvok57 rfl)))) ((w_aload_n (pc' := 137) c57_136 rfl rfl).trans ((w_callv (pc' := 140) c57_137 mt54 rfl (Nat.le_of_ble_eq_true rfl) rfl kd_64 rfl rfl (Nat.le_of_ble_eq_true rfl) rfl rfl).trans (wp_congr (fun r w1 => wp_msk lvok57 rfl)))))))
theorem b57_140 {X : Nat × (Nat → Int32)} {d : Nat} {I : Nat → Nat → Int32} {L : Nat → Nat → Int64} {Q : Option Value → XW → Prop} {r1 : Nat} {x4 : Int32} {x5 : Int32} {s0 : Int32} (hr1 : isInn r1) : wp X (d + 1) m57 140 [none, some (.ref r1), none, none, some (.int x4), some (.int x5), none] [(.int s0)] (K0, R0, I, L) Q ↔ (if s0 < 0 then Q (some (.int 0)) (K0, R0, I, L) else wp X d m60 0 [some (.ref r1), some (.int x4), some (.int x5), some (.int s0)] [] (K0, R0, I, L) (fun r w1 => wp X (d + 1) m57 159 [none, none, none, none, none, none, none] (r.toList ++ []) w1 Q)) := (w_istore (pc' := 142) (ls' := [none, some (.ref r1), none, none, some (.int x4), some (.int x5), some (.int s0)]) c57_140 (Nat.le_of_ble_eq_true rfl) rfl rfl).trans ((w_iload (pc' := 144) c57_142 rfl rfl).trans ((w_if_ge (pc' := 147) c57_144 rfl).trans (ite_iff ((w_iconst (pc' := 148) (v := 0) c57_147 rfl rfl).trans ((w_zret (ty := .boolean) c57_148 rfl (by decide)).trans (and_iff_right (by decide)))) ((w_aload_n (pc' := 150) c57_149 rfl rfl).trans ((w_iload (pc' := 152) c57_150 rfl rfl).trans ((w_iload (pc' := 154) c57_152 rfl rfl).trans ((w_iload (pc' := 156) c57_154 rfl rfl).trans ((w_callv (pc' := 159) c57_156 mt60 rfl (Nat.le_of_ble_eq_true rfl) rfl hr1.1 rfl rfl (Nat.le_of_ble_eq_true rfl) rfl rfl).trans (wp_congr (fun r w1 => wp_msk lvok57 rfl))))))))))
theorem b57_159 {X : Nat × (Nat → Int32)} {d : Nat} {I : Nat → Nat → Int32} {L : Nat → Nat → Int64} {Q : Option Value → XW → Prop}   : wp X d m57 159 [none, none, none, none, none, none, none] [] (K0, R0, I, L) Q ↔ Q (some (.int 1)) (K0, R0, I, L) := (w_iconst (pc' := 160) (v := 1) c57_159 rfl rfl).trans ((w_zret (ty := .boolean) c57_160 rfl (by decide)).trans (and_iff_right (by decide)))
-- LeavesObject$Text.readOneOf(Ljava/lang/String;)I
theorem c59_0 : cdx (mC m59) 0 = some (0, .iconst 0, 1, 0, 0, 0, 0, []) := rfl
theorem c59_1 : cdx (mC m59) 1 = some (1, .istore_n 2, 1, 2, 0, 0, 0, []) := rfl
theorem c59_2 : cdx (mC m59) 2 = some (2, .iload_n 2, 1, 2, 0, 0, 0, []) := rfl
theorem c59_3 : cdx (mC m59) 3 = some (3, .aload_n 1, 1, 1, 0, 0, 0, []) := rfl
theorem c59_4 : cdx (mC m59) 4 = some (4, .invokevirtual 68, 3, 47, 0, 0, 2181, [(99, 0)]) := rfl
theorem c59_7 : cdx (mC m59) 7 = some (7, .if_icmp .ge 33, 3, 40, 0, 0, 0, []) := rfl
theorem c59_10 : cdx (mC m59) 10 = some (10, .aload_n 0, 1, 0, 0, 0, 0, []) := rfl
theorem c59_11 : cdx (mC m59) 11 = some (11, .invokevirtual 31, 3, 44, 0, 0, 2166, [(7, 0)]) := rfl
theorem c59_14 : cdx (mC m59) 14 = some (14, .aload_n 1, 1, 1, 0, 0, 0, []) := rfl
theorem c59_15 : cdx (mC m59) 15 = some (15, .iload_n 2, 1, 2, 0, 0, 0, []) := rfl
theorem c59_16 : cdx (mC m59) 16 = some (16, .invokevirtual 73, 3, 49, 1, 0, 2191, [(99, 0)]) := rfl
theorem c59_19 : cdx (mC m59) 19 = some (19, .if_icmp .ne 15, 3, 34, 0, 0, 0, []) := rfl
theorem c59_22 : cdx (mC m59) 22 = some (22, .aload_n 0, 1, 0, 0, 0, 0, []) := rfl
theorem c59_23 : cdx (mC m59) 23 = some (23, .dup, 1, 0, 0, 0, 0, []) := rfl
theorem c59_24 : cdx (mC m59) 24 = some (24, .getfield 19, 3, 7, 2, 0, 1138, []) := rfl
theorem c59_27 : cdx (mC m59) 27 = some (27, .iconst 1, 1, 0, 0, 0, 0, []) := rfl
theorem c59_28 : cdx (mC m59) 28 = some (28, .iadd, 1, 0, 0, 0, 0, []) := rfl
theorem c59_29 : cdx (mC m59) 29 = some (29, .putfield 19, 3, 7, 2, 0, 1138, []) := rfl
theorem c59_32 : cdx (mC m59) 32 = some (32, .iload_n 2, 1, 2, 0, 0, 0, []) := rfl
theorem c59_33 : cdx (mC m59) 33 = some (33, .ireturn, 1, 0, 0, 0, 0, []) := rfl
theorem c59_34 : cdx (mC m59) 34 = some (34, .iinc 2 1, 3, 2, 0, 0, 0, []) := rfl
theorem c59_37 : cdx (mC m59) 37 = some (37, .goto (-35), 3, 2, 0, 0, 0, []) := rfl
theorem c59_40 : cdx (mC m59) 40 = some (40, .iconst (-1), 1, 0, 0, 0, 0, []) := rfl
theorem c59_41 : cdx (mC m59) 41 = some (41, .ireturn, 1, 0, 0, 0, 0, []) := rfl
theorem b59_0 {X : Nat × (Nat → Int32)} {d : Nat} {I : Nat → Nat → Int32} {L : Nat → Nat → Int64} {Q : Option Value → XW → Prop} {r1 nr1 : Nat} {fr1 : Nat → Int32} (hr1 : isStr r1 nr1 fr1) : wp X d m59 0 [some (.ref 64), some (.ref r1), none] [] (K0, R0, I, L) Q ↔ wp X d m59 2 [some (.ref 64), some (.ref r1), some (.int 0)] [] (K0, R0, I, L) Q := (w_iconst (pc' := 1) (v := 0) c59_0 rfl rfl).trans ((w_istore_n (pc' := 2) (ls' := [some (.ref 64), some (.ref r1), some (.int 0)]) c59_1 (Nat.le_of_ble_eq_true rfl) rfl rfl))
theorem b59_2 {X : Nat × (Nat → Int32)} {d : Nat} {I : Nat → Nat → Int32} {L : Nat → Nat → Int64} {Q : Option Value → XW → Prop} {r1 nr1 : Nat} {fr1 : Nat → Int32} {x2 : Int32} (hr1 : isStr r1 nr1 fr1) : wp X (d + 1) m59 2 [some (.ref 64), some (.ref r1), some (.int x2)] [] (K0, R0, I, L) Q ↔ wp X d m47 0 [some (.ref r1)] [] (K0, R0, I, L) (fun r w1 => wp X (d + 1) m59 7 [some (.ref 64), some (.ref r1), some (.int x2)] (r.toList ++ [(.int x2)]) w1 Q) := (w_iload_n (pc' := 3) c59_2 rfl rfl).trans ((w_aload_n (pc' := 4) c59_3 rfl rfl).trans ((w_calls (pc' := 7) c59_4 mt47 rfl (Nat.le_of_ble_eq_true rfl) rfl hr1.1 hr1.2.1 rfl (Nat.le_of_ble_eq_true rfl) rfl rfl)))
theorem b59_7 {X : Nat × (Nat → Int32)} {d : Nat} {I : Nat → Nat → Int32} {L : Nat → Nat → Int64} {Q : Option Value → XW → Prop} {r1 nr1 : Nat} {fr1 : Nat → Int32} {x2 : Int32} {s0 : Int32} {s1 : Int32} (hr1 : isStr r1 nr1 fr1) : wp X (d + 1) m59 7 [some (.ref 64), some (.ref r1), some (.int x2)] [(.int s1), (.int s0)] (K0, R0, I, L) Q ↔ (if s0 < s1 then wp X d m44 0 [some (.ref 64)] [] (K0, R0, I, L) (fun r w1 => wp X (d + 1) m59 14 [some (.ref 64), some (.ref r1), some (.int x2)] (r.toList ++ []) w1 Q) else Q (some (.int (-1))) (K0, R0, I, L)) := (w_icmp_ge (pc' := 10) c59_7 rfl).trans (ite_iff ((w_aload_n (pc' := 11) c59_10 rfl rfl).trans ((w_callv (pc' := 14) c59_11 mt44 rfl (Nat.le_of_ble_eq_true rfl) rfl kd_64 rfl rfl (Nat.le_of_ble_eq_true rfl) rfl rfl))) ((w_iconst (pc' := 41) (v := (-1)) c59_40 rfl rfl).trans (w_iret c59_41 rfl)))
theorem b59_14 {X : Nat × (Nat → Int32)} {d : Nat} {I : Nat → Nat → Int32} {L : Nat → Nat → Int64} {Q : Option Value → XW → Prop} {r1 nr1 : Nat} {fr1 : Nat → Int32} {x2 : Int32} {s0 : Int32} (hr1 : isStr r1 nr1 fr1) : wp X (d + 1) m59 14 [some (.ref 64), some (.ref r1), some (.int x2)] [(.int s0)] (K0, R0, I, L) Q ↔ wp X d m49 0 [some (.ref r1), some (.int x2)] [] (K0, R0, I, L) (fun r w1 => wp X (d + 1) m59 19 [some (.ref 64), some (.ref r1), some (.int x2)] (r.toList ++ [(.int s0)]) w1 Q) := (w_aload_n (pc' := 15) c59_14 rfl rfl).trans ((w_iload_n (pc' := 16) c59_15 rfl rfl).trans ((w_calls (pc' := 19) c59_16 mt49 rfl (Nat.le_of_ble_eq_true rfl) rfl hr1.1 hr1.2.1 rfl (Nat.le_of_ble_eq_true rfl) rfl rfl)))
theorem b59_19 {X : Nat × (Nat → Int32)} {d : Nat} {I : Nat → Nat → Int32} {L : Nat → Nat → Int64} {Q : Option Value → XW → Prop} {r1 nr1 : Nat} {fr1 : Nat → Int32} {x2 : Int32} {s0 : Int32} {s1 : Int32} (hr1 : isStr r1 nr1 fr1) : wp X d m59 19 [some (.ref 64), some (.ref r1), some (.int x2)] [(.int s1), (.int s0)] (K0, R0, I, L) Q ↔ (if s0 = s1 then Q (some (.int x2)) (K0, R0, (updR I 64 2 ((I 64 2) + 1)), L) else wp X d m59 2 [some (.ref 64), some (.ref r1), some (.int (x2 + 1))] [] (K0, R0, I, L) Q) := (w_icmp_ne (pc' := 22) c59_19 rfl).trans (ite_iff ((w_aload_n (pc' := 23) c59_22 rfl rfl).trans ((w_dup (pc' := 24) c59_23 rfl rfl).trans ((w_getIv (pc' := 27) (v := (I 64 2)) c59_24 kd_64 (by decide) rfl (rfl) rfl).trans ((w_iconst (pc' := 28) (v := 1) c59_27 rfl rfl).trans ((w_iadd (pc' := 29) c59_28 rfl).trans ((w_putI (pc' := 32) c59_29 kd_64 (by decide) rfl rfl rfl).trans ((w_iload_n (pc' := 33) c59_32 rfl rfl).trans (w_iret c59_33 rfl)))))))) ((w_iinc (pc' := 37) (v := (x2 + 1)) (ls' := [some (.ref 64), some (.ref r1), some (.int (x2 + 1))]) c59_34 (Nat.le_of_ble_eq_true rfl) rfl rfl rfl rfl).trans ((w_goto c59_37))))
-- LeavesObject$Inn.addTest(III)V
theorem c60_0 : cdx (mC m60) 0 = some (0, .aload_n 0, 1, 0, 0, 0, 0, []) := rfl
theorem c60_1 : cdx (mC m60) 1 = some (1, .iload_n 1, 1, 1, 0, 0, 0, []) := rfl
theorem c60_2 : cdx (mC m60) 2 = some (2, .iconst 3, 1, 0, 0, 0, 0, []) := rfl
theorem c60_3 : cdx (mC m60) 3 = some (3, .imul, 1, 0, 0, 0, 0, []) := rfl
theorem c60_4 : cdx (mC m60) 4 = some (4, .iload_n 2, 1, 2, 0, 0, 0, []) := rfl
theorem c60_5 : cdx (mC m60) 5 = some (5, .iadd, 1, 0, 0, 0, 0, []) := rfl
theorem c60_6 : cdx (mC m60) 6 = some (6, .bipush 100, 2, 0, 0, 0, 0, []) := rfl
theorem c60_8 : cdx (mC m60) 8 = some (8, .imul, 1, 0, 0, 0, 0, []) := rfl
theorem c60_9 : cdx (mC m60) 9 = some (9, .iload_n 3, 1, 3, 0, 0, 0, []) := rfl
theorem c60_10 : cdx (mC m60) 10 = some (10, .iadd, 1, 0, 0, 0, 0, []) := rfl
theorem c60_11 : cdx (mC m60) 11 = some (11, .invokevirtual 37, 3, 61, 1, 0, 3023, [(2, 0)]) := rfl
theorem c60_14 : cdx (mC m60) 14 = some (14, .return_, 1, 0, 0, 0, 0, []) := rfl
def lv60 : List (Nat × List Nat) := [(0, [0, 1, 2, 3]), (1, [1, 2, 3]), (2, [2, 3]), (3, [2, 3]), (4, [2, 3]), (5, [3]), (6, [3]), (8, [3]), (9, [3])]
theorem lvok60 : lvOk (mC m60) lv60 = true := by decide +kernel
theorem b60_0 {X : Nat × (Nat → Int32)} {d : Nat} {I : Nat → Nat → Int32} {L : Nat → Nat → Int64} {Q : Option Value → XW → Prop} {r0 : Nat} {x1 : Int32} {x2 : Int32} {x3 : Int32} (hr0 : isInn r0) : wp X (d + 1) m60 0 [some (.ref r0), some (.int x1), some (.int x2), some (.int x3)] [] (K0, R0, I, L) Q ↔ wp X d m61 0 [some (.ref r0), some (.int ((((x1 * 3) + x2) * 100) + x3))] [] (K0, R0, I, L) (fun r w1 => wp X (d + 1) m60 14 [none, none, none, none] (r.toList ++ []) w1 Q) := (w_aload_n (pc' := 1) c60_0 rfl rfl).trans ((w_iload_n (pc' := 2) c60_1 rfl rfl).trans ((w_iconst (pc' := 3) (v := 3) c60_2 rfl rfl).trans ((w_imul (pc' := 4) c60_3 rfl).trans ((w_iload_n (pc' := 5) c60_4 rfl rfl).trans ((w_iadd (pc' := 6) c60_5 rfl).trans ((w_bipush (pc' := 8) (v := 100) c60_6 rfl rfl).trans ((w_imul (pc' := 9) c60_8 rfl).trans ((w_iload_n (pc' := 10) c60_9 rfl rfl).trans ((w_iadd (pc' := 11) c60_10 rfl).trans ((w_callv (pc' := 14) c60_11 mt61 rfl (Nat.le_of_ble_eq_true rfl) rfl hr0.1 rfl rfl (Nat.le_of_ble_eq_true rfl) rfl rfl).trans (wp_congr (fun r w1 => wp_msk lvok60 rfl))))))))))))
theorem b60_14 {X : Nat × (Nat → Int32)} {d : Nat} {I : Nat → Nat → Int32} {L : Nat → Nat → Int64} {Q : Option Value → XW → Prop}   : wp X d m60 14 [none, none, none, none] [] (K0, R0, I, L) Q ↔ Q none (K0, R0, I, L) := w_vret c60_14 rfl
-- LeavesObject$Inn.addStep(I)V
theorem c61_0 : cdx (mC m61) 0 = some (0, .aload_n 0, 1, 0, 0, 0, 0, []) := rfl
theorem c61_1 : cdx (mC m61) 1 = some (1, .getfield 34, 3, 2, 5, 0, 1165, []) := rfl
theorem c61_4 : cdx (mC m61) 4 = some (4, .ifCond .lt 35, 3, 39, 0, 0, 0, []) := rfl
theorem c61_7 : cdx (mC m61) 7 = some (7, .aload_n 0, 1, 0, 0, 0, 0, []) := rfl
theorem c61_8 : cdx (mC m61) 8 = some (8, .getfield 34, 3, 2, 5, 0, 1165, []) := rfl
theorem c61_11 : cdx (mC m61) 11 = some (11, .aload_n 0, 1, 0, 0, 0, 0, []) := rfl
theorem c61_12 : cdx (mC m61) 12 = some (12, .getfield 25, 3, 2, 6, 0, 1166, []) := rfl
theorem c61_15 : cdx (mC m61) 15 = some (15, .arraylength, 1, 0, 0, 0, 0, []) := rfl
theorem c61_16 : cdx (mC m61) 16 = some (16, .if_icmp .ge 23, 3, 39, 0, 0, 0, []) := rfl
theorem c61_19 : cdx (mC m61) 19 = some (19, .aload_n 0, 1, 0, 0, 0, 0, []) := rfl
theorem c61_20 : cdx (mC m61) 20 = some (20, .getfield 25, 3, 2, 6, 0, 1166, []) := rfl
theorem c61_23 : cdx (mC m61) 23 = some (23, .aload_n 0, 1, 0, 0, 0, 0, []) := rfl
theorem c61_24 : cdx (mC m61) 24 = some (24, .getfield 34, 3, 2, 5, 0, 1165, []) := rfl
theorem c61_27 : cdx (mC m61) 27 = some (27, .iload_n 1, 1, 1, 0, 0, 0, []) := rfl
theorem c61_28 : cdx (mC m61) 28 = some (28, .iastore, 1, 0, 0, 0, 0, []) := rfl
theorem c61_29 : cdx (mC m61) 29 = some (29, .aload_n 0, 1, 0, 0, 0, 0, []) := rfl
theorem c61_30 : cdx (mC m61) 30 = some (30, .dup, 1, 0, 0, 0, 0, []) := rfl
theorem c61_31 : cdx (mC m61) 31 = some (31, .getfield 34, 3, 2, 5, 0, 1165, []) := rfl
theorem c61_34 : cdx (mC m61) 34 = some (34, .iconst 1, 1, 0, 0, 0, 0, []) := rfl
theorem c61_35 : cdx (mC m61) 35 = some (35, .iadd, 1, 0, 0, 0, 0, []) := rfl
theorem c61_36 : cdx (mC m61) 36 = some (36, .putfield 34, 3, 2, 5, 0, 1165, []) := rfl
theorem c61_39 : cdx (mC m61) 39 = some (39, .return_, 1, 0, 0, 0, 0, []) := rfl
theorem b61_0 {X : Nat × (Nat → Int32)} {d : Nat} {I : Nat → Nat → Int32} {L : Nat → Nat → Int64} {Q : Option Value → XW → Prop} {r0 : Nat} {x1 : Int32} (hr0 : isInn r0) : wp X d m61 0 [some (.ref r0), some (.int x1)] [] (K0, R0, I, L) Q ↔ (if (I r0 5) < 0 then Q none (K0, R0, I, L) else (if (I r0 5) < 100 then (inA (I r0 5) 100 = true ∧ Q none (K0, R0, (updR (updR I (r0 + 3) (Int32.toNatClampNeg (I r0 5)) x1) r0 5 ((I r0 5) + 1)), L)) else Q none (K0, R0, I, L))) := (w_aload_n (pc' := 1) c61_0 rfl rfl).trans ((w_getIv (pc' := 4) (v := (I r0 5)) c61_1 hr0.1 (by decide) rfl (rfl) rfl).trans ((w_if_lt (pc' := 7) c61_4 rfl).trans (ite_iff (w_vret c61_39 rfl) ((w_aload_n (pc' := 8) c61_7 rfl rfl).trans ((w_getIv (pc' := 11) (v := (I r0 5)) c61_8 hr0.1 (by decide) rfl (rfl) rfl).trans ((w_aload_n (pc' := 12) c61_11 rfl rfl).trans ((w_getR (pc' := 15) (q := (r0 + 3)) c61_12 hr0.1 (by decide) rfl hr0.2.2.2.1 rfl).trans ((w_alen (pc' := 16) (v := 100) c61_15 hr0.2.2.2.2.2.2.2.1 rfl rfl).trans ((w_icmp_ge (pc' := 19) c61_16 rfl).trans (ite_iff ((w_aload_n (pc' := 20) c61_19 rfl rfl).trans ((w_getR (pc' := 23) (q := (r0 + 3)) c61_20 hr0.1 (by decide) rfl hr0.2.2.2.1 rfl).trans ((w_aload_n (pc' := 24) c61_23 rfl rfl).trans ((w_getIv (pc' := 27) (v := (I r0 5)) c61_24 hr0.1 (by decide) rfl (rfl) rfl).trans ((w_iload_n (pc' := 28) c61_27 rfl rfl).trans ((w_iast (pc' := 29) c61_28 hr0.2.2.2.2.2.2.2.1 rfl).trans (and_congr_right (fun _ => (w_aload_n (pc' := 30) c61_29 rfl rfl).trans ((w_dup (pc' := 31) c61_30 rfl rfl).trans ((w_getIv (pc' := 34) (v := (I r0 5)) c61_31 hr0.1 (by decide) rfl ((updR_k (by omega)).trans (rfl)) rfl).trans ((w_iconst (pc' := 35) (v := 1) c61_34 rfl rfl).trans ((w_iadd (pc' := 36) c61_35 rfl).trans ((w_putI (pc' := 39) c61_36 hr0.1 (by decide) rfl rfl rfl).trans (w_vret c61_39 rfl)))))))))))))) (w_vret c61_39 rfl)))))))))))
-- LeavesObject$Inn.endChange(I)V
theorem c62_0 : cdx (mC m62) 0 = some (0, .aload_n 0, 1, 0, 0, 0, 0, []) := rfl
theorem c62_1 : cdx (mC m62) 1 = some (1, .getfield 31, 3, 2, 2, 0, 1162, []) := rfl
theorem c62_4 : cdx (mC m62) 4 = some (4, .ifCond .lt 60, 3, 64, 0, 0, 0, []) := rfl
theorem c62_7 : cdx (mC m62) 7 = some (7, .aload_n 0, 1, 0, 0, 0, 0, []) := rfl
theorem c62_8 : cdx (mC m62) 8 = some (8, .getfield 31, 3, 2, 2, 0, 1162, []) := rfl
theorem c62_11 : cdx (mC m62) 11 = some (11, .aload_n 0, 1, 0, 0, 0, 0, []) := rfl
theorem c62_12 : cdx (mC m62) 12 = some (12, .getfield 18, 3, 2, 3, 0, 1163, []) := rfl
theorem c62_15 : cdx (mC m62) 15 = some (15, .arraylength, 1, 0, 0, 0, 0, []) := rfl
theorem c62_16 : cdx (mC m62) 16 = some (16, .if_icmp .ge 48, 3, 64, 0, 0, 0, []) := rfl
theorem c62_19 : cdx (mC m62) 19 = some (19, .aload_n 0, 1, 0, 0, 0, 0, []) := rfl
theorem c62_20 : cdx (mC m62) 20 = some (20, .getfield 31, 3, 2, 2, 0, 1162, []) := rfl
theorem c62_23 : cdx (mC m62) 23 = some (23, .aload_n 0, 1, 0, 0, 0, 0, []) := rfl
theorem c62_24 : cdx (mC m62) 24 = some (24, .getfield 22, 3, 2, 4, 0, 1164, []) := rfl
theorem c62_27 : cdx (mC m62) 27 = some (27, .arraylength, 1, 0, 0, 0, 0, []) := rfl
theorem c62_28 : cdx (mC m62) 28 = some (28, .if_icmp .ge 36, 3, 64, 0, 0, 0, []) := rfl
theorem c62_31 : cdx (mC m62) 31 = some (31, .aload_n 0, 1, 0, 0, 0, 0, []) := rfl
theorem c62_32 : cdx (mC m62) 32 = some (32, .getfield 18, 3, 2, 3, 0, 1163, []) := rfl
theorem c62_35 : cdx (mC m62) 35 = some (35, .aload_n 0, 1, 0, 0, 0, 0, []) := rfl
theorem c62_36 : cdx (mC m62) 36 = some (36, .getfield 31, 3, 2, 2, 0, 1162, []) := rfl
theorem c62_39 : cdx (mC m62) 39 = some (39, .iload_n 1, 1, 1, 0, 0, 0, []) := rfl
theorem c62_40 : cdx (mC m62) 40 = some (40, .iastore, 1, 0, 0, 0, 0, []) := rfl
theorem c62_41 : cdx (mC m62) 41 = some (41, .aload_n 0, 1, 0, 0, 0, 0, []) := rfl
theorem c62_42 : cdx (mC m62) 42 = some (42, .getfield 22, 3, 2, 4, 0, 1164, []) := rfl
theorem c62_45 : cdx (mC m62) 45 = some (45, .aload_n 0, 1, 0, 0, 0, 0, []) := rfl
theorem c62_46 : cdx (mC m62) 46 = some (46, .getfield 31, 3, 2, 2, 0, 1162, []) := rfl
theorem c62_49 : cdx (mC m62) 49 = some (49, .aload_n 0, 1, 0, 0, 0, 0, []) := rfl
theorem c62_50 : cdx (mC m62) 50 = some (50, .getfield 34, 3, 2, 5, 0, 1165, []) := rfl
theorem c62_53 : cdx (mC m62) 53 = some (53, .iastore, 1, 0, 0, 0, 0, []) := rfl
theorem c62_54 : cdx (mC m62) 54 = some (54, .aload_n 0, 1, 0, 0, 0, 0, []) := rfl
theorem c62_55 : cdx (mC m62) 55 = some (55, .dup, 1, 0, 0, 0, 0, []) := rfl
theorem c62_56 : cdx (mC m62) 56 = some (56, .getfield 31, 3, 2, 2, 0, 1162, []) := rfl
theorem c62_59 : cdx (mC m62) 59 = some (59, .iconst 1, 1, 0, 0, 0, 0, []) := rfl
theorem c62_60 : cdx (mC m62) 60 = some (60, .iadd, 1, 0, 0, 0, 0, []) := rfl
theorem c62_61 : cdx (mC m62) 61 = some (61, .putfield 31, 3, 2, 2, 0, 1162, []) := rfl
theorem c62_64 : cdx (mC m62) 64 = some (64, .return_, 1, 0, 0, 0, 0, []) := rfl
theorem b62_0 {X : Nat × (Nat → Int32)} {d : Nat} {I : Nat → Nat → Int32} {L : Nat → Nat → Int64} {Q : Option Value → XW → Prop} {r0 : Nat} {x1 : Int32} (hr0 : isInn r0) : wp X d m62 0 [some (.ref r0), some (.int x1)] [] (K0, R0, I, L) Q ↔ (if (I r0 2) < 0 then Q none (K0, R0, I, L) else (if (I r0 2) < 10 then (if (I r0 2) < 10 then (inA (I r0 2) 10 = true ∧ (inA (I r0 2) 10 = true ∧ Q none (K0, R0, (updR (updR (updR I (r0 + 1) (Int32.toNatClampNeg (I r0 2)) x1) (r0 + 2) (Int32.toNatClampNeg (I r0 2)) (I r0 5)) r0 2 ((I r0 2) + 1)), L))) else Q none (K0, R0, I, L)) else Q none (K0, R0, I, L))) := (w_aload_n (pc' := 1) c62_0 rfl rfl).trans ((w_getIv (pc' := 4) (v := (I r0 2)) c62_1 hr0.1 (by decide) rfl (rfl) rfl).trans ((w_if_lt (pc' := 7) c62_4 rfl).trans (ite_iff (w_vret c62_64 rfl) ((w_aload_n (pc' := 8) c62_7 rfl rfl).trans ((w_getIv (pc' := 11) (v := (I r0 2)) c62_8 hr0.1 (by decide) rfl (rfl) rfl).trans ((w_aload_n (pc' := 12) c62_11 rfl rfl).trans ((w_getR (pc' := 15) (q := (r0 + 1)) c62_12 hr0.1 (by decide) rfl hr0.2.1 rfl).trans ((w_alen (pc' := 16) (v := 10) c62_15 hr0.2.2.2.2.2.1 rfl rfl).trans ((w_icmp_ge (pc' := 19) c62_16 rfl).trans (ite_iff ((w_aload_n (pc' := 20) c62_19 rfl rfl).trans ((w_getIv (pc' := 23) (v := (I r0 2)) c62_20 hr0.1 (by decide) rfl (rfl) rfl).trans ((w_aload_n (pc' := 24) c62_23 rfl rfl).trans ((w_getR (pc' := 27) (q := (r0 + 2)) c62_24 hr0.1 (by decide) rfl hr0.2.2.1 rfl).trans ((w_alen (pc' := 28) (v := 10) c62_27 hr0.2.2.2.2.2.2.1 rfl rfl).trans ((w_icmp_ge (pc' := 31) c62_28 rfl).trans (ite_iff ((w_aload_n (pc' := 32) c62_31 rfl rfl).trans ((w_getR (pc' := 35) (q := (r0 + 1)) c62_32 hr0.1 (by decide) rfl hr0.2.1 rfl).trans ((w_aload_n (pc' := 36) c62_35 rfl rfl).trans ((w_getIv (pc' := 39) (v := (I r0 2)) c62_36 hr0.1 (by decide) rfl (rfl) rfl).trans ((w_iload_n (pc' := 40) c62_39 rfl rfl).trans ((w_iast (pc' := 41) c62_40 hr0.2.2.2.2.2.1 rfl).trans (and_congr_right (fun _ => (w_aload_n (pc' := 42) c62_41 rfl rfl).trans ((w_getR (pc' := 45) (q := (r0 + 2)) c62_42 hr0.1 (by decide) rfl hr0.2.2.1 rfl).trans ((w_aload_n (pc' := 46) c62_45 rfl rfl).trans ((w_getIv (pc' := 49) (v := (I r0 2)) c62_46 hr0.1 (by decide) rfl ((updR_k (by omega)).trans (rfl)) rfl).trans ((w_aload_n (pc' := 50) c62_49 rfl rfl).trans ((w_getIv (pc' := 53) (v := (I r0 5)) c62_50 hr0.1 (by decide) rfl ((updR_k (by omega)).trans (rfl)) rfl).trans ((w_iast (pc' := 54) c62_53 hr0.2.2.2.2.2.2.1 rfl).trans (and_congr_right (fun _ => (w_aload_n (pc' := 55) c62_54 rfl rfl).trans ((w_dup (pc' := 56) c62_55 rfl rfl).trans ((w_getIv (pc' := 59) (v := (I r0 2)) c62_56 hr0.1 (by decide) rfl ((updR_k (by omega)).trans ((updR_k (by omega)).trans (rfl))) rfl).trans ((w_iconst (pc' := 60) (v := 1) c62_59 rfl rfl).trans ((w_iadd (pc' := 61) c62_60 rfl).trans ((w_putI (pc' := 64) c62_61 hr0.1 (by decide) rfl rfl rfl).trans (w_vret c62_64 rfl)))))))))))))))))))))) (w_vret c62_64 rfl)))))))) (w_vret c62_64 rfl)))))))))))
-- LeavesObject.told(I)I
theorem c63_0 : cdx (mC m63) 0 = some (0, .iload_n 1, 1, 1, 0, 0, 0, []) := rfl
theorem c63_1 : cdx (mC m63) 1 = some (1, .tableswitch 100 0 6 #[43, 51, 59, 67, 76, 84, 92], 43, 101, 0, 0, 0, [(0, 44), (1, 52), (2, 60), (3, 68), (4, 77), (5, 85), (6, 93)]) := rfl
theorem c63_44 : cdx (mC m63) 44 = some (44, .aload_n 0, 1, 0, 0, 0, 0, []) := rfl
theorem c63_45 : cdx (mC m63) 45 = some (45, .getfield 12, 3, 9, 0, 0, 1239, []) := rfl
theorem c63_48 : cdx (mC m63) 48 = some (48, .getfield 102, 3, 5, 2, 0, 1104, []) := rfl
theorem c63_51 : cdx (mC m63) 51 = some (51, .ireturn, 1, 0, 0, 0, 0, []) := rfl
theorem c63_52 : cdx (mC m63) 52 = some (52, .aload_n 0, 1, 0, 0, 0, 0, []) := rfl
theorem c63_53 : cdx (mC m63) 53 = some (53, .invokevirtual 98, 3, 19, 0, 0, 2069, [(9, 0)]) := rfl
theorem c63_56 : cdx (mC m63) 56 = some (56, .getfield 155, 3, 2, 0, 0, 1157, []) := rfl
theorem c63_59 : cdx (mC m63) 59 = some (59, .ireturn, 1, 0, 0, 0, 0, []) := rfl
theorem c63_60 : cdx (mC m63) 60 = some (60, .aload_n 0, 1, 0, 0, 0, 0, []) := rfl
theorem c63_61 : cdx (mC m63) 61 = some (61, .invokevirtual 98, 3, 19, 0, 0, 2069, [(9, 0)]) := rfl
theorem c63_64 : cdx (mC m63) 64 = some (64, .getfield 158, 3, 2, 1, 0, 1161, []) := rfl
theorem c63_67 : cdx (mC m63) 67 = some (67, .ireturn, 1, 0, 0, 0, 0, []) := rfl
theorem c63_68 : cdx (mC m63) 68 = some (68, .aload_n 0, 1, 0, 0, 0, 0, []) := rfl
theorem c63_69 : cdx (mC m63) 69 = some (69, .getfield 12, 3, 9, 0, 0, 1239, []) := rfl
theorem c63_72 : cdx (mC m63) 72 = some (72, .iconst (-1), 1, 0, 0, 0, 0, []) := rfl
theorem c63_73 : cdx (mC m63) 73 = some (73, .invokevirtual 161, 3, 64, 1, 0, 3033, [(5, 0)]) := rfl
theorem c63_76 : cdx (mC m63) 76 = some (76, .ireturn, 1, 0, 0, 0, 0, []) := rfl
theorem c63_77 : cdx (mC m63) 77 = some (77, .aload_n 0, 1, 0, 0, 0, 0, []) := rfl
theorem c63_78 : cdx (mC m63) 78 = some (78, .getfield 12, 3, 9, 0, 0, 1239, []) := rfl
theorem c63_81 : cdx (mC m63) 81 = some (81, .invokevirtual 164, 3, 66, 0, 0, 3042, [(5, 0)]) := rfl
theorem c63_84 : cdx (mC m63) 84 = some (84, .ireturn, 1, 0, 0, 0, 0, []) := rfl
theorem c63_85 : cdx (mC m63) 85 = some (85, .aload_n 0, 1, 0, 0, 0, 0, []) := rfl
theorem c63_86 : cdx (mC m63) 86 = some (86, .getfield 12, 3, 9, 0, 0, 1239, []) := rfl
theorem c63_89 : cdx (mC m63) 89 = some (89, .invokevirtual 168, 3, 67, 0, 0, 3046, [(5, 0)]) := rfl
theorem c63_92 : cdx (mC m63) 92 = some (92, .ireturn, 1, 0, 0, 0, 0, []) := rfl
theorem c63_93 : cdx (mC m63) 93 = some (93, .aload_n 0, 1, 0, 0, 0, 0, []) := rfl
theorem c63_94 : cdx (mC m63) 94 = some (94, .getfield 12, 3, 9, 0, 0, 1239, []) := rfl
theorem c63_97 : cdx (mC m63) 97 = some (97, .invokevirtual 171, 3, 69, 0, 0, 3053, [(5, 0)]) := rfl
theorem c63_100 : cdx (mC m63) 100 = some (100, .ireturn, 1, 0, 0, 0, 0, []) := rfl
theorem c63_101 : cdx (mC m63) 101 = some (101, .iconst (-1), 1, 0, 0, 0, 0, []) := rfl
theorem c63_102 : cdx (mC m63) 102 = some (102, .ireturn, 1, 0, 0, 0, 0, []) := rfl
def lv63 : List (Nat × List Nat) := [(0, [0, 1]), (1, [0]), (44, [0]), (52, [0]), (60, [0]), (68, [0]), (77, [0]), (85, [0]), (93, [0])]
theorem lvok63 : lvOk (mC m63) lv63 = true := by decide +kernel
theorem b63_0 {X : Nat × (Nat → Int32)} {d : Nat} {I : Nat → Nat → Int32} {L : Nat → Nat → Int64} {Q : Option Value → XW → Prop} {x1 : Int32}  : wp X (d + 1) m63 0 [some (.ref 0), some (.int x1)] [] (K0, R0, I, L) Q ↔ (if x1 = 0 then Q (some (.int (I 1 2))) (K0, R0, I, L) else (if x1 = 1 then wp X d m19 0 [some (.ref 0), none] [] (K0, R0, I, L) (fun r w1 => wp X (d + 1) m63 56 [none, none] (r.toList ++ []) w1 Q) else (if x1 = 2 then wp X d m19 0 [some (.ref 0), none] [] (K0, R0, I, L) (fun r w1 => wp X (d + 1) m63 64 [none, none] (r.toList ++ []) w1 Q) else (if x1 = 3 then wp X d m64 0 [some (.ref 1), some (.int (-1)), none, none] [] (K0, R0, I, L) (fun r w1 => wp X (d + 1) m63 76 [none, none] (r.toList ++ []) w1 Q) else (if x1 = 4 then wp X d m66 0 [some (.ref 1), none, none, none] [] (K0, R0, I, L) (fun r w1 => wp X (d + 1) m63 84 [none, none] (r.toList ++ []) w1 Q) else (if x1 = 5 then wp X d m67 0 [some (.ref 1), none, none] [] (K0, R0, I, L) (fun r w1 => wp X (d + 1) m63 92 [none, none] (r.toList ++ []) w1 Q) else (if x1 = 6 then wp X d m69 0 [some (.ref 1), none, none, none, none, none] [] (K0, R0, I, L) (fun r w1 => wp X (d + 1) m63 100 [none, none] (r.toList ++ []) w1 Q) else Q (some (.int (-1))) (K0, R0, I, L)))))))) := (w_iload_n (pc' := 1) c63_0 rfl rfl).trans ((w_tswitch c63_1).trans ((w_swcons (v := 0) rfl).trans (ite_iff ((w_aload_n (pc' := 45) c63_44 rfl rfl).trans ((w_getR (pc' := 48) (q := 1) c63_45 kd_0 (by decide) rfl rd_0_0 rfl).trans ((w_getIv (pc' := 51) (v := (I 1 2)) c63_48 tbl_1.1 (by decide) rfl (rfl) rfl).trans (w_iret c63_51 rfl)))) ((w_swcons (v := 1) rfl).trans (ite_iff ((w_aload_n (pc' := 53) c63_52 rfl rfl).trans ((w_callv (pc' := 56) c63_53 mt19 rfl (Nat.le_of_ble_eq_true rfl) rfl kd_0 rfl rfl (Nat.le_of_ble_eq_true rfl) rfl rfl).trans (wp_congr (fun r w1 => wp_msk lvok63 rfl)))) ((w_swcons (v := 2) rfl).trans (ite_iff ((w_aload_n (pc' := 61) c63_60 rfl rfl).trans ((w_callv (pc' := 64) c63_61 mt19 rfl (Nat.le_of_ble_eq_true rfl) rfl kd_0 rfl rfl (Nat.le_of_ble_eq_true rfl) rfl rfl).trans (wp_congr (fun r w1 => wp_msk lvok63 rfl)))) ((w_swcons (v := 3) rfl).trans (ite_iff ((w_aload_n (pc' := 69) c63_68 rfl rfl).trans ((w_getR (pc' := 72) (q := 1) c63_69 kd_0 (by decide) rfl rd_0_0 rfl).trans ((w_iconst (pc' := 73) (v := (-1)) c63_72 rfl rfl).trans ((w_callv (pc' := 76) c63_73 mt64 rfl (Nat.le_of_ble_eq_true rfl) rfl tbl_1.1 rfl rfl (Nat.le_of_ble_eq_true rfl) rfl rfl).trans (wp_congr (fun r w1 => wp_msk lvok63 rfl)))))) ((w_swcons (v := 4) rfl).trans (ite_iff ((w_aload_n (pc' := 78) c63_77 rfl rfl).trans ((w_getR (pc' := 81) (q := 1) c63_78 kd_0 (by decide) rfl rd_0_0 rfl).trans ((w_callv (pc' := 84) c63_81 mt66 rfl (Nat.le_of_ble_eq_true rfl) rfl tbl_1.1 rfl rfl (Nat.le_of_ble_eq_true rfl) rfl rfl).trans (wp_congr (fun r w1 => wp_msk lvok63 rfl))))) ((w_swcons (v := 5) rfl).trans (ite_iff ((w_aload_n (pc' := 86) c63_85 rfl rfl).trans ((w_getR (pc' := 89) (q := 1) c63_86 kd_0 (by decide) rfl rd_0_0 rfl).trans ((w_callv (pc' := 92) c63_89 mt67 rfl (Nat.le_of_ble_eq_true rfl) rfl tbl_1.1 rfl rfl (Nat.le_of_ble_eq_true rfl) rfl rfl).trans (wp_congr (fun r w1 => wp_msk lvok63 rfl))))) ((w_swcons (v := 6) rfl).trans (ite_iff ((w_aload_n (pc' := 94) c63_93 rfl rfl).trans ((w_getR (pc' := 97) (q := 1) c63_94 kd_0 (by decide) rfl rd_0_0 rfl).trans ((w_callv (pc' := 100) c63_97 mt69 rfl (Nat.le_of_ble_eq_true rfl) rfl tbl_1.1 rfl rfl (Nat.le_of_ble_eq_true rfl) rfl rfl).trans (wp_congr (fun r w1 => wp_msk lvok63 rfl))))) ((w_swnil).trans ((w_iconst (pc' := 102) (v := (-1)) c63_101 rfl rfl).trans (w_iret c63_102 rfl))))))))))))))))))
theorem b63_56 {X : Nat × (Nat → Int32)} {d : Nat} {I : Nat → Nat → Int32} {L : Nat → Nat → Int64} {Q : Option Value → XW → Prop} {q0 : Nat} (hq0 : isInn q0) : wp X d m63 56 [none, none] [(.ref q0)] (K0, R0, I, L) Q ↔ Q (some (.int (I q0 0))) (K0, R0, I, L) := (w_getIv (pc' := 59) (v := (I q0 0)) c63_56 hq0.1 (by decide) rfl (rfl) rfl).trans (w_iret c63_59 rfl)
theorem b63_64 {X : Nat × (Nat → Int32)} {d : Nat} {I : Nat → Nat → Int32} {L : Nat → Nat → Int64} {Q : Option Value → XW → Prop} {q0 : Nat} (hq0 : isInn q0) : wp X d m63 64 [none, none] [(.ref q0)] (K0, R0, I, L) Q ↔ Q (some (.int (I q0 1))) (K0, R0, I, L) := (w_getIv (pc' := 67) (v := (I q0 1)) c63_64 hq0.1 (by decide) rfl (rfl) rfl).trans (w_iret c63_67 rfl)
theorem b63_76 {X : Nat × (Nat → Int32)} {d : Nat} {I : Nat → Nat → Int32} {L : Nat → Nat → Int64} {Q : Option Value → XW → Prop} {s0 : Int32}  : wp X d m63 76 [none, none] [(.int s0)] (K0, R0, I, L) Q ↔ Q (some (.int s0)) (K0, R0, I, L) := w_iret c63_76 rfl
theorem b63_84 {X : Nat × (Nat → Int32)} {d : Nat} {I : Nat → Nat → Int32} {L : Nat → Nat → Int64} {Q : Option Value → XW → Prop} {s0 : Int32}  : wp X d m63 84 [none, none] [(.int s0)] (K0, R0, I, L) Q ↔ Q (some (.int s0)) (K0, R0, I, L) := w_iret c63_84 rfl
theorem b63_92 {X : Nat × (Nat → Int32)} {d : Nat} {I : Nat → Nat → Int32} {L : Nat → Nat → Int64} {Q : Option Value → XW → Prop} {s0 : Int32}  : wp X d m63 92 [none, none] [(.int s0)] (K0, R0, I, L) Q ↔ Q (some (.int s0)) (K0, R0, I, L) := w_iret c63_92 rfl
theorem b63_100 {X : Nat × (Nat → Int32)} {d : Nat} {I : Nat → Nat → Int32} {L : Nat → Nat → Int64} {Q : Option Value → XW → Prop} {s0 : Int32}  : wp X d m63 100 [none, none] [(.int s0)] (K0, R0, I, L) Q ↔ Q (some (.int s0)) (K0, R0, I, L) := w_iret c63_100 rfl
-- LeavesObject$Table.joined(I)I
theorem c64_0 : cdx (mC m64) 0 = some (0, .iconst 0, 1, 0, 0, 0, 0, []) := rfl
theorem c64_1 : cdx (mC m64) 1 = some (1, .istore_n 2, 1, 2, 0, 0, 0, []) := rfl
theorem c64_2 : cdx (mC m64) 2 = some (2, .iconst 0, 1, 0, 0, 0, 0, []) := rfl
theorem c64_3 : cdx (mC m64) 3 = some (3, .istore_n 3, 1, 3, 0, 0, 0, []) := rfl
theorem c64_4 : cdx (mC m64) 4 = some (4, .iload_n 3, 1, 3, 0, 0, 0, []) := rfl
theorem c64_5 : cdx (mC m64) 5 = some (5, .aload_n 0, 1, 0, 0, 0, 0, []) := rfl
theorem c64_6 : cdx (mC m64) 6 = some (6, .getfield 37, 3, 5, 1, 0, 1103, []) := rfl
theorem c64_9 : cdx (mC m64) 9 = some (9, .if_icmp .ge 22, 3, 31, 0, 0, 0, []) := rfl
theorem c64_12 : cdx (mC m64) 12 = some (12, .iload_n 3, 1, 3, 0, 0, 0, []) := rfl
theorem c64_13 : cdx (mC m64) 13 = some (13, .iload_n 1, 1, 1, 0, 0, 0, []) := rfl
theorem c64_14 : cdx (mC m64) 14 = some (14, .if_icmp .eq 11, 3, 25, 0, 0, 0, []) := rfl
theorem c64_17 : cdx (mC m64) 17 = some (17, .iload_n 2, 1, 2, 0, 0, 0, []) := rfl
theorem c64_18 : cdx (mC m64) 18 = some (18, .aload_n 0, 1, 0, 0, 0, 0, []) := rfl
theorem c64_19 : cdx (mC m64) 19 = some (19, .iload_n 3, 1, 3, 0, 0, 0, []) := rfl
theorem c64_20 : cdx (mC m64) 20 = some (20, .invokevirtual 69, 3, 65, 1, 0, 3037, [(5, 0)]) := rfl
theorem c64_23 : cdx (mC m64) 23 = some (23, .ior, 1, 0, 0, 0, 0, []) := rfl
theorem c64_24 : cdx (mC m64) 24 = some (24, .istore_n 2, 1, 2, 0, 0, 0, []) := rfl
theorem c64_25 : cdx (mC m64) 25 = some (25, .iinc 3 1, 3, 3, 0, 0, 0, []) := rfl
theorem c64_28 : cdx (mC m64) 28 = some (28, .goto (-24), 3, 4, 0, 0, 0, []) := rfl
theorem c64_31 : cdx (mC m64) 31 = some (31, .iload_n 2, 1, 2, 0, 0, 0, []) := rfl
theorem c64_32 : cdx (mC m64) 32 = some (32, .ireturn, 1, 0, 0, 0, 0, []) := rfl
def lv64 : List (Nat × List Nat) := [(0, [0, 1]), (1, [0, 1]), (2, [0, 1, 2]), (3, [0, 1, 2]), (4, [0, 1, 2, 3]), (5, [0, 1, 2, 3]), (6, [0, 1, 2, 3]), (9, [0, 1, 2, 3]), (12, [0, 1, 2, 3]), (13, [0, 1, 2, 3]), (14, [0, 1, 2, 3]), (17, [0, 1, 2, 3]), (18, [0, 1, 3]), (19, [0, 1, 3]), (20, [0, 1, 3]), (23, [0, 1, 3]), (24, [0, 1, 3]), (25, [0, 1, 2, 3]), (28, [0, 1, 2, 3]), (31, [2])]
theorem lvok64 : lvOk (mC m64) lv64 = true := by decide +kernel
theorem b64_0 {X : Nat × (Nat → Int32)} {d : Nat} {I : Nat → Nat → Int32} {L : Nat → Nat → Int64} {Q : Option Value → XW → Prop} {r0 : Nat} {x1 : Int32} (hr0 : isTable r0) : wp X d m64 0 [some (.ref r0), some (.int x1), none, none] [] (K0, R0, I, L) Q ↔ wp X d m64 4 [some (.ref r0), some (.int x1), some (.int 0), some (.int 0)] [] (K0, R0, I, L) Q := (w_iconst (pc' := 1) (v := 0) c64_0 rfl rfl).trans ((w_istore_n (pc' := 2) (ls' := [some (.ref r0), some (.int x1), some (.int 0), none]) c64_1 (Nat.le_of_ble_eq_true rfl) rfl rfl).trans ((w_iconst (pc' := 3) (v := 0) c64_2 rfl rfl).trans ((w_istore_n (pc' := 4) (ls' := [some (.ref r0), some (.int x1), some (.int 0), some (.int 0)]) c64_3 (Nat.le_of_ble_eq_true rfl) rfl rfl))))
theorem b64_4 {X : Nat × (Nat → Int32)} {d : Nat} {I : Nat → Nat → Int32} {L : Nat → Nat → Int64} {Q : Option Value → XW → Prop} {r0 : Nat} {x1 : Int32} {x2 : Int32} {x3 : Int32} (hr0 : isTable r0) : wp X (d + 1) m64 4 [some (.ref r0), some (.int x1), some (.int x2), some (.int x3)] [] (K0, R0, I, L) Q ↔ (if x3 < (I r0 1) then (if x3 = x1 then wp X (d + 1) m64 4 [some (.ref r0), some (.int x1), some (.int x2), some (.int (x3 + 1))] [] (K0, R0, I, L) Q else wp X d m65 0 [some (.ref r0), some (.int x3), none] [] (K0, R0, I, L) (fun r w1 => wp X (d + 1) m64 23 [some (.ref r0), some (.int x1), none, some (.int x3)] (r.toList ++ [(.int x2)]) w1 Q)) else Q (some (.int x2)) (K0, R0, I, L)) := (w_iload_n (pc' := 5) c64_4 rfl rfl).trans ((w_aload_n (pc' := 6) c64_5 rfl rfl).trans ((w_getIv (pc' := 9) (v := (I r0 1)) c64_6 hr0.1 (by decide) rfl (rfl) rfl).trans ((w_icmp_ge (pc' := 12) c64_9 rfl).trans (ite_iff ((w_iload_n (pc' := 13) c64_12 rfl rfl).trans ((w_iload_n (pc' := 14) c64_13 rfl rfl).trans ((w_icmp_eq (pc' := 17) c64_14 rfl).trans (ite_iff ((w_iinc (pc' := 28) (v := (x3 + 1)) (ls' := [some (.ref r0), some (.int x1), some (.int x2), some (.int (x3 + 1))]) c64_25 (Nat.le_of_ble_eq_true rfl) rfl rfl rfl rfl).trans ((w_goto c64_28))) ((w_iload_n (pc' := 18) c64_17 rfl rfl).trans ((w_aload_n (pc' := 19) c64_18 rfl rfl).trans ((w_iload_n (pc' := 20) c64_19 rfl rfl).trans ((w_callv (pc' := 23) c64_20 mt65 rfl (Nat.le_of_ble_eq_true rfl) rfl hr0.1 rfl rfl (Nat.le_of_ble_eq_true rfl) rfl rfl).trans (wp_congr (fun r w1 => wp_msk lvok64 rfl)))))))))) ((w_iload_n (pc' := 32) c64_31 rfl rfl).trans (w_iret c64_32 rfl))))))
theorem b64_23 {X : Nat × (Nat → Int32)} {d : Nat} {I : Nat → Nat → Int32} {L : Nat → Nat → Int64} {Q : Option Value → XW → Prop} {r0 : Nat} {x1 : Int32} {x3 : Int32} {s0 : Int32} {s1 : Int32} (hr0 : isTable r0) : wp X d m64 23 [some (.ref r0), some (.int x1), none, some (.int x3)] [(.int s1), (.int s0)] (K0, R0, I, L) Q ↔ wp X d m64 4 [some (.ref r0), some (.int x1), some (.int (s0 ||| s1)), some (.int (x3 + 1))] [] (K0, R0, I, L) Q := (w_ior (pc' := 24) c64_23 rfl).trans ((w_istore_n (pc' := 25) (ls' := [some (.ref r0), some (.int x1), some (.int (s0 ||| s1)), some (.int x3)]) c64_24 (Nat.le_of_ble_eq_true rfl) rfl rfl).trans ((w_iinc (pc' := 28) (v := (x3 + 1)) (ls' := [some (.ref r0), some (.int x1), some (.int (s0 ||| s1)), some (.int (x3 + 1))]) c64_25 (Nat.le_of_ble_eq_true rfl) rfl rfl rfl rfl).trans ((w_goto c64_28))))
-- LeavesObject$Table.leavesOf(I)I
theorem c65_0 : cdx (mC m65) 0 = some (0, .aload_n 0, 1, 0, 0, 0, 0, []) := rfl
theorem c65_1 : cdx (mC m65) 1 = some (1, .iload_n 1, 1, 1, 0, 0, 0, []) := rfl
theorem c65_2 : cdx (mC m65) 2 = some (2, .invokevirtual 44, 3, 17, 1, 0, 3041, [(5, 0)]) := rfl
theorem c65_5 : cdx (mC m65) 5 = some (5, .astore_n 2, 1, 2, 0, 0, 0, []) := rfl
theorem c65_6 : cdx (mC m65) 6 = some (6, .aload_n 2, 1, 2, 0, 0, 0, []) := rfl
theorem c65_7 : cdx (mC m65) 7 = some (7, .ifnonnull 7, 3, 14, 0, 0, 0, []) := rfl
theorem c65_10 : cdx (mC m65) 10 = some (10, .iconst 0, 1, 0, 0, 0, 0, []) := rfl
theorem c65_11 : cdx (mC m65) 11 = some (11, .goto 7, 3, 18, 0, 0, 0, []) := rfl
theorem c65_14 : cdx (mC m65) 14 = some (14, .aload_n 2, 1, 2, 0, 0, 0, []) := rfl
theorem c65_15 : cdx (mC m65) 15 = some (15, .getfield 47, 3, 1, 3, 0, 1077, []) := rfl
theorem c65_18 : cdx (mC m65) 18 = some (18, .ireturn, 1, 0, 0, 0, 0, []) := rfl
def lv65 : List (Nat × List Nat) := [(0, [0, 1]), (1, [1]), (6, [2]), (7, [2]), (14, [2])]
theorem lvok65 : lvOk (mC m65) lv65 = true := by decide +kernel
theorem b65_0 {X : Nat × (Nat → Int32)} {d : Nat} {I : Nat → Nat → Int32} {L : Nat → Nat → Int64} {Q : Option Value → XW → Prop} {r0 : Nat} {x1 : Int32} (hr0 : isTable r0) : wp X (d + 1) m65 0 [some (.ref r0), some (.int x1), none] [] (K0, R0, I, L) Q ↔ wp X d m17 0 [some (.ref r0), some (.int x1)] [] (K0, R0, I, L) (fun r w1 => wp X (d + 1) m65 5 [none, none, none] (r.toList ++ []) w1 Q) := (w_aload_n (pc' := 1) c65_0 rfl rfl).trans ((w_iload_n (pc' := 2) c65_1 rfl rfl).trans ((w_callv (pc' := 5) c65_2 mt17 rfl (Nat.le_of_ble_eq_true rfl) rfl hr0.1 rfl rfl (Nat.le_of_ble_eq_true rfl) rfl rfl).trans (wp_congr (fun r w1 => wp_msk lvok65 rfl))))
theorem b65_5 {X : Nat × (Nat → Int32)} {d : Nat} {I : Nat → Nat → Int32} {L : Nat → Nat → Int64} {Q : Option Value → XW → Prop} {q0 : Nat} (hq0 : isCup q0) : wp X d m65 5 [none, none, none] [(.ref q0)] (K0, R0, I, L) Q ↔ Q (some (.int (I q0 3))) (K0, R0, I, L) := (w_astore_n (pc' := 6) (ls' := [none, none, some (.ref q0)]) c65_5 (Nat.le_of_ble_eq_true rfl) rfl rfl).trans ((w_aload_n (pc' := 7) c65_6 rfl rfl).trans ((w_ifnonnull c65_7 (k_lt hq0.1)).trans ((w_aload_n (pc' := 15) c65_14 rfl rfl).trans ((w_getIv (pc' := 18) (v := (I q0 3)) c65_15 hq0.1 (by decide) rfl (rfl) rfl).trans (w_iret c65_18 rfl)))))
theorem b65_5_1 {X : Nat × (Nat → Int32)} {d : Nat} {I : Nat → Nat → Int32} {L : Nat → Nat → Int64} {Q : Option Value → XW → Prop}   : wp X d m65 5 [none, none, none] [.null] (K0, R0, I, L) Q ↔ Q (some (.int 0)) (K0, R0, I, L) := (w_astore_nN (pc' := 6) (ls' := [none, none, some .null]) c65_5 (Nat.le_of_ble_eq_true rfl) rfl rfl).trans ((w_aload_nN (pc' := 7) c65_6 rfl rfl).trans ((w_ifnonnullN (pc' := 10) c65_7 rfl).trans ((w_iconst (pc' := 11) (v := 0) c65_10 rfl rfl).trans ((w_goto c65_11).trans (w_iret c65_18 rfl)))))
-- LeavesObject$Table.twice()I
theorem c66_0 : cdx (mC m66) 0 = some (0, .iconst 0, 1, 0, 0, 0, 0, []) := rfl
theorem c66_1 : cdx (mC m66) 1 = some (1, .istore_n 1, 1, 1, 0, 0, 0, []) := rfl
theorem c66_2 : cdx (mC m66) 2 = some (2, .iconst 0, 1, 0, 0, 0, 0, []) := rfl
theorem c66_3 : cdx (mC m66) 3 = some (3, .istore_n 2, 1, 2, 0, 0, 0, []) := rfl
theorem c66_4 : cdx (mC m66) 4 = some (4, .iconst 0, 1, 0, 0, 0, 0, []) := rfl
theorem c66_5 : cdx (mC m66) 5 = some (5, .istore_n 3, 1, 3, 0, 0, 0, []) := rfl
theorem c66_6 : cdx (mC m66) 6 = some (6, .iload_n 3, 1, 3, 0, 0, 0, []) := rfl
theorem c66_7 : cdx (mC m66) 7 = some (7, .aload_n 0, 1, 0, 0, 0, 0, []) := rfl
theorem c66_8 : cdx (mC m66) 8 = some (8, .getfield 37, 3, 5, 1, 0, 1103, []) := rfl
theorem c66_11 : cdx (mC m66) 11 = some (11, .if_icmp .ge 27, 3, 38, 0, 0, 0, []) := rfl
theorem c66_14 : cdx (mC m66) 14 = some (14, .iload_n 2, 1, 2, 0, 0, 0, []) := rfl
theorem c66_15 : cdx (mC m66) 15 = some (15, .iload_n 1, 1, 1, 0, 0, 0, []) := rfl
theorem c66_16 : cdx (mC m66) 16 = some (16, .aload_n 0, 1, 0, 0, 0, 0, []) := rfl
theorem c66_17 : cdx (mC m66) 17 = some (17, .iload_n 3, 1, 3, 0, 0, 0, []) := rfl
theorem c66_18 : cdx (mC m66) 18 = some (18, .invokevirtual 69, 3, 65, 1, 0, 3037, [(5, 0)]) := rfl
theorem c66_21 : cdx (mC m66) 21 = some (21, .iand, 1, 0, 0, 0, 0, []) := rfl
theorem c66_22 : cdx (mC m66) 22 = some (22, .ior, 1, 0, 0, 0, 0, []) := rfl
theorem c66_23 : cdx (mC m66) 23 = some (23, .istore_n 2, 1, 2, 0, 0, 0, []) := rfl
theorem c66_24 : cdx (mC m66) 24 = some (24, .iload_n 1, 1, 1, 0, 0, 0, []) := rfl
theorem c66_25 : cdx (mC m66) 25 = some (25, .aload_n 0, 1, 0, 0, 0, 0, []) := rfl
theorem c66_26 : cdx (mC m66) 26 = some (26, .iload_n 3, 1, 3, 0, 0, 0, []) := rfl
theorem c66_27 : cdx (mC m66) 27 = some (27, .invokevirtual 69, 3, 65, 1, 0, 3037, [(5, 0)]) := rfl
theorem c66_30 : cdx (mC m66) 30 = some (30, .ior, 1, 0, 0, 0, 0, []) := rfl
theorem c66_31 : cdx (mC m66) 31 = some (31, .istore_n 1, 1, 1, 0, 0, 0, []) := rfl
theorem c66_32 : cdx (mC m66) 32 = some (32, .iinc 3 1, 3, 3, 0, 0, 0, []) := rfl
theorem c66_35 : cdx (mC m66) 35 = some (35, .goto (-29), 3, 6, 0, 0, 0, []) := rfl
theorem c66_38 : cdx (mC m66) 38 = some (38, .iload_n 2, 1, 2, 0, 0, 0, []) := rfl
theorem c66_39 : cdx (mC m66) 39 = some (39, .ireturn, 1, 0, 0, 0, 0, []) := rfl
def lv66 : List (Nat × List Nat) := [(0, [0]), (1, [0]), (2, [0, 1]), (3, [0, 1]), (4, [0, 1, 2]), (5, [0, 1, 2]), (6, [0, 1, 2, 3]), (7, [0, 1, 2, 3]), (8, [0, 1, 2, 3]), (11, [0, 1, 2, 3]), (14, [0, 1, 2, 3]), (15, [0, 1, 3]), (16, [0, 1, 3]), (17, [0, 1, 3]), (18, [0, 1, 3]), (21, [0, 1, 3]), (22, [0, 1, 3]), (23, [0, 1, 3]), (24, [0, 1, 2, 3]), (25, [0, 2, 3]), (26, [0, 2, 3]), (27, [0, 2, 3]), (30, [0, 2, 3]), (31, [0, 2, 3]), (32, [0, 1, 2, 3]), (35, [0, 1, 2, 3]), (38, [2])]
theorem lvok66 : lvOk (mC m66) lv66 = true := by decide +kernel
theorem b66_0 {X : Nat × (Nat → Int32)} {d : Nat} {I : Nat → Nat → Int32} {L : Nat → Nat → Int64} {Q : Option Value → XW → Prop} {r0 : Nat} (hr0 : isTable r0) : wp X d m66 0 [some (.ref r0), none, none, none] [] (K0, R0, I, L) Q ↔ wp X d m66 6 [some (.ref r0), some (.int 0), some (.int 0), some (.int 0)] [] (K0, R0, I, L) Q := (w_iconst (pc' := 1) (v := 0) c66_0 rfl rfl).trans ((w_istore_n (pc' := 2) (ls' := [some (.ref r0), some (.int 0), none, none]) c66_1 (Nat.le_of_ble_eq_true rfl) rfl rfl).trans ((w_iconst (pc' := 3) (v := 0) c66_2 rfl rfl).trans ((w_istore_n (pc' := 4) (ls' := [some (.ref r0), some (.int 0), some (.int 0), none]) c66_3 (Nat.le_of_ble_eq_true rfl) rfl rfl).trans ((w_iconst (pc' := 5) (v := 0) c66_4 rfl rfl).trans ((w_istore_n (pc' := 6) (ls' := [some (.ref r0), some (.int 0), some (.int 0), some (.int 0)]) c66_5 (Nat.le_of_ble_eq_true rfl) rfl rfl))))))
theorem b66_6 {X : Nat × (Nat → Int32)} {d : Nat} {I : Nat → Nat → Int32} {L : Nat → Nat → Int64} {Q : Option Value → XW → Prop} {r0 : Nat} {x1 : Int32} {x2 : Int32} {x3 : Int32} (hr0 : isTable r0) : wp X (d + 1) m66 6 [some (.ref r0), some (.int x1), some (.int x2), some (.int x3)] [] (K0, R0, I, L) Q ↔ (if x3 < (I r0 1) then wp X d m65 0 [some (.ref r0), some (.int x3), none] [] (K0, R0, I, L) (fun r w1 => wp X (d + 1) m66 21 [some (.ref r0), some (.int x1), none, some (.int x3)] (r.toList ++ [(.int x1), (.int x2)]) w1 Q) else Q (some (.int x2)) (K0, R0, I, L)) := (w_iload_n (pc' := 7) c66_6 rfl rfl).trans ((w_aload_n (pc' := 8) c66_7 rfl rfl).trans ((w_getIv (pc' := 11) (v := (I r0 1)) c66_8 hr0.1 (by decide) rfl (rfl) rfl).trans ((w_icmp_ge (pc' := 14) c66_11 rfl).trans (ite_iff ((w_iload_n (pc' := 15) c66_14 rfl rfl).trans ((w_iload_n (pc' := 16) c66_15 rfl rfl).trans ((w_aload_n (pc' := 17) c66_16 rfl rfl).trans ((w_iload_n (pc' := 18) c66_17 rfl rfl).trans ((w_callv (pc' := 21) c66_18 mt65 rfl (Nat.le_of_ble_eq_true rfl) rfl hr0.1 rfl rfl (Nat.le_of_ble_eq_true rfl) rfl rfl).trans (wp_congr (fun r w1 => wp_msk lvok66 rfl))))))) ((w_iload_n (pc' := 39) c66_38 rfl rfl).trans (w_iret c66_39 rfl))))))
theorem b66_21 {X : Nat × (Nat → Int32)} {d : Nat} {I : Nat → Nat → Int32} {L : Nat → Nat → Int64} {Q : Option Value → XW → Prop} {r0 : Nat} {x1 : Int32} {x3 : Int32} {s0 : Int32} {s1 : Int32} {s2 : Int32} (hr0 : isTable r0) : wp X (d + 1) m66 21 [some (.ref r0), some (.int x1), none, some (.int x3)] [(.int s2), (.int s1), (.int s0)] (K0, R0, I, L) Q ↔ wp X d m65 0 [some (.ref r0), some (.int x3), none] [] (K0, R0, I, L) (fun r w1 => wp X (d + 1) m66 30 [some (.ref r0), none, some (.int (s0 ||| (s1 &&& s2))), some (.int x3)] (r.toList ++ [(.int x1)]) w1 Q) := (w_iand (pc' := 22) c66_21 rfl).trans ((w_ior (pc' := 23) c66_22 rfl).trans ((w_istore_n (pc' := 24) (ls' := [some (.ref r0), some (.int x1), some (.int (s0 ||| (s1 &&& s2))), some (.int x3)]) c66_23 (Nat.le_of_ble_eq_true rfl) rfl rfl).trans ((w_iload_n (pc' := 25) c66_24 rfl rfl).trans ((w_aload_n (pc' := 26) c66_25 rfl rfl).trans ((w_iload_n (pc' := 27) c66_26 rfl rfl).trans ((w_callv (pc' := 30) c66_27 mt65 rfl (Nat.le_of_ble_eq_true rfl) rfl hr0.1 rfl rfl (Nat.le_of_ble_eq_true rfl) rfl rfl).trans (wp_congr (fun r w1 => wp_msk lvok66 rfl))))))))
theorem b66_30 {X : Nat × (Nat → Int32)} {d : Nat} {I : Nat → Nat → Int32} {L : Nat → Nat → Int64} {Q : Option Value → XW → Prop} {r0 : Nat} {x2 : Int32} {x3 : Int32} {s0 : Int32} {s1 : Int32} (hr0 : isTable r0) : wp X d m66 30 [some (.ref r0), none, some (.int x2), some (.int x3)] [(.int s1), (.int s0)] (K0, R0, I, L) Q ↔ wp X d m66 6 [some (.ref r0), some (.int (s0 ||| s1)), some (.int x2), some (.int (x3 + 1))] [] (K0, R0, I, L) Q := (w_ior (pc' := 31) c66_30 rfl).trans ((w_istore_n (pc' := 32) (ls' := [some (.ref r0), some (.int (s0 ||| s1)), some (.int x2), some (.int x3)]) c66_31 (Nat.le_of_ble_eq_true rfl) rfl rfl).trans ((w_iinc (pc' := 35) (v := (x3 + 1)) (ls' := [some (.ref r0), some (.int (s0 ||| s1)), some (.int x2), some (.int (x3 + 1))]) c66_32 (Nat.le_of_ble_eq_true rfl) rfl rfl rfl rfl).trans ((w_goto c66_35))))
-- LeavesObject$Table.mirrored()I
theorem c67_0 : cdx (mC m67) 0 = some (0, .iconst 0, 1, 0, 0, 0, 0, []) := rfl
theorem c67_1 : cdx (mC m67) 1 = some (1, .istore_n 1, 1, 1, 0, 0, 0, []) := rfl
theorem c67_2 : cdx (mC m67) 2 = some (2, .iconst 0, 1, 0, 0, 0, 0, []) := rfl
theorem c67_3 : cdx (mC m67) 3 = some (3, .istore_n 2, 1, 2, 0, 0, 0, []) := rfl
theorem c67_4 : cdx (mC m67) 4 = some (4, .iload_n 2, 1, 2, 0, 0, 0, []) := rfl
theorem c67_5 : cdx (mC m67) 5 = some (5, .aload_n 0, 1, 0, 0, 0, 0, []) := rfl
theorem c67_6 : cdx (mC m67) 6 = some (6, .getfield 37, 3, 5, 1, 0, 1103, []) := rfl
theorem c67_9 : cdx (mC m67) 9 = some (9, .if_icmp .ge 31, 3, 40, 0, 0, 0, []) := rfl
theorem c67_12 : cdx (mC m67) 12 = some (12, .aload_n 0, 1, 0, 0, 0, 0, []) := rfl
theorem c67_13 : cdx (mC m67) 13 = some (13, .iload_n 2, 1, 2, 0, 0, 0, []) := rfl
theorem c67_14 : cdx (mC m67) 14 = some (14, .invokevirtual 69, 3, 65, 1, 0, 3037, [(5, 0)]) := rfl
theorem c67_17 : cdx (mC m67) 17 = some (17, .invokestatic 73, 3, 68, 1, 5, 3050, []) := rfl
theorem c67_20 : cdx (mC m67) 20 = some (20, .aload_n 0, 1, 0, 0, 0, 0, []) := rfl
theorem c67_21 : cdx (mC m67) 21 = some (21, .iload_n 2, 1, 2, 0, 0, 0, []) := rfl
theorem c67_22 : cdx (mC m67) 22 = some (22, .invokevirtual 69, 3, 65, 1, 0, 3037, [(5, 0)]) := rfl
theorem c67_25 : cdx (mC m67) 25 = some (25, .if_icmp .ne 9, 3, 34, 0, 0, 0, []) := rfl
theorem c67_28 : cdx (mC m67) 28 = some (28, .iload_n 1, 1, 1, 0, 0, 0, []) := rfl
theorem c67_29 : cdx (mC m67) 29 = some (29, .iconst 1, 1, 0, 0, 0, 0, []) := rfl
theorem c67_30 : cdx (mC m67) 30 = some (30, .iload_n 2, 1, 2, 0, 0, 0, []) := rfl
theorem c67_31 : cdx (mC m67) 31 = some (31, .ishl, 1, 0, 0, 0, 0, []) := rfl
theorem c67_32 : cdx (mC m67) 32 = some (32, .ior, 1, 0, 0, 0, 0, []) := rfl
theorem c67_33 : cdx (mC m67) 33 = some (33, .istore_n 1, 1, 1, 0, 0, 0, []) := rfl
theorem c67_34 : cdx (mC m67) 34 = some (34, .iinc 2 1, 3, 2, 0, 0, 0, []) := rfl
theorem c67_37 : cdx (mC m67) 37 = some (37, .goto (-33), 3, 4, 0, 0, 0, []) := rfl
theorem c67_40 : cdx (mC m67) 40 = some (40, .iload_n 1, 1, 1, 0, 0, 0, []) := rfl
theorem c67_41 : cdx (mC m67) 41 = some (41, .ireturn, 1, 0, 0, 0, 0, []) := rfl
theorem b67_0 {X : Nat × (Nat → Int32)} {d : Nat} {I : Nat → Nat → Int32} {L : Nat → Nat → Int64} {Q : Option Value → XW → Prop} {r0 : Nat} (hr0 : isTable r0) : wp X d m67 0 [some (.ref r0), none, none] [] (K0, R0, I, L) Q ↔ wp X d m67 4 [some (.ref r0), some (.int 0), some (.int 0)] [] (K0, R0, I, L) Q := (w_iconst (pc' := 1) (v := 0) c67_0 rfl rfl).trans ((w_istore_n (pc' := 2) (ls' := [some (.ref r0), some (.int 0), none]) c67_1 (Nat.le_of_ble_eq_true rfl) rfl rfl).trans ((w_iconst (pc' := 3) (v := 0) c67_2 rfl rfl).trans ((w_istore_n (pc' := 4) (ls' := [some (.ref r0), some (.int 0), some (.int 0)]) c67_3 (Nat.le_of_ble_eq_true rfl) rfl rfl))))
theorem b67_4 {X : Nat × (Nat → Int32)} {d : Nat} {I : Nat → Nat → Int32} {L : Nat → Nat → Int64} {Q : Option Value → XW → Prop} {r0 : Nat} {x1 : Int32} {x2 : Int32} (hr0 : isTable r0) : wp X (d + 1) m67 4 [some (.ref r0), some (.int x1), some (.int x2)] [] (K0, R0, I, L) Q ↔ (if x2 < (I r0 1) then wp X d m65 0 [some (.ref r0), some (.int x2), none] [] (K0, R0, I, L) (fun r w1 => wp X (d + 1) m67 17 [some (.ref r0), some (.int x1), some (.int x2)] (r.toList ++ []) w1 Q) else Q (some (.int x1)) (K0, R0, I, L)) := (w_iload_n (pc' := 5) c67_4 rfl rfl).trans ((w_aload_n (pc' := 6) c67_5 rfl rfl).trans ((w_getIv (pc' := 9) (v := (I r0 1)) c67_6 hr0.1 (by decide) rfl (rfl) rfl).trans ((w_icmp_ge (pc' := 12) c67_9 rfl).trans (ite_iff ((w_aload_n (pc' := 13) c67_12 rfl rfl).trans ((w_iload_n (pc' := 14) c67_13 rfl rfl).trans ((w_callv (pc' := 17) c67_14 mt65 rfl (Nat.le_of_ble_eq_true rfl) rfl hr0.1 rfl rfl (Nat.le_of_ble_eq_true rfl) rfl rfl)))) ((w_iload_n (pc' := 41) c67_40 rfl rfl).trans (w_iret c67_41 rfl))))))
theorem b67_17 {X : Nat × (Nat → Int32)} {d : Nat} {I : Nat → Nat → Int32} {L : Nat → Nat → Int64} {Q : Option Value → XW → Prop} {r0 : Nat} {x1 : Int32} {x2 : Int32} {s0 : Int32} (hr0 : isTable r0) : wp X (d + 1) m67 17 [some (.ref r0), some (.int x1), some (.int x2)] [(.int s0)] (K0, R0, I, L) Q ↔ wp X d m68 0 [some (.int s0)] [] (K0, R0, I, L) (fun r w1 => wp X (d + 1) m67 20 [some (.ref r0), some (.int x1), some (.int x2)] (r.toList ++ []) w1 Q) := (w_callst (pc' := 20) c67_17 (by decide) mt68 rfl (Nat.le_of_ble_eq_true rfl) rfl rfl (Nat.le_of_ble_eq_true rfl) rfl rfl)
theorem b67_20 {X : Nat × (Nat → Int32)} {d : Nat} {I : Nat → Nat → Int32} {L : Nat → Nat → Int64} {Q : Option Value → XW → Prop} {r0 : Nat} {x1 : Int32} {x2 : Int32} {s0 : Int32} (hr0 : isTable r0) : wp X (d + 1) m67 20 [some (.ref r0), some (.int x1), some (.int x2)] [(.int s0)] (K0, R0, I, L) Q ↔ wp X d m65 0 [some (.ref r0), some (.int x2), none] [] (K0, R0, I, L) (fun r w1 => wp X (d + 1) m67 25 [some (.ref r0), some (.int x1), some (.int x2)] (r.toList ++ [(.int s0)]) w1 Q) := (w_aload_n (pc' := 21) c67_20 rfl rfl).trans ((w_iload_n (pc' := 22) c67_21 rfl rfl).trans ((w_callv (pc' := 25) c67_22 mt65 rfl (Nat.le_of_ble_eq_true rfl) rfl hr0.1 rfl rfl (Nat.le_of_ble_eq_true rfl) rfl rfl)))
theorem b67_25 {X : Nat × (Nat → Int32)} {d : Nat} {I : Nat → Nat → Int32} {L : Nat → Nat → Int64} {Q : Option Value → XW → Prop} {r0 : Nat} {x1 : Int32} {x2 : Int32} {s0 : Int32} {s1 : Int32} (hr0 : isTable r0) : wp X d m67 25 [some (.ref r0), some (.int x1), some (.int x2)] [(.int s1), (.int s0)] (K0, R0, I, L) Q ↔ wp X d m67 4 [some (.ref r0), some (.int (if s0 = s1 then (x1 ||| ((1 : Int32) <<< (x2 &&& 31))) else x1)), some (.int (x2 + 1))] [] (K0, R0, I, L) Q := (w_icmp_ne (pc' := 28) c67_25 rfl).trans ((ite_iff ((w_iload_n (pc' := 29) c67_28 rfl rfl).trans ((w_iconst (pc' := 30) (v := 1) c67_29 rfl rfl).trans ((w_iload_n (pc' := 31) c67_30 rfl rfl).trans ((w_ishl (pc' := 32) c67_31 rfl).trans ((w_ior (pc' := 33) c67_32 rfl).trans ((w_istore_n (pc' := 34) (ls' := [some (.ref r0), some (.int (x1 ||| ((1 : Int32) <<< (x2 &&& 31)))), some (.int x2)]) c67_33 (Nat.le_of_ble_eq_true rfl) rfl rfl).trans ((w_iinc (pc' := 37) (v := (x2 + 1)) (ls' := [some (.ref r0), some (.int (x1 ||| ((1 : Int32) <<< (x2 &&& 31)))), some (.int (x2 + 1))]) c67_34 (Nat.le_of_ble_eq_true rfl) rfl rfl rfl rfl).trans ((w_goto c67_37))))))))) ((w_iinc (pc' := 37) (v := (x2 + 1)) (ls' := [some (.ref r0), some (.int x1), some (.int (x2 + 1))]) c67_34 (Nat.le_of_ble_eq_true rfl) rfl rfl rfl rfl).trans ((w_goto c67_37)))).trans (ite_val (fun z => wp X d m67 4 [some (.ref r0), some (.int z), some (.int (x2 + 1))] [] (K0, R0, I, L) Q)))
-- LeavesObject$Leaves.mirrored(I)I
theorem c68_0 : cdx (mC m68) 0 = some (0, .iload_n 0, 1, 0, 0, 0, 0, []) := rfl
theorem c68_1 : cdx (mC m68) 1 = some (1, .sipush 273, 3, 0, 0, 0, 0, []) := rfl
theorem c68_4 : cdx (mC m68) 4 = some (4, .iand, 1, 0, 0, 0, 0, []) := rfl
theorem c68_5 : cdx (mC m68) 5 = some (5, .iconst 3, 1, 0, 0, 0, 0, []) := rfl
theorem c68_6 : cdx (mC m68) 6 = some (6, .ishl, 1, 0, 0, 0, 0, []) := rfl
theorem c68_7 : cdx (mC m68) 7 = some (7, .iload_n 0, 1, 0, 0, 0, 0, []) := rfl
theorem c68_8 : cdx (mC m68) 8 = some (8, .sipush 546, 3, 0, 0, 0, 0, []) := rfl
theorem c68_11 : cdx (mC m68) 11 = some (11, .iand, 1, 0, 0, 0, 0, []) := rfl
theorem c68_12 : cdx (mC m68) 12 = some (12, .iconst 1, 1, 0, 0, 0, 0, []) := rfl
theorem c68_13 : cdx (mC m68) 13 = some (13, .ishl, 1, 0, 0, 0, 0, []) := rfl
theorem c68_14 : cdx (mC m68) 14 = some (14, .ior, 1, 0, 0, 0, 0, []) := rfl
theorem c68_15 : cdx (mC m68) 15 = some (15, .iload_n 0, 1, 0, 0, 0, 0, []) := rfl
theorem c68_16 : cdx (mC m68) 16 = some (16, .sipush 1092, 3, 0, 0, 0, 0, []) := rfl
theorem c68_19 : cdx (mC m68) 19 = some (19, .iand, 1, 0, 0, 0, 0, []) := rfl
theorem c68_20 : cdx (mC m68) 20 = some (20, .iconst 1, 1, 0, 0, 0, 0, []) := rfl
theorem c68_21 : cdx (mC m68) 21 = some (21, .ishr, 1, 0, 0, 0, 0, []) := rfl
theorem c68_22 : cdx (mC m68) 22 = some (22, .ior, 1, 0, 0, 0, 0, []) := rfl
theorem c68_23 : cdx (mC m68) 23 = some (23, .iload_n 0, 1, 0, 0, 0, 0, []) := rfl
theorem c68_24 : cdx (mC m68) 24 = some (24, .sipush 2184, 3, 0, 0, 0, 0, []) := rfl
theorem c68_27 : cdx (mC m68) 27 = some (27, .iand, 1, 0, 0, 0, 0, []) := rfl
theorem c68_28 : cdx (mC m68) 28 = some (28, .iconst 3, 1, 0, 0, 0, 0, []) := rfl
theorem c68_29 : cdx (mC m68) 29 = some (29, .ishr, 1, 0, 0, 0, 0, []) := rfl
theorem c68_30 : cdx (mC m68) 30 = some (30, .ior, 1, 0, 0, 0, 0, []) := rfl
theorem c68_31 : cdx (mC m68) 31 = some (31, .ireturn, 1, 0, 0, 0, 0, []) := rfl
theorem b68_0 {X : Nat × (Nat → Int32)} {d : Nat} {I : Nat → Nat → Int32} {L : Nat → Nat → Int64} {Q : Option Value → XW → Prop} {x0 : Int32}  : wp X d m68 0 [some (.int x0)] [] (K0, R0, I, L) Q ↔ Q (some (.int (((((x0 &&& (273 : Int32)) <<< ((3 : Int32) &&& 31)) ||| ((x0 &&& (546 : Int32)) <<< ((1 : Int32) &&& 31))) ||| ((x0 &&& (1092 : Int32)) >>> ((1 : Int32) &&& 31))) ||| ((x0 &&& (2184 : Int32)) >>> ((3 : Int32) &&& 31))))) (K0, R0, I, L) := (w_iload_n (pc' := 1) c68_0 rfl rfl).trans ((w_sipush (pc' := 4) (v := 273) c68_1 rfl rfl).trans ((w_iand (pc' := 5) c68_4 rfl).trans ((w_iconst (pc' := 6) (v := 3) c68_5 rfl rfl).trans ((w_ishl (pc' := 7) c68_6 rfl).trans ((w_iload_n (pc' := 8) c68_7 rfl rfl).trans ((w_sipush (pc' := 11) (v := 546) c68_8 rfl rfl).trans ((w_iand (pc' := 12) c68_11 rfl).trans ((w_iconst (pc' := 13) (v := 1) c68_12 rfl rfl).trans ((w_ishl (pc' := 14) c68_13 rfl).trans ((w_ior (pc' := 15) c68_14 rfl).trans ((w_iload_n (pc' := 16) c68_15 rfl rfl).trans ((w_sipush (pc' := 19) (v := 1092) c68_16 rfl rfl).trans ((w_iand (pc' := 20) c68_19 rfl).trans ((w_iconst (pc' := 21) (v := 1) c68_20 rfl rfl).trans ((w_ishr (pc' := 22) c68_21 rfl).trans ((w_ior (pc' := 23) c68_22 rfl).trans ((w_iload_n (pc' := 24) c68_23 rfl rfl).trans ((w_sipush (pc' := 27) (v := 2184) c68_24 rfl rfl).trans ((w_iand (pc' := 28) c68_27 rfl).trans ((w_iconst (pc' := 29) (v := 3) c68_28 rfl rfl).trans ((w_ishr (pc' := 30) c68_29 rfl).trans ((w_ior (pc' := 31) c68_30 rfl).trans (w_iret c68_31 rfl)))))))))))))))))))))))
-- LeavesObject$Table.alike()I
theorem c69_0 : cdx (mC m69) 0 = some (0, .bipush (-5), 2, 0, 0, 0, 0, []) := rfl
theorem c69_2 : cdx (mC m69) 2 = some (2, .istore_n 1, 1, 1, 0, 0, 0, []) := rfl
theorem c69_3 : cdx (mC m69) 3 = some (3, .bipush 13, 2, 0, 0, 0, 0, []) := rfl
theorem c69_5 : cdx (mC m69) 5 = some (5, .istore_n 2, 1, 2, 0, 0, 0, []) := rfl
theorem c69_6 : cdx (mC m69) 6 = some (6, .iconst 0, 1, 0, 0, 0, 0, []) := rfl
theorem c69_7 : cdx (mC m69) 7 = some (7, .istore_n 3, 1, 3, 0, 0, 0, []) := rfl
theorem c69_8 : cdx (mC m69) 8 = some (8, .iload_n 3, 1, 3, 0, 0, 0, []) := rfl
theorem c69_9 : cdx (mC m69) 9 = some (9, .aload_n 0, 1, 0, 0, 0, 0, []) := rfl
theorem c69_10 : cdx (mC m69) 10 = some (10, .getfield 37, 3, 5, 1, 0, 1103, []) := rfl
theorem c69_13 : cdx (mC m69) 13 = some (13, .if_icmp .ge 62, 3, 75, 0, 0, 0, []) := rfl
theorem c69_16 : cdx (mC m69) 16 = some (16, .iload_n 3, 1, 3, 0, 0, 0, []) := rfl
theorem c69_17 : cdx (mC m69) 17 = some (17, .iconst 1, 1, 0, 0, 0, 0, []) := rfl
theorem c69_18 : cdx (mC m69) 18 = some (18, .iadd, 1, 0, 0, 0, 0, []) := rfl
theorem c69_19 : cdx (mC m69) 19 = some (19, .istore 4, 2, 4, 0, 0, 0, []) := rfl
theorem c69_21 : cdx (mC m69) 21 = some (21, .iload 4, 2, 4, 0, 0, 0, []) := rfl
theorem c69_23 : cdx (mC m69) 23 = some (23, .aload_n 0, 1, 0, 0, 0, 0, []) := rfl
theorem c69_24 : cdx (mC m69) 24 = some (24, .getfield 37, 3, 5, 1, 0, 1103, []) := rfl
theorem c69_27 : cdx (mC m69) 27 = some (27, .if_icmp .ge 42, 3, 69, 0, 0, 0, []) := rfl
theorem c69_30 : cdx (mC m69) 30 = some (30, .aload_n 0, 1, 0, 0, 0, 0, []) := rfl
theorem c69_31 : cdx (mC m69) 31 = some (31, .iload_n 3, 1, 3, 0, 0, 0, []) := rfl
theorem c69_32 : cdx (mC m69) 32 = some (32, .invokevirtual 69, 3, 65, 1, 0, 3037, [(5, 0)]) := rfl
theorem c69_35 : cdx (mC m69) 35 = some (35, .aload_n 0, 1, 0, 0, 0, 0, []) := rfl
theorem c69_36 : cdx (mC m69) 36 = some (36, .iload 4, 2, 4, 0, 0, 0, []) := rfl
theorem c69_38 : cdx (mC m69) 38 = some (38, .invokevirtual 69, 3, 65, 1, 0, 3037, [(5, 0)]) := rfl
theorem c69_41 : cdx (mC m69) 41 = some (41, .invokestatic 78, 3, 70, 2, 6, 3057, []) := rfl
theorem c69_44 : cdx (mC m69) 44 = some (44, .istore 5, 2, 5, 0, 0, 0, []) := rfl
theorem c69_46 : cdx (mC m69) 46 = some (46, .iload 5, 2, 5, 0, 0, 0, []) := rfl
theorem c69_48 : cdx (mC m69) 48 = some (48, .iload_n 2, 1, 2, 0, 0, 0, []) := rfl
theorem c69_49 : cdx (mC m69) 49 = some (49, .if_icmp .ge 14, 3, 63, 0, 0, 0, []) := rfl
theorem c69_52 : cdx (mC m69) 52 = some (52, .iload 5, 2, 5, 0, 0, 0, []) := rfl
theorem c69_54 : cdx (mC m69) 54 = some (54, .istore_n 2, 1, 2, 0, 0, 0, []) := rfl
theorem c69_55 : cdx (mC m69) 55 = some (55, .bipush 10, 2, 0, 0, 0, 0, []) := rfl
theorem c69_57 : cdx (mC m69) 57 = some (57, .iload_n 3, 1, 3, 0, 0, 0, []) := rfl
theorem c69_58 : cdx (mC m69) 58 = some (58, .imul, 1, 0, 0, 0, 0, []) := rfl
theorem c69_59 : cdx (mC m69) 59 = some (59, .iload 4, 2, 4, 0, 0, 0, []) := rfl
theorem c69_61 : cdx (mC m69) 61 = some (61, .iadd, 1, 0, 0, 0, 0, []) := rfl
theorem c69_62 : cdx (mC m69) 62 = some (62, .istore_n 1, 1, 1, 0, 0, 0, []) := rfl
theorem c69_63 : cdx (mC m69) 63 = some (63, .iinc 4 1, 3, 4, 0, 0, 0, []) := rfl
theorem c69_66 : cdx (mC m69) 66 = some (66, .goto (-45), 3, 21, 0, 0, 0, []) := rfl
theorem c69_69 : cdx (mC m69) 69 = some (69, .iinc 3 1, 3, 3, 0, 0, 0, []) := rfl
theorem c69_72 : cdx (mC m69) 72 = some (72, .goto (-64), 3, 8, 0, 0, 0, []) := rfl
theorem c69_75 : cdx (mC m69) 75 = some (75, .iload_n 1, 1, 1, 0, 0, 0, []) := rfl
theorem c69_76 : cdx (mC m69) 76 = some (76, .ireturn, 1, 0, 0, 0, 0, []) := rfl
def lv69 : List (Nat × List Nat) := [(0, [0]), (2, [0]), (3, [0, 1]), (5, [0, 1]), (6, [0, 1, 2]), (7, [0, 1, 2]), (8, [0, 1, 2, 3]), (9, [0, 1, 2, 3]), (10, [0, 1, 2, 3]), (13, [0, 1, 2, 3]), (16, [0, 1, 2, 3]), (17, [0, 1, 2, 3]), (18, [0, 1, 2, 3]), (19, [0, 1, 2, 3]), (21, [0, 1, 2, 3, 4]), (23, [0, 1, 2, 3, 4]), (24, [0, 1, 2, 3, 4]), (27, [0, 1, 2, 3, 4]), (30, [0, 1, 2, 3, 4]), (31, [0, 1, 2, 3, 4]), (32, [0, 1, 2, 3, 4]), (35, [0, 1, 2, 3, 4]), (36, [0, 1, 2, 3, 4]), (38, [0, 1, 2, 3, 4]), (41, [0, 1, 2, 3, 4]), (44, [0, 1, 2, 3, 4]), (46, [0, 1, 2, 3, 4, 5]), (48, [0, 1, 2, 3, 4, 5]), (49, [0, 1, 2, 3, 4, 5]), (52, [0, 3, 4, 5]), (54, [0, 3, 4]), (55, [0, 2, 3, 4]), (57, [0, 2, 3, 4]), (58, [0, 2, 3, 4]), (59, [0, 2, 3, 4]), (61, [0, 2, 3, 4]), (62, [0, 2, 3, 4]), (63, [0, 1, 2, 3, 4]), (66, [0, 1, 2, 3, 4]), (69, [0, 1, 2, 3]), (72, [0, 1, 2, 3]), (75, [1])]
theorem lvok69 : lvOk (mC m69) lv69 = true := by decide +kernel
theorem b69_0 {X : Nat × (Nat → Int32)} {d : Nat} {I : Nat → Nat → Int32} {L : Nat → Nat → Int64} {Q : Option Value → XW → Prop} {r0 : Nat} (hr0 : isTable r0) : wp X d m69 0 [some (.ref r0), none, none, none, none, none] [] (K0, R0, I, L) Q ↔ wp X d m69 8 [some (.ref r0), some (.int (-5)), some (.int 13), some (.int 0), none, none] [] (K0, R0, I, L) Q := (w_bipush (pc' := 2) (v := (-5)) c69_0 rfl rfl).trans ((w_istore_n (pc' := 3) (ls' := [some (.ref r0), some (.int (-5)), none, none, none, none]) c69_2 (Nat.le_of_ble_eq_true rfl) rfl rfl).trans ((w_bipush (pc' := 5) (v := 13) c69_3 rfl rfl).trans ((w_istore_n (pc' := 6) (ls' := [some (.ref r0), some (.int (-5)), some (.int 13), none, none, none]) c69_5 (Nat.le_of_ble_eq_true rfl) rfl rfl).trans ((w_iconst (pc' := 7) (v := 0) c69_6 rfl rfl).trans ((w_istore_n (pc' := 8) (ls' := [some (.ref r0), some (.int (-5)), some (.int 13), some (.int 0), none, none]) c69_7 (Nat.le_of_ble_eq_true rfl) rfl rfl))))))
theorem b69_8 {X : Nat × (Nat → Int32)} {d : Nat} {I : Nat → Nat → Int32} {L : Nat → Nat → Int64} {Q : Option Value → XW → Prop} {r0 : Nat} {x1 : Int32} {x2 : Int32} {x3 : Int32} (hr0 : isTable r0) : wp X d m69 8 [some (.ref r0), some (.int x1), some (.int x2), some (.int x3), none, none] [] (K0, R0, I, L) Q ↔ (if x3 < (I r0 1) then wp X d m69 21 [some (.ref r0), some (.int x1), some (.int x2), some (.int x3), some (.int (x3 + 1)), none] [] (K0, R0, I, L) Q else Q (some (.int x1)) (K0, R0, I, L)) := (w_iload_n (pc' := 9) c69_8 rfl rfl).trans ((w_aload_n (pc' := 10) c69_9 rfl rfl).trans ((w_getIv (pc' := 13) (v := (I r0 1)) c69_10 hr0.1 (by decide) rfl (rfl) rfl).trans ((w_icmp_ge (pc' := 16) c69_13 rfl).trans (ite_iff ((w_iload_n (pc' := 17) c69_16 rfl rfl).trans ((w_iconst (pc' := 18) (v := 1) c69_17 rfl rfl).trans ((w_iadd (pc' := 19) c69_18 rfl).trans ((w_istore (pc' := 21) (ls' := [some (.ref r0), some (.int x1), some (.int x2), some (.int x3), some (.int (x3 + 1)), none]) c69_19 (Nat.le_of_ble_eq_true rfl) rfl rfl))))) ((w_iload_n (pc' := 76) c69_75 rfl rfl).trans (w_iret c69_76 rfl))))))
theorem b69_21 {X : Nat × (Nat → Int32)} {d : Nat} {I : Nat → Nat → Int32} {L : Nat → Nat → Int64} {Q : Option Value → XW → Prop} {r0 : Nat} {x1 : Int32} {x2 : Int32} {x3 : Int32} {x4 : Int32} (hr0 : isTable r0) : wp X (d + 1) m69 21 [some (.ref r0), some (.int x1), some (.int x2), some (.int x3), some (.int x4), none] [] (K0, R0, I, L) Q ↔ (if x4 < (I r0 1) then wp X d m65 0 [some (.ref r0), some (.int x3), none] [] (K0, R0, I, L) (fun r w1 => wp X (d + 1) m69 35 [some (.ref r0), some (.int x1), some (.int x2), some (.int x3), some (.int x4), none] (r.toList ++ []) w1 Q) else wp X (d + 1) m69 8 [some (.ref r0), some (.int x1), some (.int x2), some (.int (x3 + 1)), none, none] [] (K0, R0, I, L) Q) := (w_iload (pc' := 23) c69_21 rfl rfl).trans ((w_aload_n (pc' := 24) c69_23 rfl rfl).trans ((w_getIv (pc' := 27) (v := (I r0 1)) c69_24 hr0.1 (by decide) rfl (rfl) rfl).trans ((w_icmp_ge (pc' := 30) c69_27 rfl).trans (ite_iff ((w_aload_n (pc' := 31) c69_30 rfl rfl).trans ((w_iload_n (pc' := 32) c69_31 rfl rfl).trans ((w_callv (pc' := 35) c69_32 mt65 rfl (Nat.le_of_ble_eq_true rfl) rfl hr0.1 rfl rfl (Nat.le_of_ble_eq_true rfl) rfl rfl)))) ((w_iinc (pc' := 72) (v := (x3 + 1)) (ls' := [some (.ref r0), some (.int x1), some (.int x2), some (.int (x3 + 1)), some (.int x4), none]) c69_69 (Nat.le_of_ble_eq_true rfl) rfl rfl rfl rfl).trans ((w_goto c69_72).trans ((wp_msk lvok69 rfl))))))))
theorem b69_35 {X : Nat × (Nat → Int32)} {d : Nat} {I : Nat → Nat → Int32} {L : Nat → Nat → Int64} {Q : Option Value → XW → Prop} {r0 : Nat} {x1 : Int32} {x2 : Int32} {x3 : Int32} {x4 : Int32} {s0 : Int32} (hr0 : isTable r0) : wp X (d + 1) m69 35 [some (.ref r0), some (.int x1), some (.int x2), some (.int x3), some (.int x4), none] [(.int s0)] (K0, R0, I, L) Q ↔ wp X d m65 0 [some (.ref r0), some (.int x4), none] [] (K0, R0, I, L) (fun r w1 => wp X (d + 1) m69 41 [some (.ref r0), some (.int x1), some (.int x2), some (.int x3), some (.int x4), none] (r.toList ++ [(.int s0)]) w1 Q) := (w_aload_n (pc' := 36) c69_35 rfl rfl).trans ((w_iload (pc' := 38) c69_36 rfl rfl).trans ((w_callv (pc' := 41) c69_38 mt65 rfl (Nat.le_of_ble_eq_true rfl) rfl hr0.1 rfl rfl (Nat.le_of_ble_eq_true rfl) rfl rfl)))
theorem b69_41 {X : Nat × (Nat → Int32)} {d : Nat} {I : Nat → Nat → Int32} {L : Nat → Nat → Int64} {Q : Option Value → XW → Prop} {r0 : Nat} {x1 : Int32} {x2 : Int32} {x3 : Int32} {x4 : Int32} {s0 : Int32} {s1 : Int32} (hr0 : isTable r0) : wp X (d + 1) m69 41 [some (.ref r0), some (.int x1), some (.int x2), some (.int x3), some (.int x4), none] [(.int s1), (.int s0)] (K0, R0, I, L) Q ↔ wp X d m70 0 [some (.int s0), some (.int s1)] [] (K0, R0, I, L) (fun r w1 => wp X (d + 1) m69 44 [some (.ref r0), some (.int x1), some (.int x2), some (.int x3), some (.int x4), none] (r.toList ++ []) w1 Q) := (w_callst (pc' := 44) c69_41 (by decide) mt70 rfl (Nat.le_of_ble_eq_true rfl) rfl rfl (Nat.le_of_ble_eq_true rfl) rfl rfl)
theorem b69_44 {X : Nat × (Nat → Int32)} {d : Nat} {I : Nat → Nat → Int32} {L : Nat → Nat → Int64} {Q : Option Value → XW → Prop} {r0 : Nat} {x1 : Int32} {x2 : Int32} {x3 : Int32} {x4 : Int32} {s0 : Int32} (hr0 : isTable r0) : wp X d m69 44 [some (.ref r0), some (.int x1), some (.int x2), some (.int x3), some (.int x4), none] [(.int s0)] (K0, R0, I, L) Q ↔ (if s0 < x2 then wp X d m69 21 [some (.ref r0), some (.int ((10 * x3) + x4)), some (.int s0), some (.int x3), some (.int (x4 + 1)), none] [] (K0, R0, I, L) Q else wp X d m69 21 [some (.ref r0), some (.int x1), some (.int x2), some (.int x3), some (.int (x4 + 1)), none] [] (K0, R0, I, L) Q) := (w_istore (pc' := 46) (ls' := [some (.ref r0), some (.int x1), some (.int x2), some (.int x3), some (.int x4), some (.int s0)]) c69_44 (Nat.le_of_ble_eq_true rfl) rfl rfl).trans ((w_iload (pc' := 48) c69_46 rfl rfl).trans ((w_iload_n (pc' := 49) c69_48 rfl rfl).trans ((w_icmp_ge (pc' := 52) c69_49 rfl).trans (ite_iff ((w_iload (pc' := 54) c69_52 rfl rfl).trans ((w_istore_n (pc' := 55) (ls' := [some (.ref r0), some (.int x1), some (.int s0), some (.int x3), some (.int x4), some (.int s0)]) c69_54 (Nat.le_of_ble_eq_true rfl) rfl rfl).trans ((w_bipush (pc' := 57) (v := 10) c69_55 rfl rfl).trans ((w_iload_n (pc' := 58) c69_57 rfl rfl).trans ((w_imul (pc' := 59) c69_58 rfl).trans ((w_iload (pc' := 61) c69_59 rfl rfl).trans ((w_iadd (pc' := 62) c69_61 rfl).trans ((w_istore_n (pc' := 63) (ls' := [some (.ref r0), some (.int ((10 * x3) + x4)), some (.int s0), some (.int x3), some (.int x4), some (.int s0)]) c69_62 (Nat.le_of_ble_eq_true rfl) rfl rfl).trans ((w_iinc (pc' := 66) (v := (x4 + 1)) (ls' := [some (.ref r0), some (.int ((10 * x3) + x4)), some (.int s0), some (.int x3), some (.int (x4 + 1)), some (.int s0)]) c69_63 (Nat.le_of_ble_eq_true rfl) rfl rfl rfl rfl).trans ((w_goto c69_66).trans ((wp_msk lvok69 rfl)))))))))))) ((w_iinc (pc' := 66) (v := (x4 + 1)) (ls' := [some (.ref r0), some (.int x1), some (.int x2), some (.int x3), some (.int (x4 + 1)), some (.int s0)]) c69_63 (Nat.le_of_ble_eq_true rfl) rfl rfl rfl rfl).trans ((w_goto c69_66).trans ((wp_msk lvok69 rfl))))))))
-- LeavesObject.unlike(II)I
theorem c70_0 : cdx (mC m70) 0 = some (0, .iload_n 0, 1, 0, 0, 0, 0, []) := rfl
theorem c70_1 : cdx (mC m70) 1 = some (1, .iload_n 1, 1, 1, 0, 0, 0, []) := rfl
theorem c70_2 : cdx (mC m70) 2 = some (2, .ixor, 1, 0, 0, 0, 0, []) := rfl
theorem c70_3 : cdx (mC m70) 3 = some (3, .invokestatic 217, 3, 22, 1, 5, 3060, []) := rfl
theorem c70_6 : cdx (mC m70) 6 = some (6, .ireturn, 1, 0, 0, 0, 0, []) := rfl
def lv70 : List (Nat × List Nat) := [(0, [0, 1]), (1, [1])]
theorem lvok70 : lvOk (mC m70) lv70 = true := by decide +kernel
theorem b70_0 {X : Nat × (Nat → Int32)} {d : Nat} {I : Nat → Nat → Int32} {L : Nat → Nat → Int64} {Q : Option Value → XW → Prop} {x0 : Int32} {x1 : Int32}  : wp X (d + 1) m70 0 [some (.int x0), some (.int x1)] [] (K0, R0, I, L) Q ↔ wp X d m22 0 [some (.int (x0 ^^^ x1))] [] (K0, R0, I, L) (fun r w1 => wp X (d + 1) m70 6 [none, none] (r.toList ++ []) w1 Q) := (w_iload_n (pc' := 1) c70_0 rfl rfl).trans ((w_iload_n (pc' := 2) c70_1 rfl rfl).trans ((w_ixor (pc' := 3) c70_2 rfl).trans ((w_callst (pc' := 6) c70_3 (by decide) mt22 rfl (Nat.le_of_ble_eq_true rfl) rfl rfl (Nat.le_of_ble_eq_true rfl) rfl rfl).trans (wp_congr (fun r w1 => wp_msk lvok70 rfl)))))
theorem b70_6 {X : Nat × (Nat → Int32)} {d : Nat} {I : Nat → Nat → Int32} {L : Nat → Nat → Int64} {Q : Option Value → XW → Prop} {s0 : Int32}  : wp X d m70 6 [none, none] [(.int s0)] (K0, R0, I, L) Q ↔ Q (some (.int s0)) (K0, R0, I, L) := w_iret c70_6 rfl
-- LeavesObject.say(II)I
theorem c71_0 : cdx (mC m71) 0 = some (0, .aload_n 0, 1, 0, 0, 0, 0, []) := rfl
theorem c71_1 : cdx (mC m71) 1 = some (1, .getfield 12, 3, 9, 0, 0, 1239, []) := rfl
theorem c71_4 : cdx (mC m71) 4 = some (4, .iload_n 1, 1, 1, 0, 0, 0, []) := rfl
theorem c71_5 : cdx (mC m71) 5 = some (5, .invokevirtual 92, 3, 17, 1, 0, 2061, [(5, 0)]) := rfl
theorem c71_8 : cdx (mC m71) 8 = some (8, .astore_n 3, 1, 3, 0, 0, 0, []) := rfl
theorem c71_9 : cdx (mC m71) 9 = some (9, .aload_n 3, 1, 3, 0, 0, 0, []) := rfl
theorem c71_10 : cdx (mC m71) 10 = some (10, .ifnull 10, 3, 20, 0, 0, 0, []) := rfl
theorem c71_13 : cdx (mC m71) 13 = some (13, .iload_n 2, 1, 2, 0, 0, 0, []) := rfl
theorem c71_14 : cdx (mC m71) 14 = some (14, .invokestatic 95, 3, 18, 1, 4, 2066, []) := rfl
theorem c71_17 : cdx (mC m71) 17 = some (17, .ifCond .ne 5, 3, 22, 0, 0, 0, []) := rfl
theorem c71_20 : cdx (mC m71) 20 = some (20, .iconst (-1), 1, 0, 0, 0, 0, []) := rfl
theorem c71_21 : cdx (mC m71) 21 = some (21, .ireturn, 1, 0, 0, 0, 0, []) := rfl
theorem c71_22 : cdx (mC m71) 22 = some (22, .aload_n 3, 1, 3, 0, 0, 0, []) := rfl
theorem c71_23 : cdx (mC m71) 23 = some (23, .getfield 125, 3, 1, 5, 0, 1084, []) := rfl
theorem c71_26 : cdx (mC m71) 26 = some (26, .sipush 9999, 3, 0, 0, 0, 0, []) := rfl
theorem c71_29 : cdx (mC m71) 29 = some (29, .if_icmp .lt 6, 3, 35, 0, 0, 0, []) := rfl
theorem c71_32 : cdx (mC m71) 32 = some (32, .bipush (-3), 2, 0, 0, 0, 0, []) := rfl
theorem c71_34 : cdx (mC m71) 34 = some (34, .ireturn, 1, 0, 0, 0, 0, []) := rfl
theorem c71_35 : cdx (mC m71) 35 = some (35, .aload_n 3, 1, 3, 0, 0, 0, []) := rfl
theorem c71_36 : cdx (mC m71) 36 = some (36, .iload_n 2, 1, 2, 0, 0, 0, []) := rfl
theorem c71_37 : cdx (mC m71) 37 = some (37, .aload_n 0, 1, 0, 0, 0, 0, []) := rfl
theorem c71_38 : cdx (mC m71) 38 = some (38, .getfield 12, 3, 9, 0, 0, 1239, []) := rfl
theorem c71_41 : cdx (mC m71) 41 = some (41, .getfield 102, 3, 5, 2, 0, 1104, []) := rfl
theorem c71_44 : cdx (mC m71) 44 = some (44, .aload_n 0, 1, 0, 0, 0, 0, []) := rfl
theorem c71_45 : cdx (mC m71) 45 = some (45, .invokevirtual 98, 3, 19, 0, 0, 2069, [(9, 0)]) := rfl
theorem c71_48 : cdx (mC m71) 48 = some (48, .invokevirtual 174, 3, 72, 3, 0, 3065, [(1, 0)]) := rfl
theorem c71_51 : cdx (mC m71) 51 = some (51, .ifCond .eq 7, 3, 58, 0, 0, 0, []) := rfl
theorem c71_54 : cdx (mC m71) 54 = some (54, .iconst 1, 1, 0, 0, 0, 0, []) := rfl
theorem c71_55 : cdx (mC m71) 55 = some (55, .goto 4, 3, 59, 0, 0, 0, []) := rfl
theorem c71_58 : cdx (mC m71) 58 = some (58, .iconst 0, 1, 0, 0, 0, 0, []) := rfl
theorem c71_59 : cdx (mC m71) 59 = some (59, .ireturn, 1, 0, 0, 0, 0, []) := rfl
def lv71 : List (Nat × List Nat) := [(0, [0, 1, 2]), (1, [0, 1, 2]), (4, [0, 1, 2]), (5, [0, 2]), (8, [0, 2]), (9, [0, 2, 3]), (10, [0, 2, 3]), (13, [0, 2, 3]), (14, [0, 2, 3]), (17, [0, 2, 3]), (22, [0, 2, 3]), (23, [0, 2, 3]), (26, [0, 2, 3]), (29, [0, 2, 3]), (35, [0, 2, 3]), (36, [0, 2]), (37, [0]), (38, [0]), (41, [0]), (44, [0])]
theorem lvok71 : lvOk (mC m71) lv71 = true := by decide +kernel
theorem b71_0 {X : Nat × (Nat → Int32)} {d : Nat} {I : Nat → Nat → Int32} {L : Nat → Nat → Int64} {Q : Option Value → XW → Prop} {x1 : Int32} {x2 : Int32}  : wp X (d + 1) m71 0 [some (.ref 0), some (.int x1), some (.int x2), none] [] (K0, R0, I, L) Q ↔ wp X d m17 0 [some (.ref 1), some (.int x1)] [] (K0, R0, I, L) (fun r w1 => wp X (d + 1) m71 8 [some (.ref 0), none, some (.int x2), none] (r.toList ++ []) w1 Q) := (w_aload_n (pc' := 1) c71_0 rfl rfl).trans ((w_getR (pc' := 4) (q := 1) c71_1 kd_0 (by decide) rfl rd_0_0 rfl).trans ((w_iload_n (pc' := 5) c71_4 rfl rfl).trans ((w_callv (pc' := 8) c71_5 mt17 rfl (Nat.le_of_ble_eq_true rfl) rfl tbl_1.1 rfl rfl (Nat.le_of_ble_eq_true rfl) rfl rfl).trans (wp_congr (fun r w1 => wp_msk lvok71 rfl)))))
theorem b71_8 {X : Nat × (Nat → Int32)} {d : Nat} {I : Nat → Nat → Int32} {L : Nat → Nat → Int64} {Q : Option Value → XW → Prop} {x2 : Int32} {q0 : Nat} (hq0 : isCup q0) : wp X (d + 1) m71 8 [some (.ref 0), none, some (.int x2), none] [(.ref q0)] (K0, R0, I, L) Q ↔ wp X d m18 0 [some (.int x2)] [] (K0, R0, I, L) (fun r w1 => wp X (d + 1) m71 17 [some (.ref 0), none, some (.int x2), some (.ref q0)] (r.toList ++ []) w1 Q) := (w_astore_n (pc' := 9) (ls' := [some (.ref 0), none, some (.int x2), some (.ref q0)]) c71_8 (Nat.le_of_ble_eq_true rfl) rfl rfl).trans ((w_aload_n (pc' := 10) c71_9 rfl rfl).trans ((w_ifnull (pc' := 13) c71_10 (k_lt hq0.1) rfl).trans ((w_iload_n (pc' := 14) c71_13 rfl rfl).trans ((w_callst (pc' := 17) c71_14 (by decide) mt18 rfl (Nat.le_of_ble_eq_true rfl) rfl rfl (Nat.le_of_ble_eq_true rfl) rfl rfl)))))
theorem b71_8_1 {X : Nat × (Nat → Int32)} {d : Nat} {I : Nat → Nat → Int32} {L : Nat → Nat → Int64} {Q : Option Value → XW → Prop} {x2 : Int32}  : wp X d m71 8 [some (.ref 0), none, some (.int x2), none] [.null] (K0, R0, I, L) Q ↔ Q (some (.int (-1))) (K0, R0, I, L) := (w_astore_nN (pc' := 9) (ls' := [some (.ref 0), none, some (.int x2), some .null]) c71_8 (Nat.le_of_ble_eq_true rfl) rfl rfl).trans ((w_aload_nN (pc' := 10) c71_9 rfl rfl).trans ((w_ifnullN c71_10).trans ((w_iconst (pc' := 21) (v := (-1)) c71_20 rfl rfl).trans (w_iret c71_21 rfl))))
theorem b71_17 {X : Nat × (Nat → Int32)} {d : Nat} {I : Nat → Nat → Int32} {L : Nat → Nat → Int64} {Q : Option Value → XW → Prop} {x2 : Int32} {r3 : Nat} {s0 : Int32} (hr3 : isCup r3) : wp X (d + 1) m71 17 [some (.ref 0), none, some (.int x2), some (.ref r3)] [(.int s0)] (K0, R0, I, L) Q ↔ (if s0 = 0 then Q (some (.int (-1))) (K0, R0, I, L) else (if (I r3 5) < 9999 then wp X d m19 0 [some (.ref 0), none] [] (K0, R0, I, L) (fun r w1 => wp X (d + 1) m71 48 [none, none, none, none] (r.toList ++ [(.int (I 1 2)), (.int x2), (.ref r3)]) w1 Q) else Q (some (.int (-3))) (K0, R0, I, L))) := (w_if_ne (pc' := 20) c71_17 rfl).trans (ite_iff ((w_iconst (pc' := 21) (v := (-1)) c71_20 rfl rfl).trans (w_iret c71_21 rfl)) ((w_aload_n (pc' := 23) c71_22 rfl rfl).trans ((w_getIv (pc' := 26) (v := (I r3 5)) c71_23 hr3.1 (by decide) rfl (rfl) rfl).trans ((w_sipush (pc' := 29) (v := 9999) c71_26 rfl rfl).trans ((w_icmp_lt (pc' := 32) c71_29 rfl).trans (ite_iff ((w_aload_n (pc' := 36) c71_35 rfl rfl).trans ((w_iload_n (pc' := 37) c71_36 rfl rfl).trans ((w_aload_n (pc' := 38) c71_37 rfl rfl).trans ((w_getR (pc' := 41) (q := 1) c71_38 kd_0 (by decide) rfl rd_0_0 rfl).trans ((w_getIv (pc' := 44) (v := (I 1 2)) c71_41 tbl_1.1 (by decide) rfl (rfl) rfl).trans ((w_aload_n (pc' := 45) c71_44 rfl rfl).trans ((w_callv (pc' := 48) c71_45 mt19 rfl (Nat.le_of_ble_eq_true rfl) rfl kd_0 rfl rfl (Nat.le_of_ble_eq_true rfl) rfl rfl).trans (wp_congr (fun r w1 => wp_msk lvok71 rfl))))))))) ((w_bipush (pc' := 34) (v := (-3)) c71_32 rfl rfl).trans (w_iret c71_34 rfl))))))))
theorem b71_48 {X : Nat × (Nat → Int32)} {d : Nat} {I : Nat → Nat → Int32} {L : Nat → Nat → Int64} {Q : Option Value → XW → Prop} {q0 : Nat} {s1 : Int32} {s2 : Int32} {q3 : Nat} (hq0 : isCup q0) (hq3 : isInn q3) : wp X (d + 1) m71 48 [none, none, none, none] [(.ref q3), (.int s2), (.int s1), (.ref q0)] (K0, R0, I, L) Q ↔ wp X d m72 0 [some (.ref q0), some (.int s1), some (.int s2), some (.ref q3)] [] (K0, R0, I, L) (fun r w1 => wp X (d + 1) m71 51 [none, none, none, none] (r.toList ++ []) w1 Q) := (w_callv (pc' := 51) c71_48 mt72 rfl (Nat.le_of_ble_eq_true rfl) rfl hq0.1 rfl rfl (Nat.le_of_ble_eq_true rfl) rfl rfl)
theorem b71_51 {X : Nat × (Nat → Int32)} {d : Nat} {I : Nat → Nat → Int32} {L : Nat → Nat → Int64} {Q : Option Value → XW → Prop} {s0 : Int32}  : wp X d m71 51 [none, none, none, none] [(.int s0)] (K0, R0, I, L) Q ↔ Q (some (.int (if s0 = 0 then 0 else 1))) (K0, R0, I, L) := (w_if_eq (pc' := 54) c71_51 rfl).trans ((ite_iff ((w_iconst (pc' := 59) (v := 0) c71_58 rfl rfl).trans (w_iret c71_59 rfl)) ((w_iconst (pc' := 55) (v := 1) c71_54 rfl rfl).trans ((w_goto c71_55).trans (w_iret c71_59 rfl)))).trans (ite_val (fun z => Q (some (.int z)) (K0, R0, I, L))))
-- LeavesObject$Cup.hears(IILLeavesObject$Inn;)Z
theorem c72_0 : cdx (mC m72) 0 = some (0, .aload_n 3, 1, 3, 0, 0, 0, []) := rfl
theorem c72_1 : cdx (mC m72) 1 = some (1, .aload_n 0, 1, 0, 0, 0, 0, []) := rfl
theorem c72_2 : cdx (mC m72) 2 = some (2, .iload_n 1, 1, 1, 0, 0, 0, []) := rfl
theorem c72_3 : cdx (mC m72) 3 = some (3, .iload_n 2, 1, 2, 0, 0, 0, []) := rfl
theorem c72_4 : cdx (mC m72) 4 = some (4, .invokevirtual 49, 3, 20, 3, 0, 3069, [(2, 0)]) := rfl
theorem c72_7 : cdx (mC m72) 7 = some (7, .aload_n 0, 1, 0, 0, 0, 0, []) := rfl
theorem c72_8 : cdx (mC m72) 8 = some (8, .getfield 28, 3, 1, 4, 0, 1079, []) := rfl
theorem c72_11 : cdx (mC m72) 11 = some (11, .if_icmp .ge 33, 3, 44, 0, 0, 0, []) := rfl
theorem c72_14 : cdx (mC m72) 14 = some (14, .aload_n 0, 1, 0, 0, 0, 0, []) := rfl
theorem c72_15 : cdx (mC m72) 15 = some (15, .dup, 1, 0, 0, 0, 0, []) := rfl
theorem c72_16 : cdx (mC m72) 16 = some (16, .getfield 31, 3, 1, 5, 0, 1083, []) := rfl
theorem c72_19 : cdx (mC m72) 19 = some (19, .iconst 1, 1, 0, 0, 0, 0, []) := rfl
theorem c72_20 : cdx (mC m72) 20 = some (20, .iadd, 1, 0, 0, 0, 0, []) := rfl
theorem c72_21 : cdx (mC m72) 21 = some (21, .putfield 31, 3, 1, 5, 0, 1083, []) := rfl
theorem c72_24 : cdx (mC m72) 24 = some (24, .aload_n 0, 1, 0, 0, 0, 0, []) := rfl
theorem c72_25 : cdx (mC m72) 25 = some (25, .aload_n 0, 1, 0, 0, 0, 0, []) := rfl
theorem c72_26 : cdx (mC m72) 26 = some (26, .getfield 28, 3, 1, 4, 0, 1079, []) := rfl
theorem c72_29 : cdx (mC m72) 29 = some (29, .aload_n 3, 1, 3, 0, 0, 0, []) := rfl
theorem c72_30 : cdx (mC m72) 30 = some (30, .getfield 55, 3, 2, 0, 0, 1156, []) := rfl
theorem c72_33 : cdx (mC m72) 33 = some (33, .iadd, 1, 0, 0, 0, 0, []) := rfl
theorem c72_34 : cdx (mC m72) 34 = some (34, .bipush 9, 2, 0, 0, 0, 0, []) := rfl
theorem c72_36 : cdx (mC m72) 36 = some (36, .invokestatic 58, 3, 73, 2, 5, 3070, []) := rfl
theorem c72_39 : cdx (mC m72) 39 = some (39, .putfield 28, 3, 1, 4, 0, 1079, []) := rfl
theorem c72_42 : cdx (mC m72) 42 = some (42, .iconst 0, 1, 0, 0, 0, 0, []) := rfl
theorem c72_43 : cdx (mC m72) 43 = some (43, .ireturn, 1, 0, 0, 0, 0, []) := rfl
theorem c72_44 : cdx (mC m72) 44 = some (44, .aload_n 0, 1, 0, 0, 0, 0, []) := rfl
theorem c72_45 : cdx (mC m72) 45 = some (45, .aload_n 0, 1, 0, 0, 0, 0, []) := rfl
theorem c72_46 : cdx (mC m72) 46 = some (46, .iload_n 1, 1, 1, 0, 0, 0, []) := rfl
theorem c72_47 : cdx (mC m72) 47 = some (47, .iload_n 2, 1, 2, 0, 0, 0, []) := rfl
theorem c72_48 : cdx (mC m72) 48 = some (48, .invokevirtual 64, 3, 25, 2, 0, 3073, [(1, 0)]) := rfl
theorem c72_51 : cdx (mC m72) 51 = some (51, .putfield 25, 3, 1, 3, 0, 1075, []) := rfl
theorem c72_54 : cdx (mC m72) 54 = some (54, .aload_n 0, 1, 0, 0, 0, 0, []) := rfl
theorem c72_55 : cdx (mC m72) 55 = some (55, .aload_n 0, 1, 0, 0, 0, 0, []) := rfl
theorem c72_56 : cdx (mC m72) 56 = some (56, .getfield 28, 3, 1, 4, 0, 1079, []) := rfl
theorem c72_59 : cdx (mC m72) 59 = some (59, .aload_n 3, 1, 3, 0, 0, 0, []) := rfl
theorem c72_60 : cdx (mC m72) 60 = some (60, .getfield 67, 3, 2, 1, 0, 1160, []) := rfl
theorem c72_63 : cdx (mC m72) 63 = some (63, .isub, 1, 0, 0, 0, 0, []) := rfl
theorem c72_64 : cdx (mC m72) 64 = some (64, .iconst 0, 1, 0, 0, 0, 0, []) := rfl
theorem c72_65 : cdx (mC m72) 65 = some (65, .invokestatic 70, 3, 3, 2, 5, 3074, []) := rfl
theorem c72_68 : cdx (mC m72) 68 = some (68, .putfield 28, 3, 1, 4, 0, 1079, []) := rfl
theorem c72_71 : cdx (mC m72) 71 = some (71, .iconst 1, 1, 0, 0, 0, 0, []) := rfl
theorem c72_72 : cdx (mC m72) 72 = some (72, .ireturn, 1, 0, 0, 0, 0, []) := rfl
def lv72 : List (Nat × List Nat) := [(0, [0, 1, 2, 3]), (1, [0, 1, 2, 3]), (2, [0, 1, 2, 3]), (3, [0, 1, 2, 3]), (4, [0, 1, 2, 3]), (7, [0, 1, 2, 3]), (8, [0, 1, 2, 3]), (11, [0, 1, 2, 3]), (14, [0, 3]), (15, [0, 3]), (16, [0, 3]), (19, [0, 3]), (20, [0, 3]), (21, [0, 3]), (24, [0, 3]), (25, [0, 3]), (26, [3]), (29, [3]), (44, [0, 1, 2, 3]), (45, [0, 1, 2, 3]), (46, [0, 1, 2, 3]), (47, [0, 2, 3]), (48, [0, 3]), (51, [0, 3]), (54, [0, 3]), (55, [0, 3]), (56, [3]), (59, [3])]
theorem lvok72 : lvOk (mC m72) lv72 = true := by decide +kernel
theorem b72_0 {X : Nat × (Nat → Int32)} {d : Nat} {I : Nat → Nat → Int32} {L : Nat → Nat → Int64} {Q : Option Value → XW → Prop} {r0 : Nat} {x1 : Int32} {x2 : Int32} {r3 : Nat} (hr0 : isCup r0) (hr3 : isInn r3) : wp X (d + 1) m72 0 [some (.ref r0), some (.int x1), some (.int x2), some (.ref r3)] [] (K0, R0, I, L) Q ↔ wp X d m20 0 [some (.ref r3), some (.ref r0), some (.int x1), some (.int x2), none, none, none] [] (K0, R0, I, L) (fun r w1 => wp X (d + 1) m72 7 [some (.ref r0), some (.int x1), some (.int x2), some (.ref r3)] (r.toList ++ []) w1 Q) := (w_aload_n (pc' := 1) c72_0 rfl rfl).trans ((w_aload_n (pc' := 2) c72_1 rfl rfl).trans ((w_iload_n (pc' := 3) c72_2 rfl rfl).trans ((w_iload_n (pc' := 4) c72_3 rfl rfl).trans ((w_callv (pc' := 7) c72_4 mt20 rfl (Nat.le_of_ble_eq_true rfl) rfl hr3.1 rfl rfl (Nat.le_of_ble_eq_true rfl) rfl rfl)))))
theorem b72_7 {X : Nat × (Nat → Int32)} {d : Nat} {I : Nat → Nat → Int32} {L : Nat → Nat → Int64} {Q : Option Value → XW → Prop} {r0 : Nat} {x1 : Int32} {x2 : Int32} {r3 : Nat} {s0 : Int32} (hr0 : isCup r0) (hr3 : isInn r3) : wp X (d + 1) m72 7 [some (.ref r0), some (.int x1), some (.int x2), some (.ref r3)] [(.int s0)] (K0, R0, I, L) Q ↔ (if s0 < (I r0 4) then wp X d m73 0 [some (.int ((I r0 4) + (I r3 0))), some (.int 9)] [] (K0, R0, (updR I r0 5 ((I r0 5) + 1)), L) (fun r w1 => wp X (d + 1) m72 39 [none, none, none, none] (r.toList ++ [(.ref r0)]) w1 Q) else wp X d m25 0 [some (.ref r0), some (.int x1), some (.int x2), none, none] [] (K0, R0, I, L) (fun r w1 => wp X (d + 1) m72 51 [some (.ref r0), none, none, some (.ref r3)] (r.toList ++ [(.ref r0)]) w1 Q)) := (w_aload_n (pc' := 8) c72_7 rfl rfl).trans ((w_getIv (pc' := 11) (v := (I r0 4)) c72_8 hr0.1 (by decide) rfl (rfl) rfl).trans ((w_icmp_ge (pc' := 14) c72_11 rfl).trans (ite_iff ((w_aload_n (pc' := 15) c72_14 rfl rfl).trans ((w_dup (pc' := 16) c72_15 rfl rfl).trans ((w_getIv (pc' := 19) (v := (I r0 5)) c72_16 hr0.1 (by decide) rfl (rfl) rfl).trans ((w_iconst (pc' := 20) (v := 1) c72_19 rfl rfl).trans ((w_iadd (pc' := 21) c72_20 rfl).trans ((w_putI (pc' := 24) c72_21 hr0.1 (by decide) rfl rfl rfl).trans ((w_aload_n (pc' := 25) c72_24 rfl rfl).trans ((w_aload_n (pc' := 26) c72_25 rfl rfl).trans ((w_getIv (pc' := 29) (v := (I r0 4)) c72_26 hr0.1 (by decide) rfl ((updR_j (by decide)).trans (rfl)) rfl).trans ((w_aload_n (pc' := 30) c72_29 rfl rfl).trans ((w_getIv (pc' := 33) (v := (I r3 0)) c72_30 hr3.1 (by decide) rfl ((updR_j (by decide)).trans (rfl)) rfl).trans ((w_iadd (pc' := 34) c72_33 rfl).trans ((w_bipush (pc' := 36) (v := 9) c72_34 rfl rfl).trans ((w_callst (pc' := 39) c72_36 (by decide) mt73 rfl (Nat.le_of_ble_eq_true rfl) rfl rfl (Nat.le_of_ble_eq_true rfl) rfl rfl).trans (wp_congr (fun r w1 => wp_msk lvok72 rfl)))))))))))))))) ((w_aload_n (pc' := 45) c72_44 rfl rfl).trans ((w_aload_n (pc' := 46) c72_45 rfl rfl).trans ((w_iload_n (pc' := 47) c72_46 rfl rfl).trans ((w_iload_n (pc' := 48) c72_47 rfl rfl).trans ((w_callv (pc' := 51) c72_48 mt25 rfl (Nat.le_of_ble_eq_true rfl) rfl hr0.1 rfl rfl (Nat.le_of_ble_eq_true rfl) rfl rfl).trans (wp_congr (fun r w1 => wp_msk lvok72 rfl))))))))))
theorem b72_39 {X : Nat × (Nat → Int32)} {d : Nat} {I : Nat → Nat → Int32} {L : Nat → Nat → Int64} {Q : Option Value → XW → Prop} {q0 : Nat} {s1 : Int32} (hq0 : isCup q0) : wp X d m72 39 [none, none, none, none] [(.int s1), (.ref q0)] (K0, R0, I, L) Q ↔ Q (some (.int 0)) (K0, R0, (updR I q0 4 s1), L) := (w_putI (pc' := 42) c72_39 hq0.1 (by decide) rfl rfl rfl).trans ((w_iconst (pc' := 43) (v := 0) c72_42 rfl rfl).trans ((w_zret (ty := .boolean) c72_43 rfl (by decide)).trans (and_iff_right (by decide))))
theorem b72_51 {X : Nat × (Nat → Int32)} {d : Nat} {I : Nat → Nat → Int32} {L : Nat → Nat → Int64} {Q : Option Value → XW → Prop} {r0 : Nat} {r3 : Nat} {q0 : Nat} {s1 : Int32} (hr0 : isCup r0) (hr3 : isInn r3) (hq0 : isCup q0) : wp X (d + 1) m72 51 [some (.ref r0), none, none, some (.ref r3)] [(.int s1), (.ref q0)] (K0, R0, I, L) Q ↔ wp X d m3 0 [some (.int ((I r0 4) - (I r3 1))), some (.int 0)] [] (K0, R0, (updR I q0 3 s1), L) (fun r w1 => wp X (d + 1) m72 68 [none, none, none, none] (r.toList ++ [(.ref r0)]) w1 Q) := (w_putI (pc' := 54) c72_51 hq0.1 (by decide) rfl rfl rfl).trans ((w_aload_n (pc' := 55) c72_54 rfl rfl).trans ((w_aload_n (pc' := 56) c72_55 rfl rfl).trans ((w_getIv (pc' := 59) (v := (I r0 4)) c72_56 hr0.1 (by decide) rfl ((updR_j (by decide)).trans (rfl)) rfl).trans ((w_aload_n (pc' := 60) c72_59 rfl rfl).trans ((w_getIv (pc' := 63) (v := (I r3 1)) c72_60 hr3.1 (by decide) rfl ((updR_j (by decide)).trans (rfl)) rfl).trans ((w_isub (pc' := 64) c72_63 rfl).trans ((w_iconst (pc' := 65) (v := 0) c72_64 rfl rfl).trans ((w_callst (pc' := 68) c72_65 (by decide) mt3 rfl (Nat.le_of_ble_eq_true rfl) rfl rfl (Nat.le_of_ble_eq_true rfl) rfl rfl).trans (wp_congr (fun r w1 => wp_msk lvok72 rfl))))))))))
theorem b72_68 {X : Nat × (Nat → Int32)} {d : Nat} {I : Nat → Nat → Int32} {L : Nat → Nat → Int64} {Q : Option Value → XW → Prop} {q0 : Nat} {s1 : Int32} (hq0 : isCup q0) : wp X d m72 68 [none, none, none, none] [(.int s1), (.ref q0)] (K0, R0, I, L) Q ↔ Q (some (.int 1)) (K0, R0, (updR I q0 4 s1), L) := (w_putI (pc' := 71) c72_68 hq0.1 (by decide) rfl rfl rfl).trans ((w_iconst (pc' := 72) (v := 1) c72_71 rfl rfl).trans ((w_zret (ty := .boolean) c72_72 rfl (by decide)).trans (and_iff_right (by decide))))
-- java/lang/Math.min(II)I
theorem c73_0 : cdx (mC m73) 0 = some (0, .iload_n 0, 1, 0, 0, 0, 0, []) := rfl
theorem c73_1 : cdx (mC m73) 1 = some (1, .iload_n 1, 1, 1, 0, 0, 0, []) := rfl
theorem c73_2 : cdx (mC m73) 2 = some (2, .if_icmp .gt 7, 3, 9, 0, 0, 0, []) := rfl
theorem c73_5 : cdx (mC m73) 5 = some (5, .iload_n 0, 1, 0, 0, 0, 0, []) := rfl
theorem c73_6 : cdx (mC m73) 6 = some (6, .goto 4, 3, 10, 0, 0, 0, []) := rfl
theorem c73_9 : cdx (mC m73) 9 = some (9, .iload_n 1, 1, 1, 0, 0, 0, []) := rfl
theorem c73_10 : cdx (mC m73) 10 = some (10, .ireturn, 1, 0, 0, 0, 0, []) := rfl
theorem b73_0 {X : Nat × (Nat → Int32)} {d : Nat} {I : Nat → Nat → Int32} {L : Nat → Nat → Int64} {Q : Option Value → XW → Prop} {x0 : Int32} {x1 : Int32}  : wp X d m73 0 [some (.int x0), some (.int x1)] [] (K0, R0, I, L) Q ↔ Q (some (.int (if x1 < x0 then x1 else x0))) (K0, R0, I, L) := (w_iload_n (pc' := 1) c73_0 rfl rfl).trans ((w_iload_n (pc' := 2) c73_1 rfl rfl).trans ((w_icmp_gt (pc' := 5) c73_2 rfl).trans ((ite_iff ((w_iload_n (pc' := 10) c73_9 rfl rfl).trans (w_iret c73_10 rfl)) ((w_iload_n (pc' := 6) c73_5 rfl rfl).trans ((w_goto c73_6).trans (w_iret c73_10 rfl)))).trans (ite_val (fun z => Q (some (.int z)) (K0, R0, I, L))))))
-- LeavesObject.pass(I)I
theorem c74_0 : cdx (mC m74) 0 = some (0, .iload_n 1, 1, 1, 0, 0, 0, []) := rfl
theorem c74_1 : cdx (mC m74) 1 = some (1, .ifCond .lt 9, 3, 10, 0, 0, 0, []) := rfl
theorem c74_4 : cdx (mC m74) 4 = some (4, .iload_n 1, 1, 1, 0, 0, 0, []) := rfl
theorem c74_5 : cdx (mC m74) 5 = some (5, .bipush 60, 2, 0, 0, 0, 0, []) := rfl
theorem c74_7 : cdx (mC m74) 7 = some (7, .if_icmp .le 6, 3, 13, 0, 0, 0, []) := rfl
theorem c74_10 : cdx (mC m74) 10 = some (10, .bipush (-2), 2, 0, 0, 0, 0, []) := rfl
theorem c74_12 : cdx (mC m74) 12 = some (12, .ireturn, 1, 0, 0, 0, 0, []) := rfl
theorem c74_13 : cdx (mC m74) 13 = some (13, .aload_n 0, 1, 0, 0, 0, 0, []) := rfl
theorem c74_14 : cdx (mC m74) 14 = some (14, .getfield 12, 3, 9, 0, 0, 1239, []) := rfl
theorem c74_17 : cdx (mC m74) 17 = some (17, .getfield 102, 3, 5, 2, 0, 1104, []) := rfl
theorem c74_20 : cdx (mC m74) 20 = some (20, .iload_n 1, 1, 1, 0, 0, 0, []) := rfl
theorem c74_21 : cdx (mC m74) 21 = some (21, .iadd, 1, 0, 0, 0, 0, []) := rfl
theorem c74_22 : cdx (mC m74) 22 = some (22, .sipush 9999, 3, 0, 0, 0, 0, []) := rfl
theorem c74_25 : cdx (mC m74) 25 = some (25, .if_icmp .le 6, 3, 31, 0, 0, 0, []) := rfl
theorem c74_28 : cdx (mC m74) 28 = some (28, .bipush (-3), 2, 0, 0, 0, 0, []) := rfl
theorem c74_30 : cdx (mC m74) 30 = some (30, .ireturn, 1, 0, 0, 0, 0, []) := rfl
theorem c74_31 : cdx (mC m74) 31 = some (31, .iconst 0, 1, 0, 0, 0, 0, []) := rfl
theorem c74_32 : cdx (mC m74) 32 = some (32, .istore_n 2, 1, 2, 0, 0, 0, []) := rfl
theorem c74_33 : cdx (mC m74) 33 = some (33, .iload_n 2, 1, 2, 0, 0, 0, []) := rfl
theorem c74_34 : cdx (mC m74) 34 = some (34, .iload_n 1, 1, 1, 0, 0, 0, []) := rfl
theorem c74_35 : cdx (mC m74) 35 = some (35, .if_icmp .ge 16, 3, 51, 0, 0, 0, []) := rfl
theorem c74_38 : cdx (mC m74) 38 = some (38, .aload_n 0, 1, 0, 0, 0, 0, []) := rfl
theorem c74_39 : cdx (mC m74) 39 = some (39, .getfield 12, 3, 9, 0, 0, 1239, []) := rfl
theorem c74_42 : cdx (mC m74) 42 = some (42, .invokevirtual 178, 3, 75, 0, 0, 3079, [(5, 0)]) := rfl
theorem c74_45 : cdx (mC m74) 45 = some (45, .iinc 2 1, 3, 2, 0, 0, 0, []) := rfl
theorem c74_48 : cdx (mC m74) 48 = some (48, .goto (-15), 3, 33, 0, 0, 0, []) := rfl
theorem c74_51 : cdx (mC m74) 51 = some (51, .aload_n 0, 1, 0, 0, 0, 0, []) := rfl
theorem c74_52 : cdx (mC m74) 52 = some (52, .getfield 12, 3, 9, 0, 0, 1239, []) := rfl
theorem c74_55 : cdx (mC m74) 55 = some (55, .getfield 102, 3, 5, 2, 0, 1104, []) := rfl
theorem c74_58 : cdx (mC m74) 58 = some (58, .ireturn, 1, 0, 0, 0, 0, []) := rfl
theorem b74_0 {X : Nat × (Nat → Int32)} {d : Nat} {I : Nat → Nat → Int32} {L : Nat → Nat → Int64} {Q : Option Value → XW → Prop} {x1 : Int32}  : wp X d m74 0 [some (.ref 0), some (.int x1), none] [] (K0, R0, I, L) Q ↔ (if x1 < 0 then Q (some (.int (-2))) (K0, R0, I, L) else (if 60 < x1 then Q (some (.int (-2))) (K0, R0, I, L) else (if 9999 < ((I 1 2) + x1) then Q (some (.int (-3))) (K0, R0, I, L) else wp X d m74 33 [some (.ref 0), some (.int x1), some (.int 0)] [] (K0, R0, I, L) Q))) := (w_iload_n (pc' := 1) c74_0 rfl rfl).trans ((w_if_lt (pc' := 4) c74_1 rfl).trans (ite_iff ((w_bipush (pc' := 12) (v := (-2)) c74_10 rfl rfl).trans (w_iret c74_12 rfl)) ((w_iload_n (pc' := 5) c74_4 rfl rfl).trans ((w_bipush (pc' := 7) (v := 60) c74_5 rfl rfl).trans ((w_icmp_le (pc' := 10) c74_7 rfl).trans (ite_iff ((w_bipush (pc' := 12) (v := (-2)) c74_10 rfl rfl).trans (w_iret c74_12 rfl)) ((w_aload_n (pc' := 14) c74_13 rfl rfl).trans ((w_getR (pc' := 17) (q := 1) c74_14 kd_0 (by decide) rfl rd_0_0 rfl).trans ((w_getIv (pc' := 20) (v := (I 1 2)) c74_17 tbl_1.1 (by decide) rfl (rfl) rfl).trans ((w_iload_n (pc' := 21) c74_20 rfl rfl).trans ((w_iadd (pc' := 22) c74_21 rfl).trans ((w_sipush (pc' := 25) (v := 9999) c74_22 rfl rfl).trans ((w_icmp_le (pc' := 28) c74_25 rfl).trans (ite_iff ((w_bipush (pc' := 30) (v := (-3)) c74_28 rfl rfl).trans (w_iret c74_30 rfl)) ((w_iconst (pc' := 32) (v := 0) c74_31 rfl rfl).trans ((w_istore_n (pc' := 33) (ls' := [some (.ref 0), some (.int x1), some (.int 0)]) c74_32 (Nat.le_of_ble_eq_true rfl) rfl rfl)))))))))))))))))
theorem b74_33 {X : Nat × (Nat → Int32)} {d : Nat} {I : Nat → Nat → Int32} {L : Nat → Nat → Int64} {Q : Option Value → XW → Prop} {x1 : Int32} {x2 : Int32}  : wp X (d + 1) m74 33 [some (.ref 0), some (.int x1), some (.int x2)] [] (K0, R0, I, L) Q ↔ (if x2 < x1 then wp X d m75 0 [some (.ref 1), none, none] [] (K0, R0, I, L) (fun r w1 => wp X (d + 1) m74 45 [some (.ref 0), some (.int x1), some (.int x2)] (r.toList ++ []) w1 Q) else Q (some (.int (I 1 2))) (K0, R0, I, L)) := (w_iload_n (pc' := 34) c74_33 rfl rfl).trans ((w_iload_n (pc' := 35) c74_34 rfl rfl).trans ((w_icmp_ge (pc' := 38) c74_35 rfl).trans (ite_iff ((w_aload_n (pc' := 39) c74_38 rfl rfl).trans ((w_getR (pc' := 42) (q := 1) c74_39 kd_0 (by decide) rfl rd_0_0 rfl).trans ((w_callv (pc' := 45) c74_42 mt75 rfl (Nat.le_of_ble_eq_true rfl) rfl tbl_1.1 rfl rfl (Nat.le_of_ble_eq_true rfl) rfl rfl)))) ((w_aload_n (pc' := 52) c74_51 rfl rfl).trans ((w_getR (pc' := 55) (q := 1) c74_52 kd_0 (by decide) rfl rd_0_0 rfl).trans ((w_getIv (pc' := 58) (v := (I 1 2)) c74_55 tbl_1.1 (by decide) rfl (rfl) rfl).trans (w_iret c74_58 rfl)))))))
theorem b74_45 {X : Nat × (Nat → Int32)} {d : Nat} {I : Nat → Nat → Int32} {L : Nat → Nat → Int64} {Q : Option Value → XW → Prop} {x1 : Int32} {x2 : Int32}  : wp X d m74 45 [some (.ref 0), some (.int x1), some (.int x2)] [] (K0, R0, I, L) Q ↔ wp X d m74 33 [some (.ref 0), some (.int x1), some (.int (x2 + 1))] [] (K0, R0, I, L) Q := (w_iinc (pc' := 48) (v := (x2 + 1)) (ls' := [some (.ref 0), some (.int x1), some (.int (x2 + 1))]) c74_45 (Nat.le_of_ble_eq_true rfl) rfl rfl rfl rfl).trans ((w_goto c74_48))
-- LeavesObject$Table.nightGoes()V
theorem c75_0 : cdx (mC m75) 0 = some (0, .iconst 0, 1, 0, 0, 0, 0, []) := rfl
theorem c75_1 : cdx (mC m75) 1 = some (1, .istore_n 1, 1, 1, 0, 0, 0, []) := rfl
theorem c75_2 : cdx (mC m75) 2 = some (2, .iload_n 1, 1, 1, 0, 0, 0, []) := rfl
theorem c75_3 : cdx (mC m75) 3 = some (3, .aload_n 0, 1, 0, 0, 0, 0, []) := rfl
theorem c75_4 : cdx (mC m75) 4 = some (4, .getfield 37, 3, 5, 1, 0, 1103, []) := rfl
theorem c75_7 : cdx (mC m75) 7 = some (7, .if_icmp .ge 33, 3, 40, 0, 0, 0, []) := rfl
theorem c75_10 : cdx (mC m75) 10 = some (10, .aload_n 0, 1, 0, 0, 0, 0, []) := rfl
theorem c75_11 : cdx (mC m75) 11 = some (11, .iload_n 1, 1, 1, 0, 0, 0, []) := rfl
theorem c75_12 : cdx (mC m75) 12 = some (12, .invokevirtual 44, 3, 17, 1, 0, 3041, [(5, 0)]) := rfl
theorem c75_15 : cdx (mC m75) 15 = some (15, .astore_n 2, 1, 2, 0, 0, 0, []) := rfl
theorem c75_16 : cdx (mC m75) 16 = some (16, .aload_n 2, 1, 2, 0, 0, 0, []) := rfl
theorem c75_17 : cdx (mC m75) 17 = some (17, .ifnull 17, 3, 34, 0, 0, 0, []) := rfl
theorem c75_20 : cdx (mC m75) 20 = some (20, .aload_n 2, 1, 2, 0, 0, 0, []) := rfl
theorem c75_21 : cdx (mC m75) 21 = some (21, .aload_n 2, 1, 2, 0, 0, 0, []) := rfl
theorem c75_22 : cdx (mC m75) 22 = some (22, .getfield 60, 3, 1, 4, 0, 1082, []) := rfl
theorem c75_25 : cdx (mC m75) 25 = some (25, .iconst 1, 1, 0, 0, 0, 0, []) := rfl
theorem c75_26 : cdx (mC m75) 26 = some (26, .isub, 1, 0, 0, 0, 0, []) := rfl
theorem c75_27 : cdx (mC m75) 27 = some (27, .iconst 0, 1, 0, 0, 0, 0, []) := rfl
theorem c75_28 : cdx (mC m75) 28 = some (28, .invokestatic 63, 3, 3, 2, 5, 3083, []) := rfl
theorem c75_31 : cdx (mC m75) 31 = some (31, .putfield 60, 3, 1, 4, 0, 1082, []) := rfl
theorem c75_34 : cdx (mC m75) 34 = some (34, .iinc 1 1, 3, 1, 0, 0, 0, []) := rfl
theorem c75_37 : cdx (mC m75) 37 = some (37, .goto (-35), 3, 2, 0, 0, 0, []) := rfl
theorem c75_40 : cdx (mC m75) 40 = some (40, .aload_n 0, 1, 0, 0, 0, 0, []) := rfl
theorem c75_41 : cdx (mC m75) 41 = some (41, .dup, 1, 0, 0, 0, 0, []) := rfl
theorem c75_42 : cdx (mC m75) 42 = some (42, .getfield 54, 3, 5, 2, 0, 1105, []) := rfl
theorem c75_45 : cdx (mC m75) 45 = some (45, .iconst 1, 1, 0, 0, 0, 0, []) := rfl
theorem c75_46 : cdx (mC m75) 46 = some (46, .iadd, 1, 0, 0, 0, 0, []) := rfl
theorem c75_47 : cdx (mC m75) 47 = some (47, .putfield 54, 3, 5, 2, 0, 1105, []) := rfl
theorem c75_50 : cdx (mC m75) 50 = some (50, .return_, 1, 0, 0, 0, 0, []) := rfl
def lv75 : List (Nat × List Nat) := [(0, [0]), (1, [0]), (2, [0, 1]), (3, [0, 1]), (4, [0, 1]), (7, [0, 1]), (10, [0, 1]), (11, [0, 1]), (12, [0, 1]), (15, [0, 1]), (16, [0, 1, 2]), (17, [0, 1, 2]), (20, [0, 1, 2]), (21, [0, 1, 2]), (22, [0, 1]), (25, [0, 1]), (26, [0, 1]), (27, [0, 1]), (28, [0, 1]), (31, [0, 1]), (34, [0, 1]), (37, [0, 1]), (40, [0])]
theorem lvok75 : lvOk (mC m75) lv75 = true := by decide +kernel
theorem b75_0 {X : Nat × (Nat → Int32)} {d : Nat} {I : Nat → Nat → Int32} {L : Nat → Nat → Int64} {Q : Option Value → XW → Prop} {r0 : Nat} (hr0 : isTable r0) : wp X d m75 0 [some (.ref r0), none, none] [] (K0, R0, I, L) Q ↔ wp X d m75 2 [some (.ref r0), some (.int 0), none] [] (K0, R0, I, L) Q := (w_iconst (pc' := 1) (v := 0) c75_0 rfl rfl).trans ((w_istore_n (pc' := 2) (ls' := [some (.ref r0), some (.int 0), none]) c75_1 (Nat.le_of_ble_eq_true rfl) rfl rfl))
theorem b75_2 {X : Nat × (Nat → Int32)} {d : Nat} {I : Nat → Nat → Int32} {L : Nat → Nat → Int64} {Q : Option Value → XW → Prop} {r0 : Nat} {x1 : Int32} (hr0 : isTable r0) : wp X (d + 1) m75 2 [some (.ref r0), some (.int x1), none] [] (K0, R0, I, L) Q ↔ (if x1 < (I r0 1) then wp X d m17 0 [some (.ref r0), some (.int x1)] [] (K0, R0, I, L) (fun r w1 => wp X (d + 1) m75 15 [some (.ref r0), some (.int x1), none] (r.toList ++ []) w1 Q) else Q none (K0, R0, (updR I r0 2 ((I r0 2) + 1)), L)) := (w_iload_n (pc' := 3) c75_2 rfl rfl).trans ((w_aload_n (pc' := 4) c75_3 rfl rfl).trans ((w_getIv (pc' := 7) (v := (I r0 1)) c75_4 hr0.1 (by decide) rfl (rfl) rfl).trans ((w_icmp_ge (pc' := 10) c75_7 rfl).trans (ite_iff ((w_aload_n (pc' := 11) c75_10 rfl rfl).trans ((w_iload_n (pc' := 12) c75_11 rfl rfl).trans ((w_callv (pc' := 15) c75_12 mt17 rfl (Nat.le_of_ble_eq_true rfl) rfl hr0.1 rfl rfl (Nat.le_of_ble_eq_true rfl) rfl rfl)))) ((w_aload_n (pc' := 41) c75_40 rfl rfl).trans ((w_dup (pc' := 42) c75_41 rfl rfl).trans ((w_getIv (pc' := 45) (v := (I r0 2)) c75_42 hr0.1 (by decide) rfl (rfl) rfl).trans ((w_iconst (pc' := 46) (v := 1) c75_45 rfl rfl).trans ((w_iadd (pc' := 47) c75_46 rfl).trans ((w_putI (pc' := 50) c75_47 hr0.1 (by decide) rfl rfl rfl).trans (w_vret c75_50 rfl)))))))))))
theorem b75_15 {X : Nat × (Nat → Int32)} {d : Nat} {I : Nat → Nat → Int32} {L : Nat → Nat → Int64} {Q : Option Value → XW → Prop} {r0 : Nat} {x1 : Int32} {q0 : Nat} (hr0 : isTable r0) (hq0 : isCup q0) : wp X (d + 1) m75 15 [some (.ref r0), some (.int x1), none] [(.ref q0)] (K0, R0, I, L) Q ↔ wp X d m3 0 [some (.int ((I q0 4) - 1)), some (.int 0)] [] (K0, R0, I, L) (fun r w1 => wp X (d + 1) m75 31 [some (.ref r0), some (.int x1), none] (r.toList ++ [(.ref q0)]) w1 Q) := (w_astore_n (pc' := 16) (ls' := [some (.ref r0), some (.int x1), some (.ref q0)]) c75_15 (Nat.le_of_ble_eq_true rfl) rfl rfl).trans ((w_aload_n (pc' := 17) c75_16 rfl rfl).trans ((w_ifnull (pc' := 20) c75_17 (k_lt hq0.1) rfl).trans ((w_aload_n (pc' := 21) c75_20 rfl rfl).trans ((w_aload_n (pc' := 22) c75_21 rfl rfl).trans ((w_getIv (pc' := 25) (v := (I q0 4)) c75_22 hq0.1 (by decide) rfl (rfl) rfl).trans ((w_iconst (pc' := 26) (v := 1) c75_25 rfl rfl).trans ((w_isub (pc' := 27) c75_26 rfl).trans ((w_iconst (pc' := 28) (v := 0) c75_27 rfl rfl).trans ((w_callst (pc' := 31) c75_28 (by decide) mt3 rfl (Nat.le_of_ble_eq_true rfl) rfl rfl (Nat.le_of_ble_eq_true rfl) rfl rfl).trans (wp_congr (fun r w1 => wp_msk lvok75 rfl)))))))))))
theorem b75_15_1 {X : Nat × (Nat → Int32)} {d : Nat} {I : Nat → Nat → Int32} {L : Nat → Nat → Int64} {Q : Option Value → XW → Prop} {r0 : Nat} {x1 : Int32} (hr0 : isTable r0) : wp X d m75 15 [some (.ref r0), some (.int x1), none] [.null] (K0, R0, I, L) Q ↔ wp X d m75 2 [some (.ref r0), some (.int (x1 + 1)), none] [] (K0, R0, I, L) Q := (w_astore_nN (pc' := 16) (ls' := [some (.ref r0), some (.int x1), some .null]) c75_15 (Nat.le_of_ble_eq_true rfl) rfl rfl).trans ((w_aload_nN (pc' := 17) c75_16 rfl rfl).trans ((w_ifnullN c75_17).trans ((w_iinc (pc' := 37) (v := (x1 + 1)) (ls' := [some (.ref r0), some (.int (x1 + 1)), some .null]) c75_34 (Nat.le_of_ble_eq_true rfl) rfl rfl rfl rfl).trans ((w_goto c75_37).trans ((wp_msk lvok75 rfl))))))
theorem b75_31 {X : Nat × (Nat → Int32)} {d : Nat} {I : Nat → Nat → Int32} {L : Nat → Nat → Int64} {Q : Option Value → XW → Prop} {r0 : Nat} {x1 : Int32} {q0 : Nat} {s1 : Int32} (hr0 : isTable r0) (hq0 : isCup q0) : wp X d m75 31 [some (.ref r0), some (.int x1), none] [(.int s1), (.ref q0)] (K0, R0, I, L) Q ↔ wp X d m75 2 [some (.ref r0), some (.int (x1 + 1)), none] [] (K0, R0, (updR I q0 4 s1), L) Q := (w_putI (pc' := 34) c75_31 hq0.1 (by decide) rfl rfl rfl).trans ((w_iinc (pc' := 37) (v := (x1 + 1)) (ls' := [some (.ref r0), some (.int (x1 + 1)), none]) c75_34 (Nat.le_of_ble_eq_true rfl) rfl rfl rfl rfl).trans ((w_goto c75_37)))
-- LeavesObject.after(III)I
theorem c76_0 : cdx (mC m76) 0 = some (0, .aload_n 0, 1, 0, 0, 0, 0, []) := rfl
theorem c76_1 : cdx (mC m76) 1 = some (1, .getfield 12, 3, 9, 0, 0, 1239, []) := rfl
theorem c76_4 : cdx (mC m76) 4 = some (4, .iload_n 1, 1, 1, 0, 0, 0, []) := rfl
theorem c76_5 : cdx (mC m76) 5 = some (5, .invokevirtual 92, 3, 17, 1, 0, 2061, [(5, 0)]) := rfl
theorem c76_8 : cdx (mC m76) 8 = some (8, .astore 4, 2, 4, 0, 0, 0, []) := rfl
theorem c76_10 : cdx (mC m76) 10 = some (10, .aload 4, 2, 4, 0, 0, 0, []) := rfl
theorem c76_12 : cdx (mC m76) 12 = some (12, .ifnull 19, 3, 31, 0, 0, 0, []) := rfl
theorem c76_15 : cdx (mC m76) 15 = some (15, .iload_n 2, 1, 2, 0, 0, 0, []) := rfl
theorem c76_16 : cdx (mC m76) 16 = some (16, .invokestatic 95, 3, 18, 1, 4, 2066, []) := rfl
theorem c76_19 : cdx (mC m76) 19 = some (19, .ifCond .eq 12, 3, 31, 0, 0, 0, []) := rfl
theorem c76_22 : cdx (mC m76) 22 = some (22, .iload_n 3, 1, 3, 0, 0, 0, []) := rfl
theorem c76_23 : cdx (mC m76) 23 = some (23, .ifCond .lt 8, 3, 31, 0, 0, 0, []) := rfl
theorem c76_26 : cdx (mC m76) 26 = some (26, .iload_n 3, 1, 3, 0, 0, 0, []) := rfl
theorem c76_27 : cdx (mC m76) 27 = some (27, .iconst 2, 1, 0, 0, 0, 0, []) := rfl
theorem c76_28 : cdx (mC m76) 28 = some (28, .if_icmp .le 5, 3, 33, 0, 0, 0, []) := rfl
theorem c76_31 : cdx (mC m76) 31 = some (31, .iconst (-1), 1, 0, 0, 0, 0, []) := rfl
theorem c76_32 : cdx (mC m76) 32 = some (32, .ireturn, 1, 0, 0, 0, 0, []) := rfl
theorem c76_33 : cdx (mC m76) 33 = some (33, .aload_n 0, 1, 0, 0, 0, 0, []) := rfl
theorem c76_34 : cdx (mC m76) 34 = some (34, .aload 4, 2, 4, 0, 0, 0, []) := rfl
theorem c76_36 : cdx (mC m76) 36 = some (36, .iload_n 2, 1, 2, 0, 0, 0, []) := rfl
theorem c76_37 : cdx (mC m76) 37 = some (37, .invokevirtual 181, 3, 77, 2, 0, 3088, [(9, 0)]) := rfl
theorem c76_40 : cdx (mC m76) 40 = some (40, .istore 5, 2, 5, 0, 0, 0, []) := rfl
theorem c76_42 : cdx (mC m76) 42 = some (42, .iload_n 3, 1, 3, 0, 0, 0, []) := rfl
theorem c76_43 : cdx (mC m76) 43 = some (43, .ifCond .ne 11, 3, 54, 0, 0, 0, []) := rfl
theorem c76_46 : cdx (mC m76) 46 = some (46, .aload_n 0, 1, 0, 0, 0, 0, []) := rfl
theorem c76_47 : cdx (mC m76) 47 = some (47, .getfield 45, 3, 9, 8, 0, 2007, []) := rfl
theorem c76_50 : cdx (mC m76) 50 = some (50, .getfield 119, 3, 1, 3, 0, 1076, []) := rfl
theorem c76_53 : cdx (mC m76) 53 = some (53, .ireturn, 1, 0, 0, 0, 0, []) := rfl
theorem c76_54 : cdx (mC m76) 54 = some (54, .iload_n 3, 1, 3, 0, 0, 0, []) := rfl
theorem c76_55 : cdx (mC m76) 55 = some (55, .iconst 1, 1, 0, 0, 0, 0, []) := rfl
theorem c76_56 : cdx (mC m76) 56 = some (56, .if_icmp .ne 11, 3, 67, 0, 0, 0, []) := rfl
theorem c76_59 : cdx (mC m76) 59 = some (59, .aload_n 0, 1, 0, 0, 0, 0, []) := rfl
theorem c76_60 : cdx (mC m76) 60 = some (60, .getfield 45, 3, 9, 8, 0, 2007, []) := rfl
theorem c76_63 : cdx (mC m76) 63 = some (63, .getfield 122, 3, 1, 4, 0, 1081, []) := rfl
theorem c76_66 : cdx (mC m76) 66 = some (66, .ireturn, 1, 0, 0, 0, 0, []) := rfl
theorem c76_67 : cdx (mC m76) 67 = some (67, .iload 5, 2, 5, 0, 0, 0, []) := rfl
theorem c76_69 : cdx (mC m76) 69 = some (69, .ifCond .eq 7, 3, 76, 0, 0, 0, []) := rfl
theorem c76_72 : cdx (mC m76) 72 = some (72, .iconst 0, 1, 0, 0, 0, 0, []) := rfl
theorem c76_73 : cdx (mC m76) 73 = some (73, .goto 4, 3, 77, 0, 0, 0, []) := rfl
theorem c76_76 : cdx (mC m76) 76 = some (76, .iconst 1, 1, 0, 0, 0, 0, []) := rfl
theorem c76_77 : cdx (mC m76) 77 = some (77, .ireturn, 1, 0, 0, 0, 0, []) := rfl
def lv76 : List (Nat × List Nat) := [(0, [0, 1, 2, 3]), (1, [0, 1, 2, 3]), (4, [0, 1, 2, 3]), (5, [0, 2, 3]), (8, [0, 2, 3]), (10, [0, 2, 3, 4]), (12, [0, 2, 3, 4]), (15, [0, 2, 3, 4]), (16, [0, 2, 3, 4]), (19, [0, 2, 3, 4]), (22, [0, 2, 3, 4]), (23, [0, 2, 3, 4]), (26, [0, 2, 3, 4]), (27, [0, 2, 3, 4]), (28, [0, 2, 3, 4]), (33, [0, 2, 3, 4]), (34, [0, 2, 3, 4]), (36, [0, 2, 3]), (37, [0, 3]), (40, [0, 3]), (42, [0, 3, 5]), (43, [0, 3, 5]), (46, [0]), (54, [0, 3, 5]), (55, [0, 5]), (56, [0, 5]), (59, [0]), (67, [5])]
theorem lvok76 : lvOk (mC m76) lv76 = true := by decide +kernel
theorem b76_0 {X : Nat × (Nat → Int32)} {d : Nat} {I : Nat → Nat → Int32} {L : Nat → Nat → Int64} {Q : Option Value → XW → Prop} {x1 : Int32} {x2 : Int32} {x3 : Int32}  : wp X (d + 1) m76 0 [some (.ref 0), some (.int x1), some (.int x2), some (.int x3), none, none] [] (K0, R0, I, L) Q ↔ wp X d m17 0 [some (.ref 1), some (.int x1)] [] (K0, R0, I, L) (fun r w1 => wp X (d + 1) m76 8 [some (.ref 0), none, some (.int x2), some (.int x3), none, none] (r.toList ++ []) w1 Q) := (w_aload_n (pc' := 1) c76_0 rfl rfl).trans ((w_getR (pc' := 4) (q := 1) c76_1 kd_0 (by decide) rfl rd_0_0 rfl).trans ((w_iload_n (pc' := 5) c76_4 rfl rfl).trans ((w_callv (pc' := 8) c76_5 mt17 rfl (Nat.le_of_ble_eq_true rfl) rfl tbl_1.1 rfl rfl (Nat.le_of_ble_eq_true rfl) rfl rfl).trans (wp_congr (fun r w1 => wp_msk lvok76 rfl)))))
theorem b76_8 {X : Nat × (Nat → Int32)} {d : Nat} {I : Nat → Nat → Int32} {L : Nat → Nat → Int64} {Q : Option Value → XW → Prop} {x2 : Int32} {x3 : Int32} {q0 : Nat} (hq0 : isCup q0) : wp X (d + 1) m76 8 [some (.ref 0), none, some (.int x2), some (.int x3), none, none] [(.ref q0)] (K0, R0, I, L) Q ↔ wp X d m18 0 [some (.int x2)] [] (K0, R0, I, L) (fun r w1 => wp X (d + 1) m76 19 [some (.ref 0), none, some (.int x2), some (.int x3), some (.ref q0), none] (r.toList ++ []) w1 Q) := (w_astore (pc' := 10) (ls' := [some (.ref 0), none, some (.int x2), some (.int x3), some (.ref q0), none]) c76_8 (Nat.le_of_ble_eq_true rfl) rfl rfl).trans ((w_aload (pc' := 12) c76_10 rfl rfl).trans ((w_ifnull (pc' := 15) c76_12 (k_lt hq0.1) rfl).trans ((w_iload_n (pc' := 16) c76_15 rfl rfl).trans ((w_callst (pc' := 19) c76_16 (by decide) mt18 rfl (Nat.le_of_ble_eq_true rfl) rfl rfl (Nat.le_of_ble_eq_true rfl) rfl rfl)))))
theorem b76_8_1 {X : Nat × (Nat → Int32)} {d : Nat} {I : Nat → Nat → Int32} {L : Nat → Nat → Int64} {Q : Option Value → XW → Prop} {x2 : Int32} {x3 : Int32}  : wp X d m76 8 [some (.ref 0), none, some (.int x2), some (.int x3), none, none] [.null] (K0, R0, I, L) Q ↔ Q (some (.int (-1))) (K0, R0, I, L) := (w_astoreN (pc' := 10) (ls' := [some (.ref 0), none, some (.int x2), some (.int x3), some .null, none]) c76_8 (Nat.le_of_ble_eq_true rfl) rfl rfl).trans ((w_aloadN (pc' := 12) c76_10 rfl rfl).trans ((w_ifnullN c76_12).trans ((w_iconst (pc' := 32) (v := (-1)) c76_31 rfl rfl).trans (w_iret c76_32 rfl))))
theorem b76_19 {X : Nat × (Nat → Int32)} {d : Nat} {I : Nat → Nat → Int32} {L : Nat → Nat → Int64} {Q : Option Value → XW → Prop} {x2 : Int32} {x3 : Int32} {r4 : Nat} {s0 : Int32} (hr4 : isCup r4) : wp X (d + 1) m76 19 [some (.ref 0), none, some (.int x2), some (.int x3), some (.ref r4), none] [(.int s0)] (K0, R0, I, L) Q ↔ (if s0 = 0 then Q (some (.int (-1))) (K0, R0, I, L) else (if x3 < 0 then Q (some (.int (-1))) (K0, R0, I, L) else (if 2 < x3 then Q (some (.int (-1))) (K0, R0, I, L) else wp X d m77 0 [some (.ref 0), some (.ref r4), some (.int x2)] [] (K0, R0, I, L) (fun r w1 => wp X (d + 1) m76 40 [some (.ref 0), none, none, some (.int x3), none, none] (r.toList ++ []) w1 Q)))) := (w_if_eq (pc' := 22) c76_19 rfl).trans (ite_iff ((w_iconst (pc' := 32) (v := (-1)) c76_31 rfl rfl).trans (w_iret c76_32 rfl)) ((w_iload_n (pc' := 23) c76_22 rfl rfl).trans ((w_if_lt (pc' := 26) c76_23 rfl).trans (ite_iff ((w_iconst (pc' := 32) (v := (-1)) c76_31 rfl rfl).trans (w_iret c76_32 rfl)) ((w_iload_n (pc' := 27) c76_26 rfl rfl).trans ((w_iconst (pc' := 28) (v := 2) c76_27 rfl rfl).trans ((w_icmp_le (pc' := 31) c76_28 rfl).trans (ite_iff ((w_iconst (pc' := 32) (v := (-1)) c76_31 rfl rfl).trans (w_iret c76_32 rfl)) ((w_aload_n (pc' := 34) c76_33 rfl rfl).trans ((w_aload (pc' := 36) c76_34 rfl rfl).trans ((w_iload_n (pc' := 37) c76_36 rfl rfl).trans ((w_callv (pc' := 40) c76_37 mt77 rfl (Nat.le_of_ble_eq_true rfl) rfl kd_0 rfl rfl (Nat.le_of_ble_eq_true rfl) rfl rfl).trans (wp_congr (fun r w1 => wp_msk lvok76 rfl))))))))))))))
theorem b76_40 {X : Nat × (Nat → Int32)} {d : Nat} {I : Nat → Nat → Int32} {L : Nat → Nat → Int64} {Q : Option Value → XW → Prop} {x3 : Int32} {s0 : Int32}  : wp X d m76 40 [some (.ref 0), none, none, some (.int x3), none, none] [(.int s0)] (K0, R0, I, L) Q ↔ Q (some (.int (if x3 = 0 then (I 72 3) else (if x3 = 1 then (I 72 4) else (if s0 = 0 then 1 else 0))))) (K0, R0, I, L) := (w_istore (pc' := 42) (ls' := [some (.ref 0), none, none, some (.int x3), none, some (.int s0)]) c76_40 (Nat.le_of_ble_eq_true rfl) rfl rfl).trans ((w_iload_n (pc' := 43) c76_42 rfl rfl).trans ((w_if_ne (pc' := 46) c76_43 rfl).trans ((ite_iff ((w_aload_n (pc' := 47) c76_46 rfl rfl).trans ((w_getR (pc' := 50) (q := 72) c76_47 kd_0 (by decide) rfl rd_0_8 rfl).trans ((w_getIv (pc' := 53) (v := (I 72 3)) c76_50 cup_72.1 (by decide) rfl (rfl) rfl).trans (w_iret c76_53 rfl)))) ((w_iload_n (pc' := 55) c76_54 rfl rfl).trans ((w_iconst (pc' := 56) (v := 1) c76_55 rfl rfl).trans ((w_icmp_ne (pc' := 59) c76_56 rfl).trans ((ite_iff ((w_aload_n (pc' := 60) c76_59 rfl rfl).trans ((w_getR (pc' := 63) (q := 72) c76_60 kd_0 (by decide) rfl rd_0_8 rfl).trans ((w_getIv (pc' := 66) (v := (I 72 4)) c76_63 cup_72.1 (by decide) rfl (rfl) rfl).trans (w_iret c76_66 rfl)))) ((w_iload (pc' := 69) c76_67 rfl rfl).trans ((w_if_eq (pc' := 72) c76_69 rfl).trans ((ite_iff ((w_iconst (pc' := 77) (v := 1) c76_76 rfl rfl).trans (w_iret c76_77 rfl)) ((w_iconst (pc' := 73) (v := 0) c76_72 rfl rfl).trans ((w_goto c76_73).trans (w_iret c76_77 rfl)))).trans (ite_val (fun z => Q (some (.int z)) (K0, R0, I, L))))))).trans (ite_val (fun z => Q (some (.int z)) (K0, R0, I, L)))))))).trans (ite_val (fun z => Q (some (.int z)) (K0, R0, I, L))))))
-- LeavesObject.wouldHear(LLeavesObject$Cup;I)Z
theorem c77_0 : cdx (mC m77) 0 = some (0, .aload_n 0, 1, 0, 0, 0, 0, []) := rfl
theorem c77_1 : cdx (mC m77) 1 = some (1, .getfield 45, 3, 9, 8, 0, 2007, []) := rfl
theorem c77_4 : cdx (mC m77) 4 = some (4, .aload_n 1, 1, 1, 0, 0, 0, []) := rfl
theorem c77_5 : cdx (mC m77) 5 = some (5, .invokevirtual 210, 3, 78, 1, 0, 3092, [(1, 0)]) := rfl
theorem c77_8 : cdx (mC m77) 8 = some (8, .aload_n 0, 1, 0, 0, 0, 0, []) := rfl
theorem c77_9 : cdx (mC m77) 9 = some (9, .getfield 45, 3, 9, 8, 0, 2007, []) := rfl
theorem c77_12 : cdx (mC m77) 12 = some (12, .iload_n 2, 1, 2, 0, 0, 0, []) := rfl
theorem c77_13 : cdx (mC m77) 13 = some (13, .aload_n 0, 1, 0, 0, 0, 0, []) := rfl
theorem c77_14 : cdx (mC m77) 14 = some (14, .getfield 12, 3, 9, 0, 0, 1239, []) := rfl
theorem c77_17 : cdx (mC m77) 17 = some (17, .getfield 102, 3, 5, 2, 0, 1104, []) := rfl
theorem c77_20 : cdx (mC m77) 20 = some (20, .aload_n 0, 1, 0, 0, 0, 0, []) := rfl
theorem c77_21 : cdx (mC m77) 21 = some (21, .invokevirtual 98, 3, 19, 0, 0, 2069, [(9, 0)]) := rfl
theorem c77_24 : cdx (mC m77) 24 = some (24, .invokevirtual 174, 3, 72, 3, 0, 3065, [(1, 0)]) := rfl
theorem c77_27 : cdx (mC m77) 27 = some (27, .ireturn, 1, 0, 0, 0, 0, []) := rfl
def lv77 : List (Nat × List Nat) := [(0, [0, 1, 2]), (1, [0, 1, 2]), (4, [0, 1, 2]), (5, [0, 2]), (8, [0, 2]), (9, [0, 2]), (12, [0, 2]), (13, [0]), (14, [0]), (17, [0]), (20, [0])]
theorem lvok77 : lvOk (mC m77) lv77 = true := by decide +kernel
theorem b77_0 {X : Nat × (Nat → Int32)} {d : Nat} {I : Nat → Nat → Int32} {L : Nat → Nat → Int64} {Q : Option Value → XW → Prop} {r1 : Nat} {x2 : Int32} (hr1 : isCup r1) : wp X (d + 1) m77 0 [some (.ref 0), some (.ref r1), some (.int x2)] [] (K0, R0, I, L) Q ↔ wp X d m78 0 [some (.ref 72), some (.ref r1)] [] (K0, R0, I, L) (fun r w1 => wp X (d + 1) m77 8 [some (.ref 0), none, some (.int x2)] (r.toList ++ []) w1 Q) := (w_aload_n (pc' := 1) c77_0 rfl rfl).trans ((w_getR (pc' := 4) (q := 72) c77_1 kd_0 (by decide) rfl rd_0_8 rfl).trans ((w_aload_n (pc' := 5) c77_4 rfl rfl).trans ((w_callv (pc' := 8) c77_5 mt78 rfl (Nat.le_of_ble_eq_true rfl) rfl cup_72.1 rfl rfl (Nat.le_of_ble_eq_true rfl) rfl rfl).trans (wp_congr (fun r w1 => wp_msk lvok77 rfl)))))
theorem b77_8 {X : Nat × (Nat → Int32)} {d : Nat} {I : Nat → Nat → Int32} {L : Nat → Nat → Int64} {Q : Option Value → XW → Prop} {x2 : Int32}  : wp X (d + 1) m77 8 [some (.ref 0), none, some (.int x2)] [] (K0, R0, I, L) Q ↔ wp X d m19 0 [some (.ref 0), none] [] (K0, R0, I, L) (fun r w1 => wp X (d + 1) m77 24 [none, none, none] (r.toList ++ [(.int (I 1 2)), (.int x2), (.ref 72)]) w1 Q) := (w_aload_n (pc' := 9) c77_8 rfl rfl).trans ((w_getR (pc' := 12) (q := 72) c77_9 kd_0 (by decide) rfl rd_0_8 rfl).trans ((w_iload_n (pc' := 13) c77_12 rfl rfl).trans ((w_aload_n (pc' := 14) c77_13 rfl rfl).trans ((w_getR (pc' := 17) (q := 1) c77_14 kd_0 (by decide) rfl rd_0_0 rfl).trans ((w_getIv (pc' := 20) (v := (I 1 2)) c77_17 tbl_1.1 (by decide) rfl (rfl) rfl).trans ((w_aload_n (pc' := 21) c77_20 rfl rfl).trans ((w_callv (pc' := 24) c77_21 mt19 rfl (Nat.le_of_ble_eq_true rfl) rfl kd_0 rfl rfl (Nat.le_of_ble_eq_true rfl) rfl rfl).trans (wp_congr (fun r w1 => wp_msk lvok77 rfl)))))))))
theorem b77_24 {X : Nat × (Nat → Int32)} {d : Nat} {I : Nat → Nat → Int32} {L : Nat → Nat → Int64} {Q : Option Value → XW → Prop} {s1 : Int32} {s2 : Int32} {q3 : Nat} (hq3 : isInn q3) : wp X (d + 1) m77 24 [none, none, none] [(.ref q3), (.int s2), (.int s1), (.ref 72)] (K0, R0, I, L) Q ↔ wp X d m72 0 [some (.ref 72), some (.int s1), some (.int s2), some (.ref q3)] [] (K0, R0, I, L) (fun r w1 => wp X (d + 1) m77 27 [none, none, none] (r.toList ++ []) w1 Q) := (w_callv (pc' := 27) c77_24 mt72 rfl (Nat.le_of_ble_eq_true rfl) rfl cup_72.1 rfl rfl (Nat.le_of_ble_eq_true rfl) rfl rfl)
theorem b77_27 {X : Nat × (Nat → Int32)} {d : Nat} {I : Nat → Nat → Int32} {L : Nat → Nat → Int64} {Q : Option Value → XW → Prop} {s0 : Int32}  : wp X d m77 27 [none, none, none] [(.int s0)] (K0, R0, I, L) Q ↔ (fits .boolean (.int s0) = true ∧ Q (some (.int s0)) (K0, R0, I, L)) := w_zret c77_27 rfl (by decide)
-- LeavesObject$Cup.becomeLike(LLeavesObject$Cup;)V
theorem c78_0 : cdx (mC m78) 0 = some (0, .aload_n 0, 1, 0, 0, 0, 0, []) := rfl
theorem c78_1 : cdx (mC m78) 1 = some (1, .aload_n 1, 1, 1, 0, 0, 0, []) := rfl
theorem c78_2 : cdx (mC m78) 2 = some (2, .getfield 15, 3, 1, 0, 0, 1062, []) := rfl
theorem c78_5 : cdx (mC m78) 5 = some (5, .putfield 15, 3, 1, 0, 0, 1062, []) := rfl
theorem c78_8 : cdx (mC m78) 8 = some (8, .aload_n 0, 1, 0, 0, 0, 0, []) := rfl
theorem c78_9 : cdx (mC m78) 9 = some (9, .aload_n 1, 1, 1, 0, 0, 0, []) := rfl
theorem c78_10 : cdx (mC m78) 10 = some (10, .getfield 19, 3, 1, 1, 0, 1066, []) := rfl
theorem c78_13 : cdx (mC m78) 13 = some (13, .putfield 19, 3, 1, 1, 0, 1066, []) := rfl
theorem c78_16 : cdx (mC m78) 16 = some (16, .aload_n 0, 1, 0, 0, 0, 0, []) := rfl
theorem c78_17 : cdx (mC m78) 17 = some (17, .aload_n 1, 1, 1, 0, 0, 0, []) := rfl
theorem c78_18 : cdx (mC m78) 18 = some (18, .getfield 22, 3, 1, 2, 0, 1070, []) := rfl
theorem c78_21 : cdx (mC m78) 21 = some (21, .putfield 22, 3, 1, 2, 0, 1070, []) := rfl
theorem c78_24 : cdx (mC m78) 24 = some (24, .aload_n 0, 1, 0, 0, 0, 0, []) := rfl
theorem c78_25 : cdx (mC m78) 25 = some (25, .aload_n 1, 1, 1, 0, 0, 0, []) := rfl
theorem c78_26 : cdx (mC m78) 26 = some (26, .getfield 25, 3, 1, 3, 0, 1075, []) := rfl
theorem c78_29 : cdx (mC m78) 29 = some (29, .putfield 25, 3, 1, 3, 0, 1075, []) := rfl
theorem c78_32 : cdx (mC m78) 32 = some (32, .aload_n 0, 1, 0, 0, 0, 0, []) := rfl
theorem c78_33 : cdx (mC m78) 33 = some (33, .aload_n 1, 1, 1, 0, 0, 0, []) := rfl
theorem c78_34 : cdx (mC m78) 34 = some (34, .getfield 28, 3, 1, 4, 0, 1079, []) := rfl
theorem c78_37 : cdx (mC m78) 37 = some (37, .putfield 28, 3, 1, 4, 0, 1079, []) := rfl
theorem c78_40 : cdx (mC m78) 40 = some (40, .aload_n 0, 1, 0, 0, 0, 0, []) := rfl
theorem c78_41 : cdx (mC m78) 41 = some (41, .aload_n 1, 1, 1, 0, 0, 0, []) := rfl
theorem c78_42 : cdx (mC m78) 42 = some (42, .getfield 31, 3, 1, 5, 0, 1083, []) := rfl
theorem c78_45 : cdx (mC m78) 45 = some (45, .putfield 31, 3, 1, 5, 0, 1083, []) := rfl
theorem c78_48 : cdx (mC m78) 48 = some (48, .aload_n 1, 1, 1, 0, 0, 0, []) := rfl
theorem c78_49 : cdx (mC m78) 49 = some (49, .getfield 9, 3, 1, 6, 0, 1085, []) := rfl
theorem c78_52 : cdx (mC m78) 52 = some (52, .iconst 0, 1, 0, 0, 0, 0, []) := rfl
theorem c78_53 : cdx (mC m78) 53 = some (53, .aload_n 0, 1, 0, 0, 0, 0, []) := rfl
theorem c78_54 : cdx (mC m78) 54 = some (54, .getfield 9, 3, 1, 6, 0, 1085, []) := rfl
theorem c78_57 : cdx (mC m78) 57 = some (57, .iconst 0, 1, 0, 0, 0, 0, []) := rfl
theorem c78_58 : cdx (mC m78) 58 = some (58, .iconst 4, 1, 0, 0, 0, 0, []) := rfl
theorem c78_59 : cdx (mC m78) 59 = some (59, .invokestatic 40, 3, 0, 5, 20, 3096, []) := rfl
theorem c78_62 : cdx (mC m78) 62 = some (62, .return_, 1, 0, 0, 0, 0, []) := rfl
theorem b78_0 {X : Nat × (Nat → Int32)} {d : Nat} {I : Nat → Nat → Int32} {L : Nat → Nat → Int64} {Q : Option Value → XW → Prop} {r0 : Nat} {r1 : Nat} (hr0 : isCup r0) (hr1 : isCup r1) : wp X d m78 0 [some (.ref r0), some (.ref r1)] [] (K0, R0, I, L) Q ↔ Q none (K0, R0, (cpyR (updR (updR (updR (updR (updR (updR I r0 0 (I r1 0)) r0 1 (I r1 1)) r0 2 (I r1 2)) r0 3 (I r1 3)) r0 4 (I r1 4)) r0 5 (I r1 5)) (r1 + 1) 0 (r0 + 1) 0 4), L) := (w_aload_n (pc' := 1) c78_0 rfl rfl).trans ((w_aload_n (pc' := 2) c78_1 rfl rfl).trans ((w_getIv (pc' := 5) (v := (I r1 0)) c78_2 hr1.1 (by decide) rfl (rfl) rfl).trans ((w_putI (pc' := 8) c78_5 hr0.1 (by decide) rfl rfl rfl).trans ((w_aload_n (pc' := 9) c78_8 rfl rfl).trans ((w_aload_n (pc' := 10) c78_9 rfl rfl).trans ((w_getIv (pc' := 13) (v := (I r1 1)) c78_10 hr1.1 (by decide) rfl ((updR_j (by decide)).trans (rfl)) rfl).trans ((w_putI (pc' := 16) c78_13 hr0.1 (by decide) rfl rfl rfl).trans ((w_aload_n (pc' := 17) c78_16 rfl rfl).trans ((w_aload_n (pc' := 18) c78_17 rfl rfl).trans ((w_getIv (pc' := 21) (v := (I r1 2)) c78_18 hr1.1 (by decide) rfl ((updR_j (by decide)).trans ((updR_j (by decide)).trans (rfl))) rfl).trans ((w_putI (pc' := 24) c78_21 hr0.1 (by decide) rfl rfl rfl).trans ((w_aload_n (pc' := 25) c78_24 rfl rfl).trans ((w_aload_n (pc' := 26) c78_25 rfl rfl).trans ((w_getIv (pc' := 29) (v := (I r1 3)) c78_26 hr1.1 (by decide) rfl ((updR_j (by decide)).trans ((updR_j (by decide)).trans ((updR_j (by decide)).trans (rfl)))) rfl).trans ((w_putI (pc' := 32) c78_29 hr0.1 (by decide) rfl rfl rfl).trans ((w_aload_n (pc' := 33) c78_32 rfl rfl).trans ((w_aload_n (pc' := 34) c78_33 rfl rfl).trans ((w_getIv (pc' := 37) (v := (I r1 4)) c78_34 hr1.1 (by decide) rfl ((updR_j (by decide)).trans ((updR_j (by decide)).trans ((updR_j (by decide)).trans ((updR_j (by decide)).trans (rfl))))) rfl).trans ((w_putI (pc' := 40) c78_37 hr0.1 (by decide) rfl rfl rfl).trans ((w_aload_n (pc' := 41) c78_40 rfl rfl).trans ((w_aload_n (pc' := 42) c78_41 rfl rfl).trans ((w_getIv (pc' := 45) (v := (I r1 5)) c78_42 hr1.1 (by decide) rfl ((updR_j (by decide)).trans ((updR_j (by decide)).trans ((updR_j (by decide)).trans ((updR_j (by decide)).trans ((updR_j (by decide)).trans (rfl)))))) rfl).trans ((w_putI (pc' := 48) c78_45 hr0.1 (by decide) rfl rfl rfl).trans ((w_aload_n (pc' := 49) c78_48 rfl rfl).trans ((w_getR (pc' := 52) (q := (r1 + 1)) c78_49 hr1.1 (by decide) rfl hr1.2.1 rfl).trans ((w_iconst (pc' := 53) (v := 0) c78_52 rfl rfl).trans ((w_aload_n (pc' := 54) c78_53 rfl rfl).trans ((w_getR (pc' := 57) (q := (r0 + 1)) c78_54 hr0.1 (by decide) rfl hr0.2.1 rfl).trans ((w_iconst (pc' := 58) (v := 0) c78_57 rfl rfl).trans ((w_iconst (pc' := 59) (v := 4) c78_58 rfl rfl).trans (((w_copy_i (pc' := 62) c78_59 hr1.2.2 hr0.2.2 rfl rfl).trans (and_iff_right (by decide))).trans (w_vret c78_62 rfl))))))))))))))))))))))))))))))))
-- LeavesObject.comes(III)I
theorem c79_0 : cdx (mC m79) 0 = some (0, .aload_n 0, 1, 0, 0, 0, 0, []) := rfl
theorem c79_1 : cdx (mC m79) 1 = some (1, .getfield 12, 3, 9, 0, 0, 1239, []) := rfl
theorem c79_4 : cdx (mC m79) 4 = some (4, .iload_n 1, 1, 1, 0, 0, 0, []) := rfl
theorem c79_5 : cdx (mC m79) 5 = some (5, .invokevirtual 92, 3, 17, 1, 0, 2061, [(5, 0)]) := rfl
theorem c79_8 : cdx (mC m79) 8 = some (8, .astore 4, 2, 4, 0, 0, 0, []) := rfl
theorem c79_10 : cdx (mC m79) 10 = some (10, .aload 4, 2, 4, 0, 0, 0, []) := rfl
theorem c79_12 : cdx (mC m79) 12 = some (12, .ifnull 13, 3, 25, 0, 0, 0, []) := rfl
theorem c79_15 : cdx (mC m79) 15 = some (15, .iload_n 3, 1, 3, 0, 0, 0, []) := rfl
theorem c79_16 : cdx (mC m79) 16 = some (16, .iconst (-1), 1, 0, 0, 0, 0, []) := rfl
theorem c79_17 : cdx (mC m79) 17 = some (17, .if_icmp .lt 8, 3, 25, 0, 0, 0, []) := rfl
theorem c79_20 : cdx (mC m79) 20 = some (20, .iload_n 3, 1, 3, 0, 0, 0, []) := rfl
theorem c79_21 : cdx (mC m79) 21 = some (21, .iconst 4, 1, 0, 0, 0, 0, []) := rfl
theorem c79_22 : cdx (mC m79) 22 = some (22, .if_icmp .lt 5, 3, 27, 0, 0, 0, []) := rfl
theorem c79_25 : cdx (mC m79) 25 = some (25, .iconst (-1), 1, 0, 0, 0, 0, []) := rfl
theorem c79_26 : cdx (mC m79) 26 = some (26, .ireturn, 1, 0, 0, 0, 0, []) := rfl
theorem c79_27 : cdx (mC m79) 27 = some (27, .iload_n 2, 1, 2, 0, 0, 0, []) := rfl
theorem c79_28 : cdx (mC m79) 28 = some (28, .invokestatic 74, 3, 12, 1, 4, 2043, []) := rfl
theorem c79_31 : cdx (mC m79) 31 = some (31, .ifCond .ne 6, 3, 37, 0, 0, 0, []) := rfl
theorem c79_34 : cdx (mC m79) 34 = some (34, .bipush (-2), 2, 0, 0, 0, 0, []) := rfl
theorem c79_36 : cdx (mC m79) 36 = some (36, .ireturn, 1, 0, 0, 0, 0, []) := rfl
theorem c79_37 : cdx (mC m79) 37 = some (37, .aload_n 0, 1, 0, 0, 0, 0, []) := rfl
theorem c79_38 : cdx (mC m79) 38 = some (38, .getfield 52, 3, 9, 9, 0, 2008, []) := rfl
theorem c79_41 : cdx (mC m79) 41 = some (41, .aload 4, 2, 4, 0, 0, 0, []) := rfl
theorem c79_43 : cdx (mC m79) 43 = some (43, .iconst 4, 1, 0, 0, 0, 0, []) := rfl
theorem c79_44 : cdx (mC m79) 44 = some (44, .aload_n 0, 1, 0, 0, 0, 0, []) := rfl
theorem c79_45 : cdx (mC m79) 45 = some (45, .getfield 12, 3, 9, 0, 0, 1239, []) := rfl
theorem c79_48 : cdx (mC m79) 48 = some (48, .getfield 102, 3, 5, 2, 0, 1104, []) := rfl
theorem c79_51 : cdx (mC m79) 51 = some (51, .aload_n 0, 1, 0, 0, 0, 0, []) := rfl
theorem c79_52 : cdx (mC m79) 52 = some (52, .invokevirtual 98, 3, 19, 0, 0, 2069, [(9, 0)]) := rfl
theorem c79_55 : cdx (mC m79) 55 = some (55, .invokevirtual 185, 3, 80, 4, 0, 3103, [(8, 0)]) := rfl
theorem c79_58 : cdx (mC m79) 58 = some (58, .aload_n 0, 1, 0, 0, 0, 0, []) := rfl
theorem c79_59 : cdx (mC m79) 59 = some (59, .getfield 52, 3, 9, 9, 0, 2008, []) := rfl
theorem c79_62 : cdx (mC m79) 62 = some (62, .iload_n 2, 1, 2, 0, 0, 0, []) := rfl
theorem c79_63 : cdx (mC m79) 63 = some (63, .invokevirtual 189, 3, 83, 1, 0, 3118, [(8, 0)]) := rfl
theorem c79_66 : cdx (mC m79) 66 = some (66, .istore 5, 2, 5, 0, 0, 0, []) := rfl
theorem c79_68 : cdx (mC m79) 68 = some (68, .iload 5, 2, 5, 0, 0, 0, []) := rfl
theorem c79_70 : cdx (mC m79) 70 = some (70, .ifCond .ge 6, 3, 76, 0, 0, 0, []) := rfl
theorem c79_73 : cdx (mC m79) 73 = some (73, .bipush (-5), 2, 0, 0, 0, 0, []) := rfl
theorem c79_75 : cdx (mC m79) 75 = some (75, .ireturn, 1, 0, 0, 0, 0, []) := rfl
theorem c79_76 : cdx (mC m79) 76 = some (76, .iload_n 3, 1, 3, 0, 0, 0, []) := rfl
theorem c79_77 : cdx (mC m79) 77 = some (77, .ifCond .ge 15, 3, 92, 0, 0, 0, []) := rfl
theorem c79_80 : cdx (mC m79) 80 = some (80, .aload_n 0, 1, 0, 0, 0, 0, []) := rfl
theorem c79_81 : cdx (mC m79) 81 = some (81, .getfield 52, 3, 9, 9, 0, 2008, []) := rfl
theorem c79_84 : cdx (mC m79) 84 = some (84, .iload 5, 2, 5, 0, 0, 0, []) := rfl
theorem c79_86 : cdx (mC m79) 86 = some (86, .invokevirtual 192, 3, 84, 1, 0, 3122, [(8, 0)]) := rfl
theorem c79_89 : cdx (mC m79) 89 = some (89, .goto 13, 3, 102, 0, 0, 0, []) := rfl
theorem c79_92 : cdx (mC m79) 92 = some (92, .aload_n 0, 1, 0, 0, 0, 0, []) := rfl
theorem c79_93 : cdx (mC m79) 93 = some (93, .getfield 52, 3, 9, 9, 0, 2008, []) := rfl
theorem c79_96 : cdx (mC m79) 96 = some (96, .iload 5, 2, 5, 0, 0, 0, []) := rfl
theorem c79_98 : cdx (mC m79) 98 = some (98, .iload_n 3, 1, 3, 0, 0, 0, []) := rfl
theorem c79_99 : cdx (mC m79) 99 = some (99, .invokevirtual 195, 3, 85, 2, 0, 3126, [(8, 0)]) := rfl
theorem c79_102 : cdx (mC m79) 102 = some (102, .ireturn, 1, 0, 0, 0, 0, []) := rfl
def lv79 : List (Nat × List Nat) := [(0, [0, 1, 2, 3]), (1, [0, 1, 2, 3]), (4, [0, 1, 2, 3]), (5, [0, 2, 3]), (8, [0, 2, 3]), (10, [0, 2, 3, 4]), (12, [0, 2, 3, 4]), (15, [0, 2, 3, 4]), (16, [0, 2, 3, 4]), (17, [0, 2, 3, 4]), (20, [0, 2, 3, 4]), (21, [0, 2, 3, 4]), (22, [0, 2, 3, 4]), (27, [0, 2, 3, 4]), (28, [0, 2, 3, 4]), (31, [0, 2, 3, 4]), (37, [0, 2, 3, 4]), (38, [0, 2, 3, 4]), (41, [0, 2, 3, 4]), (43, [0, 2, 3]), (44, [0, 2, 3]), (45, [0, 2, 3]), (48, [0, 2, 3]), (51, [0, 2, 3]), (52, [0, 2, 3]), (55, [0, 2, 3]), (58, [0, 2, 3]), (59, [0, 2, 3]), (62, [0, 2, 3]), (63, [0, 3]), (66, [0, 3]), (68, [0, 3, 5]), (70, [0, 3, 5]), (76, [0, 3, 5]), (77, [0, 3, 5]), (80, [0, 5]), (81, [5]), (84, [5]), (92, [0, 3, 5]), (93, [3, 5]), (96, [3, 5]), (98, [3])]
theorem lvok79 : lvOk (mC m79) lv79 = true := by decide +kernel
theorem b79_0 {X : Nat × (Nat → Int32)} {d : Nat} {I : Nat → Nat → Int32} {L : Nat → Nat → Int64} {Q : Option Value → XW → Prop} {x1 : Int32} {x2 : Int32} {x3 : Int32}  : wp X (d + 1) m79 0 [some (.ref 0), some (.int x1), some (.int x2), some (.int x3), none, none] [] (K0, R0, I, L) Q ↔ wp X d m17 0 [some (.ref 1), some (.int x1)] [] (K0, R0, I, L) (fun r w1 => wp X (d + 1) m79 8 [some (.ref 0), none, some (.int x2), some (.int x3), none, none] (r.toList ++ []) w1 Q) := (w_aload_n (pc' := 1) c79_0 rfl rfl).trans ((w_getR (pc' := 4) (q := 1) c79_1 kd_0 (by decide) rfl rd_0_0 rfl).trans ((w_iload_n (pc' := 5) c79_4 rfl rfl).trans ((w_callv (pc' := 8) c79_5 mt17 rfl (Nat.le_of_ble_eq_true rfl) rfl tbl_1.1 rfl rfl (Nat.le_of_ble_eq_true rfl) rfl rfl).trans (wp_congr (fun r w1 => wp_msk lvok79 rfl)))))
theorem b79_8 {X : Nat × (Nat → Int32)} {d : Nat} {I : Nat → Nat → Int32} {L : Nat → Nat → Int64} {Q : Option Value → XW → Prop} {x2 : Int32} {x3 : Int32} {q0 : Nat} (hq0 : isCup q0) : wp X (d + 1) m79 8 [some (.ref 0), none, some (.int x2), some (.int x3), none, none] [(.ref q0)] (K0, R0, I, L) Q ↔ (if x3 < (-1) then Q (some (.int (-1))) (K0, R0, I, L) else (if x3 < 4 then wp X d m12 0 [some (.int x2)] [] (K0, R0, I, L) (fun r w1 => wp X (d + 1) m79 31 [some (.ref 0), none, some (.int x2), some (.int x3), some (.ref q0), none] (r.toList ++ []) w1 Q) else Q (some (.int (-1))) (K0, R0, I, L))) := (w_astore (pc' := 10) (ls' := [some (.ref 0), none, some (.int x2), some (.int x3), some (.ref q0), none]) c79_8 (Nat.le_of_ble_eq_true rfl) rfl rfl).trans ((w_aload (pc' := 12) c79_10 rfl rfl).trans ((w_ifnull (pc' := 15) c79_12 (k_lt hq0.1) rfl).trans ((w_iload_n (pc' := 16) c79_15 rfl rfl).trans ((w_iconst (pc' := 17) (v := (-1)) c79_16 rfl rfl).trans ((w_icmp_lt (pc' := 20) c79_17 rfl).trans (ite_iff ((w_iconst (pc' := 26) (v := (-1)) c79_25 rfl rfl).trans (w_iret c79_26 rfl)) ((w_iload_n (pc' := 21) c79_20 rfl rfl).trans ((w_iconst (pc' := 22) (v := 4) c79_21 rfl rfl).trans ((w_icmp_lt (pc' := 25) c79_22 rfl).trans (ite_iff ((w_iload_n (pc' := 28) c79_27 rfl rfl).trans ((w_callst (pc' := 31) c79_28 (by decide) mt12 rfl (Nat.le_of_ble_eq_true rfl) rfl rfl (Nat.le_of_ble_eq_true rfl) rfl rfl))) ((w_iconst (pc' := 26) (v := (-1)) c79_25 rfl rfl).trans (w_iret c79_26 rfl))))))))))))
theorem b79_8_1 {X : Nat × (Nat → Int32)} {d : Nat} {I : Nat → Nat → Int32} {L : Nat → Nat → Int64} {Q : Option Value → XW → Prop} {x2 : Int32} {x3 : Int32}  : wp X d m79 8 [some (.ref 0), none, some (.int x2), some (.int x3), none, none] [.null] (K0, R0, I, L) Q ↔ Q (some (.int (-1))) (K0, R0, I, L) := (w_astoreN (pc' := 10) (ls' := [some (.ref 0), none, some (.int x2), some (.int x3), some .null, none]) c79_8 (Nat.le_of_ble_eq_true rfl) rfl rfl).trans ((w_aloadN (pc' := 12) c79_10 rfl rfl).trans ((w_ifnullN c79_12).trans ((w_iconst (pc' := 26) (v := (-1)) c79_25 rfl rfl).trans (w_iret c79_26 rfl))))
theorem b79_31 {X : Nat × (Nat → Int32)} {d : Nat} {I : Nat → Nat → Int32} {L : Nat → Nat → Int64} {Q : Option Value → XW → Prop} {x2 : Int32} {x3 : Int32} {r4 : Nat} {s0 : Int32} (hr4 : isCup r4) : wp X (d + 1) m79 31 [some (.ref 0), none, some (.int x2), some (.int x3), some (.ref r4), none] [(.int s0)] (K0, R0, I, L) Q ↔ (if s0 = 0 then Q (some (.int (-2))) (K0, R0, I, L) else wp X d m19 0 [some (.ref 0), none] [] (K0, R0, I, L) (fun r w1 => wp X (d + 1) m79 55 [some (.ref 0), none, some (.int x2), some (.int x3), none, none] (r.toList ++ [(.int (I 1 2)), (.int 4), (.ref r4), (.ref 74)]) w1 Q)) := (w_if_ne (pc' := 34) c79_31 rfl).trans (ite_iff ((w_bipush (pc' := 36) (v := (-2)) c79_34 rfl rfl).trans (w_iret c79_36 rfl)) ((w_aload_n (pc' := 38) c79_37 rfl rfl).trans ((w_getR (pc' := 41) (q := 74) c79_38 kd_0 (by decide) rfl rd_0_9 rfl).trans ((w_aload (pc' := 43) c79_41 rfl rfl).trans ((w_iconst (pc' := 44) (v := 4) c79_43 rfl rfl).trans ((w_aload_n (pc' := 45) c79_44 rfl rfl).trans ((w_getR (pc' := 48) (q := 1) c79_45 kd_0 (by decide) rfl rd_0_0 rfl).trans ((w_getIv (pc' := 51) (v := (I 1 2)) c79_48 tbl_1.1 (by decide) rfl (rfl) rfl).trans ((w_aload_n (pc' := 52) c79_51 rfl rfl).trans ((w_callv (pc' := 55) c79_52 mt19 rfl (Nat.le_of_ble_eq_true rfl) rfl kd_0 rfl rfl (Nat.le_of_ble_eq_true rfl) rfl rfl).trans (wp_congr (fun r w1 => wp_msk lvok79 rfl))))))))))))
theorem b79_55 {X : Nat × (Nat → Int32)} {d : Nat} {I : Nat → Nat → Int32} {L : Nat → Nat → Int64} {Q : Option Value → XW → Prop} {x2 : Int32} {x3 : Int32} {q1 : Nat} {s2 : Int32} {s3 : Int32} {q4 : Nat} (hq1 : isCup q1) (hq4 : isInn q4) : wp X (d + 1) m79 55 [some (.ref 0), none, some (.int x2), some (.int x3), none, none] [(.ref q4), (.int s3), (.int s2), (.ref q1), (.ref 74)] (K0, R0, I, L) Q ↔ wp X d m80 0 [some (.ref 74), some (.ref q1), some (.int s2), some (.int s3), some (.ref q4), none, none, none] [] (K0, R0, I, L) (fun r w1 => wp X (d + 1) m79 58 [some (.ref 0), none, some (.int x2), some (.int x3), none, none] (r.toList ++ []) w1 Q) := (w_callv (pc' := 58) c79_55 mt80 rfl (Nat.le_of_ble_eq_true rfl) rfl kd_74 rfl rfl (Nat.le_of_ble_eq_true rfl) rfl rfl)
theorem b79_58 {X : Nat × (Nat → Int32)} {d : Nat} {I : Nat → Nat → Int32} {L : Nat → Nat → Int64} {Q : Option Value → XW → Prop} {x2 : Int32} {x3 : Int32}  : wp X (d + 1) m79 58 [some (.ref 0), none, some (.int x2), some (.int x3), none, none] [] (K0, R0, I, L) Q ↔ wp X d m83 0 [some (.ref 74), some (.int x2), none] [] (K0, R0, I, L) (fun r w1 => wp X (d + 1) m79 66 [some (.ref 0), none, none, some (.int x3), none, none] (r.toList ++ []) w1 Q) := (w_aload_n (pc' := 59) c79_58 rfl rfl).trans ((w_getR (pc' := 62) (q := 74) c79_59 kd_0 (by decide) rfl rd_0_9 rfl).trans ((w_iload_n (pc' := 63) c79_62 rfl rfl).trans ((w_callv (pc' := 66) c79_63 mt83 rfl (Nat.le_of_ble_eq_true rfl) rfl kd_74 rfl rfl (Nat.le_of_ble_eq_true rfl) rfl rfl).trans (wp_congr (fun r w1 => wp_msk lvok79 rfl)))))
theorem b79_66 {X : Nat × (Nat → Int32)} {d : Nat} {I : Nat → Nat → Int32} {L : Nat → Nat → Int64} {Q : Option Value → XW → Prop} {x3 : Int32} {s0 : Int32}  : wp X (d + 1) m79 66 [some (.ref 0), none, none, some (.int x3), none, none] [(.int s0)] (K0, R0, I, L) Q ↔ (if s0 < 0 then Q (some (.int (-5))) (K0, R0, I, L) else (if x3 < 0 then wp X d m84 0 [some (.ref 74), some (.int s0), none] [] (K0, R0, I, L) (fun r w1 => wp X (d + 1) m79 89 [none, none, none, none, none, none] (r.toList ++ []) w1 Q) else wp X d m85 0 [some (.ref 74), some (.int s0), some (.int x3), none, none, none] [] (K0, R0, I, L) (fun r w1 => wp X (d + 1) m79 102 [none, none, none, none, none, none] (r.toList ++ []) w1 Q))) := (w_istore (pc' := 68) (ls' := [some (.ref 0), none, none, some (.int x3), none, some (.int s0)]) c79_66 (Nat.le_of_ble_eq_true rfl) rfl rfl).trans ((w_iload (pc' := 70) c79_68 rfl rfl).trans ((w_if_ge (pc' := 73) c79_70 rfl).trans (ite_iff ((w_bipush (pc' := 75) (v := (-5)) c79_73 rfl rfl).trans (w_iret c79_75 rfl)) ((w_iload_n (pc' := 77) c79_76 rfl rfl).trans ((w_if_ge (pc' := 80) c79_77 rfl).trans (ite_iff ((w_aload_n (pc' := 81) c79_80 rfl rfl).trans ((w_getR (pc' := 84) (q := 74) c79_81 kd_0 (by decide) rfl rd_0_9 rfl).trans ((w_iload (pc' := 86) c79_84 rfl rfl).trans ((w_callv (pc' := 89) c79_86 mt84 rfl (Nat.le_of_ble_eq_true rfl) rfl kd_74 rfl rfl (Nat.le_of_ble_eq_true rfl) rfl rfl).trans (wp_congr (fun r w1 => wp_msk lvok79 rfl)))))) ((w_aload_n (pc' := 93) c79_92 rfl rfl).trans ((w_getR (pc' := 96) (q := 74) c79_93 kd_0 (by decide) rfl rd_0_9 rfl).trans ((w_iload (pc' := 98) c79_96 rfl rfl).trans ((w_iload_n (pc' := 99) c79_98 rfl rfl).trans ((w_callv (pc' := 102) c79_99 mt85 rfl (Nat.le_of_ble_eq_true rfl) rfl kd_74 rfl rfl (Nat.le_of_ble_eq_true rfl) rfl rfl).trans (wp_congr (fun r w1 => wp_msk lvok79 rfl)))))))))))))
theorem b79_89 {X : Nat × (Nat → Int32)} {d : Nat} {I : Nat → Nat → Int32} {L : Nat → Nat → Int64} {Q : Option Value → XW → Prop} {s0 : Int32}  : wp X d m79 89 [none, none, none, none, none, none] [(.int s0)] (K0, R0, I, L) Q ↔ wp X d m79 102 [none, none, none, none, none, none] [(.int s0)] (K0, R0, I, L) Q := (w_goto c79_89)
theorem b79_102 {X : Nat × (Nat → Int32)} {d : Nat} {I : Nat → Nat → Int32} {L : Nat → Nat → Int64} {Q : Option Value → XW → Prop} {s0 : Int32}  : wp X d m79 102 [none, none, none, none, none, none] [(.int s0)] (K0, R0, I, L) Q ↔ Q (some (.int s0)) (K0, R0, I, L) := w_iret c79_102 rfl
