/-! What leaves do, for all 4096 ways they lie: decided one by one. -/
theorem dec_bits : (List.range 4096).all (fun x => decide (bitsI (nI x) = nI (pop x) ∧ pop x ≤ 12)) = true := by decide +kernel
theorem dec_bc : (List.range 4096).all (fun x => decide (bcI (nI x) = nI (pop x))) = true := by decide +kernel
theorem dec_mir : (List.range 4096).all (fun x => decide (mirM (nI x) = mirI (nI x))) = true := by decide +kernel
theorem dec_f0 : (List.range 4096).all (fun x => decide (plainM (nI x) 0 0 = forthI 0 (nI x) ∧ 0 ≤ forthI 0 (nI x) ∧ forthI 0 (nI x) ≤ 4095)) = true := by decide +kernel
theorem dec_b0 : (List.range 4096).all (fun x => decide (plainM (nI x) 0 1 = backI 0 (nI x) ∧ 0 ≤ backI 0 (nI x) ∧ backI 0 (nI x) ≤ 4095)) = true := by decide +kernel
theorem dec_f2 : (List.range 4096).all (fun x => decide (plainM (nI x) 2 0 = forthI 2 (nI x) ∧ 0 ≤ forthI 2 (nI x) ∧ forthI 2 (nI x) ≤ 4095)) = true := by decide +kernel
theorem dec_b2 : (List.range 4096).all (fun x => decide (plainM (nI x) 2 1 = backI 2 (nI x) ∧ 0 ≤ backI 2 (nI x) ∧ backI 2 (nI x) ≤ 4095)) = true := by decide +kernel
theorem dec_f3 : (List.range 4096).all (fun x => decide (plainM (nI x) 3 0 = forthI 3 (nI x) ∧ 0 ≤ forthI 3 (nI x) ∧ forthI 3 (nI x) ≤ 4095)) = true := by decide +kernel
theorem dec_b3 : (List.range 4096).all (fun x => decide (plainM (nI x) 3 1 = backI 3 (nI x) ∧ 0 ≤ backI 3 (nI x) ∧ backI 3 (nI x) ≤ 4095)) = true := by decide +kernel
theorem all_at {p : Nat → Bool} (h : (List.range 4096).all p = true) {x : Nat} (hx : x ≤ 4095) : p x = true := List.all_eq_true.mp h x (List.mem_range.mpr (by omega))
