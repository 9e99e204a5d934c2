theorem gt0_0 : (List.range 40).all (fun j => match gc0 (40 * 0 + j) with | some op => gck 0 (40 * 0 + j) op (gp0 (40 * 0 + j)) | none => true) = true := by decide +kernel
theorem gt0_1 : (List.range 40).all (fun j => match gc0 (40 * 1 + j) with | some op => gck 0 (40 * 1 + j) op (gp0 (40 * 1 + j)) | none => true) = true := by decide +kernel
theorem gt0_2 : (List.range 40).all (fun j => match gc0 (40 * 2 + j) with | some op => gck 0 (40 * 2 + j) op (gp0 (40 * 2 + j)) | none => true) = true := by decide +kernel
theorem gt0_3 : (List.range 40).all (fun j => match gc0 (40 * 3 + j) with | some op => gck 0 (40 * 3 + j) op (gp0 (40 * 3 + j)) | none => true) = true := by decide +kernel
theorem gt0_4 : (List.range 40).all (fun j => match gc0 (40 * 4 + j) with | some op => gck 0 (40 * 4 + j) op (gp0 (40 * 4 + j)) | none => true) = true := by decide +kernel
theorem gt0_5 : (List.range 40).all (fun j => match gc0 (40 * 5 + j) with | some op => gck 0 (40 * 5 + j) op (gp0 (40 * 5 + j)) | none => true) = true := by decide +kernel
theorem gt0_6 : (List.range 40).all (fun j => match gc0 (40 * 6 + j) with | some op => gck 0 (40 * 6 + j) op (gp0 (40 * 6 + j)) | none => true) = true := by decide +kernel
theorem gt0_7 : (List.range 40).all (fun j => match gc0 (40 * 7 + j) with | some op => gck 0 (40 * 7 + j) op (gp0 (40 * 7 + j)) | none => true) = true := by decide +kernel
theorem gt0_8 : (List.range 40).all (fun j => match gc0 (40 * 8 + j) with | some op => gck 0 (40 * 8 + j) op (gp0 (40 * 8 + j)) | none => true) = true := by decide +kernel
theorem gt0_9 : (List.range 40).all (fun j => match gc0 (40 * 9 + j) with | some op => gck 0 (40 * 9 + j) op (gp0 (40 * 9 + j)) | none => true) = true := by decide +kernel
theorem gt0_10 : (List.range 40).all (fun j => match gc0 (40 * 10 + j) with | some op => gck 0 (40 * 10 + j) op (gp0 (40 * 10 + j)) | none => true) = true := by decide +kernel
theorem gt0_11 : (List.range 40).all (fun j => match gc0 (40 * 11 + j) with | some op => gck 0 (40 * 11 + j) op (gp0 (40 * 11 + j)) | none => true) = true := by decide +kernel
theorem gt0_12 : (List.range 40).all (fun j => match gc0 (40 * 12 + j) with | some op => gck 0 (40 * 12 + j) op (gp0 (40 * 12 + j)) | none => true) = true := by decide +kernel
theorem gt0_13 : (List.range 40).all (fun j => match gc0 (40 * 13 + j) with | some op => gck 0 (40 * 13 + j) op (gp0 (40 * 13 + j)) | none => true) = true := by decide +kernel
theorem gt0_14 : (List.range 40).all (fun j => match gc0 (40 * 14 + j) with | some op => gck 0 (40 * 14 + j) op (gp0 (40 * 14 + j)) | none => true) = true := by decide +kernel
theorem gt0_15 : (List.range 40).all (fun j => match gc0 (40 * 15 + j) with | some op => gck 0 (40 * 15 + j) op (gp0 (40 * 15 + j)) | none => true) = true := by decide +kernel
theorem gt0_16 : (List.range 40).all (fun j => match gc0 (40 * 16 + j) with | some op => gck 0 (40 * 16 + j) op (gp0 (40 * 16 + j)) | none => true) = true := by decide +kernel
theorem gt0_17 : (List.range 40).all (fun j => match gc0 (40 * 17 + j) with | some op => gck 0 (40 * 17 + j) op (gp0 (40 * 17 + j)) | none => true) = true := by decide +kernel
theorem gt0_18 : (List.range 40).all (fun j => match gc0 (40 * 18 + j) with | some op => gck 0 (40 * 18 + j) op (gp0 (40 * 18 + j)) | none => true) = true := by decide +kernel
theorem gt0_19 : (List.range 40).all (fun j => match gc0 (40 * 19 + j) with | some op => gck 0 (40 * 19 + j) op (gp0 (40 * 19 + j)) | none => true) = true := by decide +kernel
theorem gt0_20 : (List.range 40).all (fun j => match gc0 (40 * 20 + j) with | some op => gck 0 (40 * 20 + j) op (gp0 (40 * 20 + j)) | none => true) = true := by decide +kernel
theorem gt0_21 : (List.range 40).all (fun j => match gc0 (40 * 21 + j) with | some op => gck 0 (40 * 21 + j) op (gp0 (40 * 21 + j)) | none => true) = true := by decide +kernel
theorem gt0_22 : (List.range 40).all (fun j => match gc0 (40 * 22 + j) with | some op => gck 0 (40 * 22 + j) op (gp0 (40 * 22 + j)) | none => true) = true := by decide +kernel
theorem gt0_23 : (List.range 40).all (fun j => match gc0 (40 * 23 + j) with | some op => gck 0 (40 * 23 + j) op (gp0 (40 * 23 + j)) | none => true) = true := by decide +kernel
theorem gt0_24 : (List.range 40).all (fun j => match gc0 (40 * 24 + j) with | some op => gck 0 (40 * 24 + j) op (gp0 (40 * 24 + j)) | none => true) = true := by decide +kernel
theorem gk0 : ∀ (pc : Nat) (op : gOp), gpr 0 pc = some op → gOk 0 pc op := gprk (len := 961) (nc := 25) (c := gc0) (q := gp0) (fun _ => rfl) (by decide) fun k hk => by
  rcases Nat.lt_or_ge k 12 with h0_25 | h0_25
  · skip
    rcases Nat.lt_or_ge k 6 with h0_12 | h0_12
    · skip
      rcases Nat.lt_or_ge k 3 with h0_6 | h0_6
      · skip
        rcases Nat.lt_or_ge k 1 with h0_3 | h0_3
        · skip
          obtain rfl : k = 0 := by omega
          exact gt0_0
        · skip
          rcases Nat.lt_or_ge k 2 with h1_3 | h1_3
          · skip
            obtain rfl : k = 1 := by omega
            exact gt0_1
          · skip
            obtain rfl : k = 2 := by omega
            exact gt0_2
      · skip
        rcases Nat.lt_or_ge k 4 with h3_6 | h3_6
        · skip
          obtain rfl : k = 3 := by omega
          exact gt0_3
        · skip
          rcases Nat.lt_or_ge k 5 with h4_6 | h4_6
          · skip
            obtain rfl : k = 4 := by omega
            exact gt0_4
          · skip
            obtain rfl : k = 5 := by omega
            exact gt0_5
    · skip
      rcases Nat.lt_or_ge k 9 with h6_12 | h6_12
      · skip
        rcases Nat.lt_or_ge k 7 with h6_9 | h6_9
        · skip
          obtain rfl : k = 6 := by omega
          exact gt0_6
        · skip
          rcases Nat.lt_or_ge k 8 with h7_9 | h7_9
          · skip
            obtain rfl : k = 7 := by omega
            exact gt0_7
          · skip
            obtain rfl : k = 8 := by omega
            exact gt0_8
      · skip
        rcases Nat.lt_or_ge k 10 with h9_12 | h9_12
        · skip
          obtain rfl : k = 9 := by omega
          exact gt0_9
        · skip
          rcases Nat.lt_or_ge k 11 with h10_12 | h10_12
          · skip
            obtain rfl : k = 10 := by omega
            exact gt0_10
          · skip
            obtain rfl : k = 11 := by omega
            exact gt0_11
  · skip
    rcases Nat.lt_or_ge k 18 with h12_25 | h12_25
    · skip
      rcases Nat.lt_or_ge k 15 with h12_18 | h12_18
      · skip
        rcases Nat.lt_or_ge k 13 with h12_15 | h12_15
        · skip
          obtain rfl : k = 12 := by omega
          exact gt0_12
        · skip
          rcases Nat.lt_or_ge k 14 with h13_15 | h13_15
          · skip
            obtain rfl : k = 13 := by omega
            exact gt0_13
          · skip
            obtain rfl : k = 14 := by omega
            exact gt0_14
      · skip
        rcases Nat.lt_or_ge k 16 with h15_18 | h15_18
        · skip
          obtain rfl : k = 15 := by omega
          exact gt0_15
        · skip
          rcases Nat.lt_or_ge k 17 with h16_18 | h16_18
          · skip
            obtain rfl : k = 16 := by omega
            exact gt0_16
          · skip
            obtain rfl : k = 17 := by omega
            exact gt0_17
    · skip
      rcases Nat.lt_or_ge k 21 with h18_25 | h18_25
      · skip
        rcases Nat.lt_or_ge k 19 with h18_21 | h18_21
        · skip
          obtain rfl : k = 18 := by omega
          exact gt0_18
        · skip
          rcases Nat.lt_or_ge k 20 with h19_21 | h19_21
          · skip
            obtain rfl : k = 19 := by omega
            exact gt0_19
          · skip
            obtain rfl : k = 20 := by omega
            exact gt0_20
      · skip
        rcases Nat.lt_or_ge k 23 with h21_25 | h21_25
        · skip
          rcases Nat.lt_or_ge k 22 with h21_23 | h21_23
          · skip
            obtain rfl : k = 21 := by omega
            exact gt0_21
          · skip
            obtain rfl : k = 22 := by omega
            exact gt0_22
        · skip
          rcases Nat.lt_or_ge k 24 with h23_25 | h23_25
          · skip
            obtain rfl : k = 23 := by omega
            exact gt0_23
          · skip
            obtain rfl : k = 24 := by omega
            exact gt0_24
