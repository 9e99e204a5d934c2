theorem gt156_0 : (List.range 40).all (fun j => match gc156 (40 * 0 + j) with | some op => gck 156 (40 * 0 + j) op (gp156 (40 * 0 + j)) | none => true) = true := by decide +kernel
theorem gt156_1 : (List.range 40).all (fun j => match gc156 (40 * 1 + j) with | some op => gck 156 (40 * 1 + j) op (gp156 (40 * 1 + j)) | none => true) = true := by decide +kernel
theorem gt156_2 : (List.range 40).all (fun j => match gc156 (40 * 2 + j) with | some op => gck 156 (40 * 2 + j) op (gp156 (40 * 2 + j)) | none => true) = true := by decide +kernel
theorem gt156_3 : (List.range 40).all (fun j => match gc156 (40 * 3 + j) with | some op => gck 156 (40 * 3 + j) op (gp156 (40 * 3 + j)) | none => true) = true := by decide +kernel
theorem gt156_4 : (List.range 40).all (fun j => match gc156 (40 * 4 + j) with | some op => gck 156 (40 * 4 + j) op (gp156 (40 * 4 + j)) | none => true) = true := by decide +kernel
theorem gt156_5 : (List.range 40).all (fun j => match gc156 (40 * 5 + j) with | some op => gck 156 (40 * 5 + j) op (gp156 (40 * 5 + j)) | none => true) = true := by decide +kernel
theorem gt156_6 : (List.range 40).all (fun j => match gc156 (40 * 6 + j) with | some op => gck 156 (40 * 6 + j) op (gp156 (40 * 6 + j)) | none => true) = true := by decide +kernel
theorem gt156_7 : (List.range 40).all (fun j => match gc156 (40 * 7 + j) with | some op => gck 156 (40 * 7 + j) op (gp156 (40 * 7 + j)) | none => true) = true := by decide +kernel
theorem gt156_8 : (List.range 40).all (fun j => match gc156 (40 * 8 + j) with | some op => gck 156 (40 * 8 + j) op (gp156 (40 * 8 + j)) | none => true) = true := by decide +kernel
theorem gt156_9 : (List.range 40).all (fun j => match gc156 (40 * 9 + j) with | some op => gck 156 (40 * 9 + j) op (gp156 (40 * 9 + j)) | none => true) = true := by decide +kernel
theorem gt156_10 : (List.range 40).all (fun j => match gc156 (40 * 10 + j) with | some op => gck 156 (40 * 10 + j) op (gp156 (40 * 10 + j)) | none => true) = true := by decide +kernel
theorem gt156_11 : (List.range 40).all (fun j => match gc156 (40 * 11 + j) with | some op => gck 156 (40 * 11 + j) op (gp156 (40 * 11 + j)) | none => true) = true := by decide +kernel
theorem gt156_12 : (List.range 40).all (fun j => match gc156 (40 * 12 + j) with | some op => gck 156 (40 * 12 + j) op (gp156 (40 * 12 + j)) | none => true) = true := by decide +kernel
theorem gt156_13 : (List.range 40).all (fun j => match gc156 (40 * 13 + j) with | some op => gck 156 (40 * 13 + j) op (gp156 (40 * 13 + j)) | none => true) = true := by decide +kernel
theorem gt156_14 : (List.range 40).all (fun j => match gc156 (40 * 14 + j) with | some op => gck 156 (40 * 14 + j) op (gp156 (40 * 14 + j)) | none => true) = true := by decide +kernel
theorem gt156_15 : (List.range 40).all (fun j => match gc156 (40 * 15 + j) with | some op => gck 156 (40 * 15 + j) op (gp156 (40 * 15 + j)) | none => true) = true := by decide +kernel
theorem gt156_16 : (List.range 40).all (fun j => match gc156 (40 * 16 + j) with | some op => gck 156 (40 * 16 + j) op (gp156 (40 * 16 + j)) | none => true) = true := by decide +kernel
theorem gt156_17 : (List.range 40).all (fun j => match gc156 (40 * 17 + j) with | some op => gck 156 (40 * 17 + j) op (gp156 (40 * 17 + j)) | none => true) = true := by decide +kernel
theorem gt156_18 : (List.range 40).all (fun j => match gc156 (40 * 18 + j) with | some op => gck 156 (40 * 18 + j) op (gp156 (40 * 18 + j)) | none => true) = true := by decide +kernel
theorem gt156_19 : (List.range 40).all (fun j => match gc156 (40 * 19 + j) with | some op => gck 156 (40 * 19 + j) op (gp156 (40 * 19 + j)) | none => true) = true := by decide +kernel
theorem gt156_20 : (List.range 40).all (fun j => match gc156 (40 * 20 + j) with | some op => gck 156 (40 * 20 + j) op (gp156 (40 * 20 + j)) | none => true) = true := by decide +kernel
theorem gt156_21 : (List.range 40).all (fun j => match gc156 (40 * 21 + j) with | some op => gck 156 (40 * 21 + j) op (gp156 (40 * 21 + j)) | none => true) = true := by decide +kernel
theorem gt156_22 : (List.range 40).all (fun j => match gc156 (40 * 22 + j) with | some op => gck 156 (40 * 22 + j) op (gp156 (40 * 22 + j)) | none => true) = true := by decide +kernel
theorem gt156_23 : (List.range 40).all (fun j => match gc156 (40 * 23 + j) with | some op => gck 156 (40 * 23 + j) op (gp156 (40 * 23 + j)) | none => true) = true := by decide +kernel
theorem gt156_24 : (List.range 40).all (fun j => match gc156 (40 * 24 + j) with | some op => gck 156 (40 * 24 + j) op (gp156 (40 * 24 + j)) | none => true) = true := by decide +kernel
theorem gt156_25 : (List.range 40).all (fun j => match gc156 (40 * 25 + j) with | some op => gck 156 (40 * 25 + j) op (gp156 (40 * 25 + j)) | none => true) = true := by decide +kernel
theorem gt156_26 : (List.range 40).all (fun j => match gc156 (40 * 26 + j) with | some op => gck 156 (40 * 26 + j) op (gp156 (40 * 26 + j)) | none => true) = true := by decide +kernel
theorem gt156_27 : (List.range 40).all (fun j => match gc156 (40 * 27 + j) with | some op => gck 156 (40 * 27 + j) op (gp156 (40 * 27 + j)) | none => true) = true := by decide +kernel
theorem gt156_28 : (List.range 40).all (fun j => match gc156 (40 * 28 + j) with | some op => gck 156 (40 * 28 + j) op (gp156 (40 * 28 + j)) | none => true) = true := by decide +kernel
theorem gt156_29 : (List.range 40).all (fun j => match gc156 (40 * 29 + j) with | some op => gck 156 (40 * 29 + j) op (gp156 (40 * 29 + j)) | none => true) = true := by decide +kernel
theorem gt156_30 : (List.range 40).all (fun j => match gc156 (40 * 30 + j) with | some op => gck 156 (40 * 30 + j) op (gp156 (40 * 30 + j)) | none => true) = true := by decide +kernel
theorem gt156_31 : (List.range 40).all (fun j => match gc156 (40 * 31 + j) with | some op => gck 156 (40 * 31 + j) op (gp156 (40 * 31 + j)) | none => true) = true := by decide +kernel
theorem gt156_32 : (List.range 40).all (fun j => match gc156 (40 * 32 + j) with | some op => gck 156 (40 * 32 + j) op (gp156 (40 * 32 + j)) | none => true) = true := by decide +kernel
theorem gt156_33 : (List.range 40).all (fun j => match gc156 (40 * 33 + j) with | some op => gck 156 (40 * 33 + j) op (gp156 (40 * 33 + j)) | none => true) = true := by decide +kernel
theorem gt156_34 : (List.range 40).all (fun j => match gc156 (40 * 34 + j) with | some op => gck 156 (40 * 34 + j) op (gp156 (40 * 34 + j)) | none => true) = true := by decide +kernel
theorem gt156_35 : (List.range 40).all (fun j => match gc156 (40 * 35 + j) with | some op => gck 156 (40 * 35 + j) op (gp156 (40 * 35 + j)) | none => true) = true := by decide +kernel
theorem gt156_36 : (List.range 40).all (fun j => match gc156 (40 * 36 + j) with | some op => gck 156 (40 * 36 + j) op (gp156 (40 * 36 + j)) | none => true) = true := by decide +kernel
theorem gt156_37 : (List.range 40).all (fun j => match gc156 (40 * 37 + j) with | some op => gck 156 (40 * 37 + j) op (gp156 (40 * 37 + j)) | none => true) = true := by decide +kernel
theorem gt156_38 : (List.range 40).all (fun j => match gc156 (40 * 38 + j) with | some op => gck 156 (40 * 38 + j) op (gp156 (40 * 38 + j)) | none => true) = true := by decide +kernel
theorem gt156_39 : (List.range 40).all (fun j => match gc156 (40 * 39 + j) with | some op => gck 156 (40 * 39 + j) op (gp156 (40 * 39 + j)) | none => true) = true := by decide +kernel
theorem gt156_40 : (List.range 40).all (fun j => match gc156 (40 * 40 + j) with | some op => gck 156 (40 * 40 + j) op (gp156 (40 * 40 + j)) | none => true) = true := by decide +kernel
theorem gt156_41 : (List.range 40).all (fun j => match gc156 (40 * 41 + j) with | some op => gck 156 (40 * 41 + j) op (gp156 (40 * 41 + j)) | none => true) = true := by decide +kernel
theorem gt156_42 : (List.range 40).all (fun j => match gc156 (40 * 42 + j) with | some op => gck 156 (40 * 42 + j) op (gp156 (40 * 42 + j)) | none => true) = true := by decide +kernel
theorem gk156 : ∀ (pc : Nat) (op : gOp), gpr 156 pc = some op → gOk 156 pc op := gprk (len := 1681) (nc := 43) (c := gc156) (q := gp156) (fun _ => rfl) (by decide) fun k hk => by
  rcases Nat.lt_or_ge k 21 with h0_43 | h0_43
  · skip
    rcases Nat.lt_or_ge k 10 with h0_21 | h0_21
    · skip
      rcases Nat.lt_or_ge k 5 with h0_10 | h0_10
      · skip
        rcases Nat.lt_or_ge k 2 with h0_5 | h0_5
        · skip
          rcases Nat.lt_or_ge k 1 with h0_2 | h0_2
          · skip
            obtain rfl : k = 0 := by omega
            exact gt156_0
          · skip
            obtain rfl : k = 1 := by omega
            exact gt156_1
        · skip
          rcases Nat.lt_or_ge k 3 with h2_5 | h2_5
          · skip
            obtain rfl : k = 2 := by omega
            exact gt156_2
          · skip
            rcases Nat.lt_or_ge k 4 with h3_5 | h3_5
            · skip
              obtain rfl : k = 3 := by omega
              exact gt156_3
            · skip
              obtain rfl : k = 4 := by omega
              exact gt156_4
      · skip
        rcases Nat.lt_or_ge k 7 with h5_10 | h5_10
        · skip
          rcases Nat.lt_or_ge k 6 with h5_7 | h5_7
          · skip
            obtain rfl : k = 5 := by omega
            exact gt156_5
          · skip
            obtain rfl : k = 6 := by omega
            exact gt156_6
        · skip
          rcases Nat.lt_or_ge k 8 with h7_10 | h7_10
          · skip
            obtain rfl : k = 7 := by omega
            exact gt156_7
          · skip
            rcases Nat.lt_or_ge k 9 with h8_10 | h8_10
            · skip
              obtain rfl : k = 8 := by omega
              exact gt156_8
            · skip
              obtain rfl : k = 9 := by omega
              exact gt156_9
    · skip
      rcases Nat.lt_or_ge k 15 with h10_21 | h10_21
      · skip
        rcases Nat.lt_or_ge k 12 with h10_15 | h10_15
        · skip
          rcases Nat.lt_or_ge k 11 with h10_12 | h10_12
          · skip
            obtain rfl : k = 10 := by omega
            exact gt156_10
          · skip
            obtain rfl : k = 11 := by omega
            exact gt156_11
        · skip
          rcases Nat.lt_or_ge k 13 with h12_15 | h12_15
          · skip
            obtain rfl : k = 12 := by omega
            exact gt156_12
          · skip
            rcases Nat.lt_or_ge k 14 with h13_15 | h13_15
            · skip
              obtain rfl : k = 13 := by omega
              exact gt156_13
            · skip
              obtain rfl : k = 14 := by omega
              exact gt156_14
      · skip
        rcases Nat.lt_or_ge k 18 with h15_21 | h15_21
        · skip
          rcases Nat.lt_or_ge k 16 with h15_18 | h15_18
          · skip
            obtain rfl : k = 15 := by omega
            exact gt156_15
          · skip
            rcases Nat.lt_or_ge k 17 with h16_18 | h16_18
            · skip
              obtain rfl : k = 16 := by omega
              exact gt156_16
            · skip
              obtain rfl : k = 17 := by omega
              exact gt156_17
        · skip
          rcases Nat.lt_or_ge k 19 with h18_21 | h18_21
          · skip
            obtain rfl : k = 18 := by omega
            exact gt156_18
          · skip
            rcases Nat.lt_or_ge k 20 with h19_21 | h19_21
            · skip
              obtain rfl : k = 19 := by omega
              exact gt156_19
            · skip
              obtain rfl : k = 20 := by omega
              exact gt156_20
  · skip
    rcases Nat.lt_or_ge k 32 with h21_43 | h21_43
    · skip
      rcases Nat.lt_or_ge k 26 with h21_32 | h21_32
      · skip
        rcases Nat.lt_or_ge k 23 with h21_26 | h21_26
        · skip
          rcases Nat.lt_or_ge k 22 with h21_23 | h21_23
          · skip
            obtain rfl : k = 21 := by omega
            exact gt156_21
          · skip
            obtain rfl : k = 22 := by omega
            exact gt156_22
        · skip
          rcases Nat.lt_or_ge k 24 with h23_26 | h23_26
          · skip
            obtain rfl : k = 23 := by omega
            exact gt156_23
          · skip
            rcases Nat.lt_or_ge k 25 with h24_26 | h24_26
            · skip
              obtain rfl : k = 24 := by omega
              exact gt156_24
            · skip
              obtain rfl : k = 25 := by omega
              exact gt156_25
      · skip
        rcases Nat.lt_or_ge k 29 with h26_32 | h26_32
        · skip
          rcases Nat.lt_or_ge k 27 with h26_29 | h26_29
          · skip
            obtain rfl : k = 26 := by omega
            exact gt156_26
          · skip
            rcases Nat.lt_or_ge k 28 with h27_29 | h27_29
            · skip
              obtain rfl : k = 27 := by omega
              exact gt156_27
            · skip
              obtain rfl : k = 28 := by omega
              exact gt156_28
        · skip
          rcases Nat.lt_or_ge k 30 with h29_32 | h29_32
          · skip
            obtain rfl : k = 29 := by omega
            exact gt156_29
          · skip
            rcases Nat.lt_or_ge k 31 with h30_32 | h30_32
            · skip
              obtain rfl : k = 30 := by omega
              exact gt156_30
            · skip
              obtain rfl : k = 31 := by omega
              exact gt156_31
    · skip
      rcases Nat.lt_or_ge k 37 with h32_43 | h32_43
      · skip
        rcases Nat.lt_or_ge k 34 with h32_37 | h32_37
        · skip
          rcases Nat.lt_or_ge k 33 with h32_34 | h32_34
          · skip
            obtain rfl : k = 32 := by omega
            exact gt156_32
          · skip
            obtain rfl : k = 33 := by omega
            exact gt156_33
        · skip
          rcases Nat.lt_or_ge k 35 with h34_37 | h34_37
          · skip
            obtain rfl : k = 34 := by omega
            exact gt156_34
          · skip
            rcases Nat.lt_or_ge k 36 with h35_37 | h35_37
            · skip
              obtain rfl : k = 35 := by omega
              exact gt156_35
            · skip
              obtain rfl : k = 36 := by omega
              exact gt156_36
      · skip
        rcases Nat.lt_or_ge k 40 with h37_43 | h37_43
        · skip
          rcases Nat.lt_or_ge k 38 with h37_40 | h37_40
          · skip
            obtain rfl : k = 37 := by omega
            exact gt156_37
          · skip
            rcases Nat.lt_or_ge k 39 with h38_40 | h38_40
            · skip
              obtain rfl : k = 38 := by omega
              exact gt156_38
            · skip
              obtain rfl : k = 39 := by omega
              exact gt156_39
        · skip
          rcases Nat.lt_or_ge k 41 with h40_43 | h40_43
          · skip
            obtain rfl : k = 40 := by omega
            exact gt156_40
          · skip
            rcases Nat.lt_or_ge k 42 with h41_43 | h41_43
            · skip
              obtain rfl : k = 41 := by omega
              exact gt156_41
            · skip
              obtain rfl : k = 42 := by omega
              exact gt156_42
