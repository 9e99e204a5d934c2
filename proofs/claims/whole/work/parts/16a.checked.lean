theorem gt1_0 : (List.range 40).all (fun j => match gc1 (40 * 0 + j) with | some op => gck 1 (40 * 0 + j) op (gp1 (40 * 0 + j)) | none => true) = true := by decide +kernel
theorem gt1_1 : (List.range 40).all (fun j => match gc1 (40 * 1 + j) with | some op => gck 1 (40 * 1 + j) op (gp1 (40 * 1 + j)) | none => true) = true := by decide +kernel
theorem gt1_2 : (List.range 40).all (fun j => match gc1 (40 * 2 + j) with | some op => gck 1 (40 * 2 + j) op (gp1 (40 * 2 + j)) | none => true) = true := by decide +kernel
theorem gk1 : ∀ (pc : Nat) (op : gOp), gpr 1 pc = some op → gOk 1 pc op := gprk (len := 83) (nc := 3) (c := gc1) (q := gp1) (fun _ => rfl) (by decide) fun k hk => by
  rcases Nat.lt_or_ge k 1 with h0_3 | h0_3
  · skip
    obtain rfl : k = 0 := by omega
    exact gt1_0
  · skip
    rcases Nat.lt_or_ge k 2 with h1_3 | h1_3
    · skip
      obtain rfl : k = 1 := by omega
      exact gt1_1
    · skip
      obtain rfl : k = 2 := by omega
      exact gt1_2
theorem gt2_0 : (List.range 40).all (fun j => match gc2 (40 * 0 + j) with | some op => gck 2 (40 * 0 + j) op (gp2 (40 * 0 + j)) | none => true) = true := by decide +kernel
theorem gk2 : ∀ (pc : Nat) (op : gOp), gpr 2 pc = some op → gOk 2 pc op := gprk (len := 6) (nc := 1) (c := gc2) (q := gp2) (fun _ => rfl) (by decide) fun k hk => by
  obtain rfl : k = 0 := by omega
  exact gt2_0
theorem gt3_0 : (List.range 40).all (fun j => match gc3 (40 * 0 + j) with | some op => gck 3 (40 * 0 + j) op (gp3 (40 * 0 + j)) | none => true) = true := by decide +kernel
theorem gt3_1 : (List.range 40).all (fun j => match gc3 (40 * 1 + j) with | some op => gck 3 (40 * 1 + j) op (gp3 (40 * 1 + j)) | none => true) = true := by decide +kernel
theorem gt3_2 : (List.range 40).all (fun j => match gc3 (40 * 2 + j) with | some op => gck 3 (40 * 2 + j) op (gp3 (40 * 2 + j)) | none => true) = true := by decide +kernel
theorem gk3 : ∀ (pc : Nat) (op : gOp), gpr 3 pc = some op → gOk 3 pc op := gprk (len := 110) (nc := 3) (c := gc3) (q := gp3) (fun _ => rfl) (by decide) fun k hk => by
  rcases Nat.lt_or_ge k 1 with h0_3 | h0_3
  · skip
    obtain rfl : k = 0 := by omega
    exact gt3_0
  · skip
    rcases Nat.lt_or_ge k 2 with h1_3 | h1_3
    · skip
      obtain rfl : k = 1 := by omega
      exact gt3_1
    · skip
      obtain rfl : k = 2 := by omega
      exact gt3_2
theorem gt4_0 : (List.range 40).all (fun j => match gc4 (40 * 0 + j) with | some op => gck 4 (40 * 0 + j) op (gp4 (40 * 0 + j)) | none => true) = true := by decide +kernel
theorem gt4_1 : (List.range 40).all (fun j => match gc4 (40 * 1 + j) with | some op => gck 4 (40 * 1 + j) op (gp4 (40 * 1 + j)) | none => true) = true := by decide +kernel
theorem gt4_2 : (List.range 40).all (fun j => match gc4 (40 * 2 + j) with | some op => gck 4 (40 * 2 + j) op (gp4 (40 * 2 + j)) | none => true) = true := by decide +kernel
theorem gk4 : ∀ (pc : Nat) (op : gOp), gpr 4 pc = some op → gOk 4 pc op := gprk (len := 85) (nc := 3) (c := gc4) (q := gp4) (fun _ => rfl) (by decide) fun k hk => by
  rcases Nat.lt_or_ge k 1 with h0_3 | h0_3
  · skip
    obtain rfl : k = 0 := by omega
    exact gt4_0
  · skip
    rcases Nat.lt_or_ge k 2 with h1_3 | h1_3
    · skip
      obtain rfl : k = 1 := by omega
      exact gt4_1
    · skip
      obtain rfl : k = 2 := by omega
      exact gt4_2
theorem gt5_0 : (List.range 40).all (fun j => match gc5 (40 * 0 + j) with | some op => gck 5 (40 * 0 + j) op (gp5 (40 * 0 + j)) | none => true) = true := by decide +kernel
theorem gt5_1 : (List.range 40).all (fun j => match gc5 (40 * 1 + j) with | some op => gck 5 (40 * 1 + j) op (gp5 (40 * 1 + j)) | none => true) = true := by decide +kernel
theorem gt5_2 : (List.range 40).all (fun j => match gc5 (40 * 2 + j) with | some op => gck 5 (40 * 2 + j) op (gp5 (40 * 2 + j)) | none => true) = true := by decide +kernel
theorem gt5_3 : (List.range 40).all (fun j => match gc5 (40 * 3 + j) with | some op => gck 5 (40 * 3 + j) op (gp5 (40 * 3 + j)) | none => true) = true := by decide +kernel
theorem gk5 : ∀ (pc : Nat) (op : gOp), gpr 5 pc = some op → gOk 5 pc op := gprk (len := 141) (nc := 4) (c := gc5) (q := gp5) (fun _ => rfl) (by decide) fun k hk => by
  rcases Nat.lt_or_ge k 2 with h0_4 | h0_4
  · skip
    rcases Nat.lt_or_ge k 1 with h0_2 | h0_2
    · skip
      obtain rfl : k = 0 := by omega
      exact gt5_0
    · skip
      obtain rfl : k = 1 := by omega
      exact gt5_1
  · skip
    rcases Nat.lt_or_ge k 3 with h2_4 | h2_4
    · skip
      obtain rfl : k = 2 := by omega
      exact gt5_2
    · skip
      obtain rfl : k = 3 := by omega
      exact gt5_3
theorem gt6_0 : (List.range 40).all (fun j => match gc6 (40 * 0 + j) with | some op => gck 6 (40 * 0 + j) op (gp6 (40 * 0 + j)) | none => true) = true := by decide +kernel
theorem gt6_1 : (List.range 40).all (fun j => match gc6 (40 * 1 + j) with | some op => gck 6 (40 * 1 + j) op (gp6 (40 * 1 + j)) | none => true) = true := by decide +kernel
theorem gt6_2 : (List.range 40).all (fun j => match gc6 (40 * 2 + j) with | some op => gck 6 (40 * 2 + j) op (gp6 (40 * 2 + j)) | none => true) = true := by decide +kernel
theorem gk6 : ∀ (pc : Nat) (op : gOp), gpr 6 pc = some op → gOk 6 pc op := gprk (len := 110) (nc := 3) (c := gc6) (q := gp6) (fun _ => rfl) (by decide) fun k hk => by
  rcases Nat.lt_or_ge k 1 with h0_3 | h0_3
  · skip
    obtain rfl : k = 0 := by omega
    exact gt6_0
  · skip
    rcases Nat.lt_or_ge k 2 with h1_3 | h1_3
    · skip
      obtain rfl : k = 1 := by omega
      exact gt6_1
    · skip
      obtain rfl : k = 2 := by omega
      exact gt6_2
theorem gt7_0 : (List.range 40).all (fun j => match gc7 (40 * 0 + j) with | some op => gck 7 (40 * 0 + j) op (gp7 (40 * 0 + j)) | none => true) = true := by decide +kernel
theorem gt7_1 : (List.range 40).all (fun j => match gc7 (40 * 1 + j) with | some op => gck 7 (40 * 1 + j) op (gp7 (40 * 1 + j)) | none => true) = true := by decide +kernel
theorem gt7_2 : (List.range 40).all (fun j => match gc7 (40 * 2 + j) with | some op => gck 7 (40 * 2 + j) op (gp7 (40 * 2 + j)) | none => true) = true := by decide +kernel
theorem gt7_3 : (List.range 40).all (fun j => match gc7 (40 * 3 + j) with | some op => gck 7 (40 * 3 + j) op (gp7 (40 * 3 + j)) | none => true) = true := by decide +kernel
theorem gt7_4 : (List.range 40).all (fun j => match gc7 (40 * 4 + j) with | some op => gck 7 (40 * 4 + j) op (gp7 (40 * 4 + j)) | none => true) = true := by decide +kernel
theorem gk7 : ∀ (pc : Nat) (op : gOp), gpr 7 pc = some op → gOk 7 pc op := gprk (len := 183) (nc := 5) (c := gc7) (q := gp7) (fun _ => rfl) (by decide) fun k hk => by
  rcases Nat.lt_or_ge k 2 with h0_5 | h0_5
  · skip
    rcases Nat.lt_or_ge k 1 with h0_2 | h0_2
    · skip
      obtain rfl : k = 0 := by omega
      exact gt7_0
    · skip
      obtain rfl : k = 1 := by omega
      exact gt7_1
  · skip
    rcases Nat.lt_or_ge k 3 with h2_5 | h2_5
    · skip
      obtain rfl : k = 2 := by omega
      exact gt7_2
    · skip
      rcases Nat.lt_or_ge k 4 with h3_5 | h3_5
      · skip
        obtain rfl : k = 3 := by omega
        exact gt7_3
      · skip
        obtain rfl : k = 4 := by omega
        exact gt7_4
theorem gt8_0 : (List.range 40).all (fun j => match gc8 (40 * 0 + j) with | some op => gck 8 (40 * 0 + j) op (gp8 (40 * 0 + j)) | none => true) = true := by decide +kernel
theorem gt8_1 : (List.range 40).all (fun j => match gc8 (40 * 1 + j) with | some op => gck 8 (40 * 1 + j) op (gp8 (40 * 1 + j)) | none => true) = true := by decide +kernel
theorem gk8 : ∀ (pc : Nat) (op : gOp), gpr 8 pc = some op → gOk 8 pc op := gprk (len := 47) (nc := 2) (c := gc8) (q := gp8) (fun _ => rfl) (by decide) fun k hk => by
  rcases Nat.lt_or_ge k 1 with h0_2 | h0_2
  · skip
    obtain rfl : k = 0 := by omega
    exact gt8_0
  · skip
    obtain rfl : k = 1 := by omega
    exact gt8_1
theorem gt9_0 : (List.range 40).all (fun j => match gc9 (40 * 0 + j) with | some op => gck 9 (40 * 0 + j) op (gp9 (40 * 0 + j)) | none => true) = true := by decide +kernel
theorem gt9_1 : (List.range 40).all (fun j => match gc9 (40 * 1 + j) with | some op => gck 9 (40 * 1 + j) op (gp9 (40 * 1 + j)) | none => true) = true := by decide +kernel
theorem gk9 : ∀ (pc : Nat) (op : gOp), gpr 9 pc = some op → gOk 9 pc op := gprk (len := 55) (nc := 2) (c := gc9) (q := gp9) (fun _ => rfl) (by decide) fun k hk => by
  rcases Nat.lt_or_ge k 1 with h0_2 | h0_2
  · skip
    obtain rfl : k = 0 := by omega
    exact gt9_0
  · skip
    obtain rfl : k = 1 := by omega
    exact gt9_1
theorem gt10_0 : (List.range 40).all (fun j => match gc10 (40 * 0 + j) with | some op => gck 10 (40 * 0 + j) op (gp10 (40 * 0 + j)) | none => true) = true := by decide +kernel
theorem gt10_1 : (List.range 40).all (fun j => match gc10 (40 * 1 + j) with | some op => gck 10 (40 * 1 + j) op (gp10 (40 * 1 + j)) | none => true) = true := by decide +kernel
theorem gk10 : ∀ (pc : Nat) (op : gOp), gpr 10 pc = some op → gOk 10 pc op := gprk (len := 54) (nc := 2) (c := gc10) (q := gp10) (fun _ => rfl) (by decide) fun k hk => by
  rcases Nat.lt_or_ge k 1 with h0_2 | h0_2
  · skip
    obtain rfl : k = 0 := by omega
    exact gt10_0
  · skip
    obtain rfl : k = 1 := by omega
    exact gt10_1
theorem gt11_0 : (List.range 40).all (fun j => match gc11 (40 * 0 + j) with | some op => gck 11 (40 * 0 + j) op (gp11 (40 * 0 + j)) | none => true) = true := by decide +kernel
theorem gt11_1 : (List.range 40).all (fun j => match gc11 (40 * 1 + j) with | some op => gck 11 (40 * 1 + j) op (gp11 (40 * 1 + j)) | none => true) = true := by decide +kernel
theorem gt11_2 : (List.range 40).all (fun j => match gc11 (40 * 2 + j) with | some op => gck 11 (40 * 2 + j) op (gp11 (40 * 2 + j)) | none => true) = true := by decide +kernel
theorem gt11_3 : (List.range 40).all (fun j => match gc11 (40 * 3 + j) with | some op => gck 11 (40 * 3 + j) op (gp11 (40 * 3 + j)) | none => true) = true := by decide +kernel
theorem gt11_4 : (List.range 40).all (fun j => match gc11 (40 * 4 + j) with | some op => gck 11 (40 * 4 + j) op (gp11 (40 * 4 + j)) | none => true) = true := by decide +kernel
theorem gk11 : ∀ (pc : Nat) (op : gOp), gpr 11 pc = some op → gOk 11 pc op := gprk (len := 173) (nc := 5) (c := gc11) (q := gp11) (fun _ => rfl) (by decide) fun k hk => by
  rcases Nat.lt_or_ge k 2 with h0_5 | h0_5
  · skip
    rcases Nat.lt_or_ge k 1 with h0_2 | h0_2
    · skip
      obtain rfl : k = 0 := by omega
      exact gt11_0
    · skip
      obtain rfl : k = 1 := by omega
      exact gt11_1
  · skip
    rcases Nat.lt_or_ge k 3 with h2_5 | h2_5
    · skip
      obtain rfl : k = 2 := by omega
      exact gt11_2
    · skip
      rcases Nat.lt_or_ge k 4 with h3_5 | h3_5
      · skip
        obtain rfl : k = 3 := by omega
        exact gt11_3
      · skip
        obtain rfl : k = 4 := by omega
        exact gt11_4
theorem gt12_0 : (List.range 40).all (fun j => match gc12 (40 * 0 + j) with | some op => gck 12 (40 * 0 + j) op (gp12 (40 * 0 + j)) | none => true) = true := by decide +kernel
theorem gt12_1 : (List.range 40).all (fun j => match gc12 (40 * 1 + j) with | some op => gck 12 (40 * 1 + j) op (gp12 (40 * 1 + j)) | none => true) = true := by decide +kernel
theorem gt12_2 : (List.range 40).all (fun j => match gc12 (40 * 2 + j) with | some op => gck 12 (40 * 2 + j) op (gp12 (40 * 2 + j)) | none => true) = true := by decide +kernel
theorem gt12_3 : (List.range 40).all (fun j => match gc12 (40 * 3 + j) with | some op => gck 12 (40 * 3 + j) op (gp12 (40 * 3 + j)) | none => true) = true := by decide +kernel
theorem gt12_4 : (List.range 40).all (fun j => match gc12 (40 * 4 + j) with | some op => gck 12 (40 * 4 + j) op (gp12 (40 * 4 + j)) | none => true) = true := by decide +kernel
theorem gk12 : ∀ (pc : Nat) (op : gOp), gpr 12 pc = some op → gOk 12 pc op := gprk (len := 189) (nc := 5) (c := gc12) (q := gp12) (fun _ => rfl) (by decide) fun k hk => by
  rcases Nat.lt_or_ge k 2 with h0_5 | h0_5
  · skip
    rcases Nat.lt_or_ge k 1 with h0_2 | h0_2
    · skip
      obtain rfl : k = 0 := by omega
      exact gt12_0
    · skip
      obtain rfl : k = 1 := by omega
      exact gt12_1
  · skip
    rcases Nat.lt_or_ge k 3 with h2_5 | h2_5
    · skip
      obtain rfl : k = 2 := by omega
      exact gt12_2
    · skip
      rcases Nat.lt_or_ge k 4 with h3_5 | h3_5
      · skip
        obtain rfl : k = 3 := by omega
        exact gt12_3
      · skip
        obtain rfl : k = 4 := by omega
        exact gt12_4
theorem gt13_0 : (List.range 40).all (fun j => match gc13 (40 * 0 + j) with | some op => gck 13 (40 * 0 + j) op (gp13 (40 * 0 + j)) | none => true) = true := by decide +kernel
theorem gt13_1 : (List.range 40).all (fun j => match gc13 (40 * 1 + j) with | some op => gck 13 (40 * 1 + j) op (gp13 (40 * 1 + j)) | none => true) = true := by decide +kernel
theorem gk13 : ∀ (pc : Nat) (op : gOp), gpr 13 pc = some op → gOk 13 pc op := gprk (len := 67) (nc := 2) (c := gc13) (q := gp13) (fun _ => rfl) (by decide) fun k hk => by
  rcases Nat.lt_or_ge k 1 with h0_2 | h0_2
  · skip
    obtain rfl : k = 0 := by omega
    exact gt13_0
  · skip
    obtain rfl : k = 1 := by omega
    exact gt13_1
theorem gt14_0 : (List.range 40).all (fun j => match gc14 (40 * 0 + j) with | some op => gck 14 (40 * 0 + j) op (gp14 (40 * 0 + j)) | none => true) = true := by decide +kernel
theorem gt14_1 : (List.range 40).all (fun j => match gc14 (40 * 1 + j) with | some op => gck 14 (40 * 1 + j) op (gp14 (40 * 1 + j)) | none => true) = true := by decide +kernel
theorem gk14 : ∀ (pc : Nat) (op : gOp), gpr 14 pc = some op → gOk 14 pc op := gprk (len := 66) (nc := 2) (c := gc14) (q := gp14) (fun _ => rfl) (by decide) fun k hk => by
  rcases Nat.lt_or_ge k 1 with h0_2 | h0_2
  · skip
    obtain rfl : k = 0 := by omega
    exact gt14_0
  · skip
    obtain rfl : k = 1 := by omega
    exact gt14_1
theorem gt15_0 : (List.range 40).all (fun j => match gc15 (40 * 0 + j) with | some op => gck 15 (40 * 0 + j) op (gp15 (40 * 0 + j)) | none => true) = true := by decide +kernel
theorem gt15_1 : (List.range 40).all (fun j => match gc15 (40 * 1 + j) with | some op => gck 15 (40 * 1 + j) op (gp15 (40 * 1 + j)) | none => true) = true := by decide +kernel
theorem gt15_2 : (List.range 40).all (fun j => match gc15 (40 * 2 + j) with | some op => gck 15 (40 * 2 + j) op (gp15 (40 * 2 + j)) | none => true) = true := by decide +kernel
theorem gt15_3 : (List.range 40).all (fun j => match gc15 (40 * 3 + j) with | some op => gck 15 (40 * 3 + j) op (gp15 (40 * 3 + j)) | none => true) = true := by decide +kernel
theorem gk15 : ∀ (pc : Nat) (op : gOp), gpr 15 pc = some op → gOk 15 pc op := gprk (len := 159) (nc := 4) (c := gc15) (q := gp15) (fun _ => rfl) (by decide) fun k hk => by
  rcases Nat.lt_or_ge k 2 with h0_4 | h0_4
  · skip
    rcases Nat.lt_or_ge k 1 with h0_2 | h0_2
    · skip
      obtain rfl : k = 0 := by omega
      exact gt15_0
    · skip
      obtain rfl : k = 1 := by omega
      exact gt15_1
  · skip
    rcases Nat.lt_or_ge k 3 with h2_4 | h2_4
    · skip
      obtain rfl : k = 2 := by omega
      exact gt15_2
    · skip
      obtain rfl : k = 3 := by omega
      exact gt15_3
theorem gt16_0 : (List.range 40).all (fun j => match gc16 (40 * 0 + j) with | some op => gck 16 (40 * 0 + j) op (gp16 (40 * 0 + j)) | none => true) = true := by decide +kernel
theorem gt16_1 : (List.range 40).all (fun j => match gc16 (40 * 1 + j) with | some op => gck 16 (40 * 1 + j) op (gp16 (40 * 1 + j)) | none => true) = true := by decide +kernel
theorem gt16_2 : (List.range 40).all (fun j => match gc16 (40 * 2 + j) with | some op => gck 16 (40 * 2 + j) op (gp16 (40 * 2 + j)) | none => true) = true := by decide +kernel
theorem gt16_3 : (List.range 40).all (fun j => match gc16 (40 * 3 + j) with | some op => gck 16 (40 * 3 + j) op (gp16 (40 * 3 + j)) | none => true) = true := by decide +kernel
theorem gk16 : ∀ (pc : Nat) (op : gOp), gpr 16 pc = some op → gOk 16 pc op := gprk (len := 158) (nc := 4) (c := gc16) (q := gp16) (fun _ => rfl) (by decide) fun k hk => by
  rcases Nat.lt_or_ge k 2 with h0_4 | h0_4
  · skip
    rcases Nat.lt_or_ge k 1 with h0_2 | h0_2
    · skip
      obtain rfl : k = 0 := by omega
      exact gt16_0
    · skip
      obtain rfl : k = 1 := by omega
      exact gt16_1
  · skip
    rcases Nat.lt_or_ge k 3 with h2_4 | h2_4
    · skip
      obtain rfl : k = 2 := by omega
      exact gt16_2
    · skip
      obtain rfl : k = 3 := by omega
      exact gt16_3
theorem gt17_0 : (List.range 40).all (fun j => match gc17 (40 * 0 + j) with | some op => gck 17 (40 * 0 + j) op (gp17 (40 * 0 + j)) | none => true) = true := by decide +kernel
theorem gt17_1 : (List.range 40).all (fun j => match gc17 (40 * 1 + j) with | some op => gck 17 (40 * 1 + j) op (gp17 (40 * 1 + j)) | none => true) = true := by decide +kernel
theorem gt17_2 : (List.range 40).all (fun j => match gc17 (40 * 2 + j) with | some op => gck 17 (40 * 2 + j) op (gp17 (40 * 2 + j)) | none => true) = true := by decide +kernel
theorem gt17_3 : (List.range 40).all (fun j => match gc17 (40 * 3 + j) with | some op => gck 17 (40 * 3 + j) op (gp17 (40 * 3 + j)) | none => true) = true := by decide +kernel
theorem gk17 : ∀ (pc : Nat) (op : gOp), gpr 17 pc = some op → gOk 17 pc op := gprk (len := 129) (nc := 4) (c := gc17) (q := gp17) (fun _ => rfl) (by decide) fun k hk => by
  rcases Nat.lt_or_ge k 2 with h0_4 | h0_4
  · skip
    rcases Nat.lt_or_ge k 1 with h0_2 | h0_2
    · skip
      obtain rfl : k = 0 := by omega
      exact gt17_0
    · skip
      obtain rfl : k = 1 := by omega
      exact gt17_1
  · skip
    rcases Nat.lt_or_ge k 3 with h2_4 | h2_4
    · skip
      obtain rfl : k = 2 := by omega
      exact gt17_2
    · skip
      obtain rfl : k = 3 := by omega
      exact gt17_3
theorem gt18_0 : (List.range 40).all (fun j => match gc18 (40 * 0 + j) with | some op => gck 18 (40 * 0 + j) op (gp18 (40 * 0 + j)) | none => true) = true := by decide +kernel
theorem gk18 : ∀ (pc : Nat) (op : gOp), gpr 18 pc = some op → gOk 18 pc op := gprk (len := 18) (nc := 1) (c := gc18) (q := gp18) (fun _ => rfl) (by decide) fun k hk => by
  obtain rfl : k = 0 := by omega
  exact gt18_0
theorem gt19_0 : (List.range 40).all (fun j => match gc19 (40 * 0 + j) with | some op => gck 19 (40 * 0 + j) op (gp19 (40 * 0 + j)) | none => true) = true := by decide +kernel
theorem gk19 : ∀ (pc : Nat) (op : gOp), gpr 19 pc = some op → gOk 19 pc op := gprk (len := 24) (nc := 1) (c := gc19) (q := gp19) (fun _ => rfl) (by decide) fun k hk => by
  obtain rfl : k = 0 := by omega
  exact gt19_0
theorem gt20_0 : (List.range 40).all (fun j => match gc20 (40 * 0 + j) with | some op => gck 20 (40 * 0 + j) op (gp20 (40 * 0 + j)) | none => true) = true := by decide +kernel
theorem gk20 : ∀ (pc : Nat) (op : gOp), gpr 20 pc = some op → gOk 20 pc op := gprk (len := 24) (nc := 1) (c := gc20) (q := gp20) (fun _ => rfl) (by decide) fun k hk => by
  obtain rfl : k = 0 := by omega
  exact gt20_0
theorem gt21_0 : (List.range 40).all (fun j => match gc21 (40 * 0 + j) with | some op => gck 21 (40 * 0 + j) op (gp21 (40 * 0 + j)) | none => true) = true := by decide +kernel
theorem gk21 : ∀ (pc : Nat) (op : gOp), gpr 21 pc = some op → gOk 21 pc op := gprk (len := 31) (nc := 1) (c := gc21) (q := gp21) (fun _ => rfl) (by decide) fun k hk => by
  obtain rfl : k = 0 := by omega
  exact gt21_0
theorem gt22_0 : (List.range 40).all (fun j => match gc22 (40 * 0 + j) with | some op => gck 22 (40 * 0 + j) op (gp22 (40 * 0 + j)) | none => true) = true := by decide +kernel
theorem gk22 : ∀ (pc : Nat) (op : gOp), gpr 22 pc = some op → gOk 22 pc op := gprk (len := 40) (nc := 1) (c := gc22) (q := gp22) (fun _ => rfl) (by decide) fun k hk => by
  obtain rfl : k = 0 := by omega
  exact gt22_0
theorem gt23_0 : (List.range 40).all (fun j => match gc23 (40 * 0 + j) with | some op => gck 23 (40 * 0 + j) op (gp23 (40 * 0 + j)) | none => true) = true := by decide +kernel
theorem gk23 : ∀ (pc : Nat) (op : gOp), gpr 23 pc = some op → gOk 23 pc op := gprk (len := 29) (nc := 1) (c := gc23) (q := gp23) (fun _ => rfl) (by decide) fun k hk => by
  obtain rfl : k = 0 := by omega
  exact gt23_0
theorem gt24_0 : (List.range 40).all (fun j => match gc24 (40 * 0 + j) with | some op => gck 24 (40 * 0 + j) op (gp24 (40 * 0 + j)) | none => true) = true := by decide +kernel
theorem gt24_1 : (List.range 40).all (fun j => match gc24 (40 * 1 + j) with | some op => gck 24 (40 * 1 + j) op (gp24 (40 * 1 + j)) | none => true) = true := by decide +kernel
theorem gt24_2 : (List.range 40).all (fun j => match gc24 (40 * 2 + j) with | some op => gck 24 (40 * 2 + j) op (gp24 (40 * 2 + j)) | none => true) = true := by decide +kernel
theorem gt24_3 : (List.range 40).all (fun j => match gc24 (40 * 3 + j) with | some op => gck 24 (40 * 3 + j) op (gp24 (40 * 3 + j)) | none => true) = true := by decide +kernel
theorem gt24_4 : (List.range 40).all (fun j => match gc24 (40 * 4 + j) with | some op => gck 24 (40 * 4 + j) op (gp24 (40 * 4 + j)) | none => true) = true := by decide +kernel
theorem gt24_5 : (List.range 40).all (fun j => match gc24 (40 * 5 + j) with | some op => gck 24 (40 * 5 + j) op (gp24 (40 * 5 + j)) | none => true) = true := by decide +kernel
theorem gt24_6 : (List.range 40).all (fun j => match gc24 (40 * 6 + j) with | some op => gck 24 (40 * 6 + j) op (gp24 (40 * 6 + j)) | none => true) = true := by decide +kernel
theorem gt24_7 : (List.range 40).all (fun j => match gc24 (40 * 7 + j) with | some op => gck 24 (40 * 7 + j) op (gp24 (40 * 7 + j)) | none => true) = true := by decide +kernel
theorem gt24_8 : (List.range 40).all (fun j => match gc24 (40 * 8 + j) with | some op => gck 24 (40 * 8 + j) op (gp24 (40 * 8 + j)) | none => true) = true := by decide +kernel
theorem gk24 : ∀ (pc : Nat) (op : gOp), gpr 24 pc = some op → gOk 24 pc op := gprk (len := 327) (nc := 9) (c := gc24) (q := gp24) (fun _ => rfl) (by decide) fun k hk => by
  rcases Nat.lt_or_ge k 4 with h0_9 | h0_9
  · skip
    rcases Nat.lt_or_ge k 2 with h0_4 | h0_4
    · skip
      rcases Nat.lt_or_ge k 1 with h0_2 | h0_2
      · skip
        obtain rfl : k = 0 := by omega
        exact gt24_0
      · skip
        obtain rfl : k = 1 := by omega
        exact gt24_1
    · skip
      rcases Nat.lt_or_ge k 3 with h2_4 | h2_4
      · skip
        obtain rfl : k = 2 := by omega
        exact gt24_2
      · skip
        obtain rfl : k = 3 := by omega
        exact gt24_3
  · skip
    rcases Nat.lt_or_ge k 6 with h4_9 | h4_9
    · skip
      rcases Nat.lt_or_ge k 5 with h4_6 | h4_6
      · skip
        obtain rfl : k = 4 := by omega
        exact gt24_4
      · skip
        obtain rfl : k = 5 := by omega
        exact gt24_5
    · skip
      rcases Nat.lt_or_ge k 7 with h6_9 | h6_9
      · skip
        obtain rfl : k = 6 := by omega
        exact gt24_6
      · skip
        rcases Nat.lt_or_ge k 8 with h7_9 | h7_9
        · skip
          obtain rfl : k = 7 := by omega
          exact gt24_7
        · skip
          obtain rfl : k = 8 := by omega
          exact gt24_8
theorem gt25_0 : (List.range 40).all (fun j => match gc25 (40 * 0 + j) with | some op => gck 25 (40 * 0 + j) op (gp25 (40 * 0 + j)) | none => true) = true := by decide +kernel
theorem gt25_1 : (List.range 40).all (fun j => match gc25 (40 * 1 + j) with | some op => gck 25 (40 * 1 + j) op (gp25 (40 * 1 + j)) | none => true) = true := by decide +kernel
theorem gk25 : ∀ (pc : Nat) (op : gOp), gpr 25 pc = some op → gOk 25 pc op := gprk (len := 44) (nc := 2) (c := gc25) (q := gp25) (fun _ => rfl) (by decide) fun k hk => by
  rcases Nat.lt_or_ge k 1 with h0_2 | h0_2
  · skip
    obtain rfl : k = 0 := by omega
    exact gt25_0
  · skip
    obtain rfl : k = 1 := by omega
    exact gt25_1
theorem gt26_0 : (List.range 40).all (fun j => match gc26 (40 * 0 + j) with | some op => gck 26 (40 * 0 + j) op (gp26 (40 * 0 + j)) | none => true) = true := by decide +kernel
theorem gt26_1 : (List.range 40).all (fun j => match gc26 (40 * 1 + j) with | some op => gck 26 (40 * 1 + j) op (gp26 (40 * 1 + j)) | none => true) = true := by decide +kernel
theorem gt26_2 : (List.range 40).all (fun j => match gc26 (40 * 2 + j) with | some op => gck 26 (40 * 2 + j) op (gp26 (40 * 2 + j)) | none => true) = true := by decide +kernel
theorem gk26 : ∀ (pc : Nat) (op : gOp), gpr 26 pc = some op → gOk 26 pc op := gprk (len := 92) (nc := 3) (c := gc26) (q := gp26) (fun _ => rfl) (by decide) fun k hk => by
  rcases Nat.lt_or_ge k 1 with h0_3 | h0_3
  · skip
    obtain rfl : k = 0 := by omega
    exact gt26_0
  · skip
    rcases Nat.lt_or_ge k 2 with h1_3 | h1_3
    · skip
      obtain rfl : k = 1 := by omega
      exact gt26_1
    · skip
      obtain rfl : k = 2 := by omega
      exact gt26_2
theorem gt27_0 : (List.range 40).all (fun j => match gc27 (40 * 0 + j) with | some op => gck 27 (40 * 0 + j) op (gp27 (40 * 0 + j)) | none => true) = true := by decide +kernel
theorem gk27 : ∀ (pc : Nat) (op : gOp), gpr 27 pc = some op → gOk 27 pc op := gprk (len := 27) (nc := 1) (c := gc27) (q := gp27) (fun _ => rfl) (by decide) fun k hk => by
  obtain rfl : k = 0 := by omega
  exact gt27_0
theorem gt28_0 : (List.range 40).all (fun j => match gc28 (40 * 0 + j) with | some op => gck 28 (40 * 0 + j) op (gp28 (40 * 0 + j)) | none => true) = true := by decide +kernel
theorem gt28_1 : (List.range 40).all (fun j => match gc28 (40 * 1 + j) with | some op => gck 28 (40 * 1 + j) op (gp28 (40 * 1 + j)) | none => true) = true := by decide +kernel
theorem gk28 : ∀ (pc : Nat) (op : gOp), gpr 28 pc = some op → gOk 28 pc op := gprk (len := 50) (nc := 2) (c := gc28) (q := gp28) (fun _ => rfl) (by decide) fun k hk => by
  rcases Nat.lt_or_ge k 1 with h0_2 | h0_2
  · skip
    obtain rfl : k = 0 := by omega
    exact gt28_0
  · skip
    obtain rfl : k = 1 := by omega
    exact gt28_1
theorem gt29_0 : (List.range 40).all (fun j => match gc29 (40 * 0 + j) with | some op => gck 29 (40 * 0 + j) op (gp29 (40 * 0 + j)) | none => true) = true := by decide +kernel
theorem gt29_1 : (List.range 40).all (fun j => match gc29 (40 * 1 + j) with | some op => gck 29 (40 * 1 + j) op (gp29 (40 * 1 + j)) | none => true) = true := by decide +kernel
theorem gk29 : ∀ (pc : Nat) (op : gOp), gpr 29 pc = some op → gOk 29 pc op := gprk (len := 76) (nc := 2) (c := gc29) (q := gp29) (fun _ => rfl) (by decide) fun k hk => by
  rcases Nat.lt_or_ge k 1 with h0_2 | h0_2
  · skip
    obtain rfl : k = 0 := by omega
    exact gt29_0
  · skip
    obtain rfl : k = 1 := by omega
    exact gt29_1
theorem gt30_0 : (List.range 40).all (fun j => match gc30 (40 * 0 + j) with | some op => gck 30 (40 * 0 + j) op (gp30 (40 * 0 + j)) | none => true) = true := by decide +kernel
theorem gt30_1 : (List.range 40).all (fun j => match gc30 (40 * 1 + j) with | some op => gck 30 (40 * 1 + j) op (gp30 (40 * 1 + j)) | none => true) = true := by decide +kernel
theorem gk30 : ∀ (pc : Nat) (op : gOp), gpr 30 pc = some op → gOk 30 pc op := gprk (len := 80) (nc := 2) (c := gc30) (q := gp30) (fun _ => rfl) (by decide) fun k hk => by
  rcases Nat.lt_or_ge k 1 with h0_2 | h0_2
  · skip
    obtain rfl : k = 0 := by omega
    exact gt30_0
  · skip
    obtain rfl : k = 1 := by omega
    exact gt30_1
theorem gt31_0 : (List.range 40).all (fun j => match gc31 (40 * 0 + j) with | some op => gck 31 (40 * 0 + j) op (gp31 (40 * 0 + j)) | none => true) = true := by decide +kernel
theorem gk31 : ∀ (pc : Nat) (op : gOp), gpr 31 pc = some op → gOk 31 pc op := gprk (len := 18) (nc := 1) (c := gc31) (q := gp31) (fun _ => rfl) (by decide) fun k hk => by
  obtain rfl : k = 0 := by omega
  exact gt31_0
theorem gt32_0 : (List.range 40).all (fun j => match gc32 (40 * 0 + j) with | some op => gck 32 (40 * 0 + j) op (gp32 (40 * 0 + j)) | none => true) = true := by decide +kernel
theorem gt32_1 : (List.range 40).all (fun j => match gc32 (40 * 1 + j) with | some op => gck 32 (40 * 1 + j) op (gp32 (40 * 1 + j)) | none => true) = true := by decide +kernel
theorem gt32_2 : (List.range 40).all (fun j => match gc32 (40 * 2 + j) with | some op => gck 32 (40 * 2 + j) op (gp32 (40 * 2 + j)) | none => true) = true := by decide +kernel
theorem gk32 : ∀ (pc : Nat) (op : gOp), gpr 32 pc = some op → gOk 32 pc op := gprk (len := 115) (nc := 3) (c := gc32) (q := gp32) (fun _ => rfl) (by decide) fun k hk => by
  rcases Nat.lt_or_ge k 1 with h0_3 | h0_3
  · skip
    obtain rfl : k = 0 := by omega
    exact gt32_0
  · skip
    rcases Nat.lt_or_ge k 2 with h1_3 | h1_3
    · skip
      obtain rfl : k = 1 := by omega
      exact gt32_1
    · skip
      obtain rfl : k = 2 := by omega
      exact gt32_2
theorem gt33_0 : (List.range 40).all (fun j => match gc33 (40 * 0 + j) with | some op => gck 33 (40 * 0 + j) op (gp33 (40 * 0 + j)) | none => true) = true := by decide +kernel
theorem gt33_1 : (List.range 40).all (fun j => match gc33 (40 * 1 + j) with | some op => gck 33 (40 * 1 + j) op (gp33 (40 * 1 + j)) | none => true) = true := by decide +kernel
theorem gt33_2 : (List.range 40).all (fun j => match gc33 (40 * 2 + j) with | some op => gck 33 (40 * 2 + j) op (gp33 (40 * 2 + j)) | none => true) = true := by decide +kernel
theorem gk33 : ∀ (pc : Nat) (op : gOp), gpr 33 pc = some op → gOk 33 pc op := gprk (len := 97) (nc := 3) (c := gc33) (q := gp33) (fun _ => rfl) (by decide) fun k hk => by
  rcases Nat.lt_or_ge k 1 with h0_3 | h0_3
  · skip
    obtain rfl : k = 0 := by omega
    exact gt33_0
  · skip
    rcases Nat.lt_or_ge k 2 with h1_3 | h1_3
    · skip
      obtain rfl : k = 1 := by omega
      exact gt33_1
    · skip
      obtain rfl : k = 2 := by omega
      exact gt33_2
theorem gt34_0 : (List.range 40).all (fun j => match gc34 (40 * 0 + j) with | some op => gck 34 (40 * 0 + j) op (gp34 (40 * 0 + j)) | none => true) = true := by decide +kernel
theorem gt34_1 : (List.range 40).all (fun j => match gc34 (40 * 1 + j) with | some op => gck 34 (40 * 1 + j) op (gp34 (40 * 1 + j)) | none => true) = true := by decide +kernel
theorem gk34 : ∀ (pc : Nat) (op : gOp), gpr 34 pc = some op → gOk 34 pc op := gprk (len := 77) (nc := 2) (c := gc34) (q := gp34) (fun _ => rfl) (by decide) fun k hk => by
  rcases Nat.lt_or_ge k 1 with h0_2 | h0_2
  · skip
    obtain rfl : k = 0 := by omega
    exact gt34_0
  · skip
    obtain rfl : k = 1 := by omega
    exact gt34_1
theorem gt35_0 : (List.range 40).all (fun j => match gc35 (40 * 0 + j) with | some op => gck 35 (40 * 0 + j) op (gp35 (40 * 0 + j)) | none => true) = true := by decide +kernel
theorem gk35 : ∀ (pc : Nat) (op : gOp), gpr 35 pc = some op → gOk 35 pc op := gprk (len := 33) (nc := 1) (c := gc35) (q := gp35) (fun _ => rfl) (by decide) fun k hk => by
  obtain rfl : k = 0 := by omega
  exact gt35_0
theorem gt36_0 : (List.range 40).all (fun j => match gc36 (40 * 0 + j) with | some op => gck 36 (40 * 0 + j) op (gp36 (40 * 0 + j)) | none => true) = true := by decide +kernel
theorem gt36_1 : (List.range 40).all (fun j => match gc36 (40 * 1 + j) with | some op => gck 36 (40 * 1 + j) op (gp36 (40 * 1 + j)) | none => true) = true := by decide +kernel
theorem gt36_2 : (List.range 40).all (fun j => match gc36 (40 * 2 + j) with | some op => gck 36 (40 * 2 + j) op (gp36 (40 * 2 + j)) | none => true) = true := by decide +kernel
theorem gk36 : ∀ (pc : Nat) (op : gOp), gpr 36 pc = some op → gOk 36 pc op := gprk (len := 99) (nc := 3) (c := gc36) (q := gp36) (fun _ => rfl) (by decide) fun k hk => by
  rcases Nat.lt_or_ge k 1 with h0_3 | h0_3
  · skip
    obtain rfl : k = 0 := by omega
    exact gt36_0
  · skip
    rcases Nat.lt_or_ge k 2 with h1_3 | h1_3
    · skip
      obtain rfl : k = 1 := by omega
      exact gt36_1
    · skip
      obtain rfl : k = 2 := by omega
      exact gt36_2
theorem gt37_0 : (List.range 40).all (fun j => match gc37 (40 * 0 + j) with | some op => gck 37 (40 * 0 + j) op (gp37 (40 * 0 + j)) | none => true) = true := by decide +kernel
theorem gk37 : ∀ (pc : Nat) (op : gOp), gpr 37 pc = some op → gOk 37 pc op := gprk (len := 25) (nc := 1) (c := gc37) (q := gp37) (fun _ => rfl) (by decide) fun k hk => by
  obtain rfl : k = 0 := by omega
  exact gt37_0
theorem gt38_0 : (List.range 40).all (fun j => match gc38 (40 * 0 + j) with | some op => gck 38 (40 * 0 + j) op (gp38 (40 * 0 + j)) | none => true) = true := by decide +kernel
theorem gk38 : ∀ (pc : Nat) (op : gOp), gpr 38 pc = some op → gOk 38 pc op := gprk (len := 11) (nc := 1) (c := gc38) (q := gp38) (fun _ => rfl) (by decide) fun k hk => by
  obtain rfl : k = 0 := by omega
  exact gt38_0
theorem gt39_0 : (List.range 40).all (fun j => match gc39 (40 * 0 + j) with | some op => gck 39 (40 * 0 + j) op (gp39 (40 * 0 + j)) | none => true) = true := by decide +kernel
theorem gt39_1 : (List.range 40).all (fun j => match gc39 (40 * 1 + j) with | some op => gck 39 (40 * 1 + j) op (gp39 (40 * 1 + j)) | none => true) = true := by decide +kernel
theorem gk39 : ∀ (pc : Nat) (op : gOp), gpr 39 pc = some op → gOk 39 pc op := gprk (len := 52) (nc := 2) (c := gc39) (q := gp39) (fun _ => rfl) (by decide) fun k hk => by
  rcases Nat.lt_or_ge k 1 with h0_2 | h0_2
  · skip
    obtain rfl : k = 0 := by omega
    exact gt39_0
  · skip
    obtain rfl : k = 1 := by omega
    exact gt39_1
theorem gt40_0 : (List.range 40).all (fun j => match gc40 (40 * 0 + j) with | some op => gck 40 (40 * 0 + j) op (gp40 (40 * 0 + j)) | none => true) = true := by decide +kernel
theorem gt40_1 : (List.range 40).all (fun j => match gc40 (40 * 1 + j) with | some op => gck 40 (40 * 1 + j) op (gp40 (40 * 1 + j)) | none => true) = true := by decide +kernel
theorem gk40 : ∀ (pc : Nat) (op : gOp), gpr 40 pc = some op → gOk 40 pc op := gprk (len := 52) (nc := 2) (c := gc40) (q := gp40) (fun _ => rfl) (by decide) fun k hk => by
  rcases Nat.lt_or_ge k 1 with h0_2 | h0_2
  · skip
    obtain rfl : k = 0 := by omega
    exact gt40_0
  · skip
    obtain rfl : k = 1 := by omega
    exact gt40_1
theorem gt41_0 : (List.range 40).all (fun j => match gc41 (40 * 0 + j) with | some op => gck 41 (40 * 0 + j) op (gp41 (40 * 0 + j)) | none => true) = true := by decide +kernel
theorem gt41_1 : (List.range 40).all (fun j => match gc41 (40 * 1 + j) with | some op => gck 41 (40 * 1 + j) op (gp41 (40 * 1 + j)) | none => true) = true := by decide +kernel
theorem gt41_2 : (List.range 40).all (fun j => match gc41 (40 * 2 + j) with | some op => gck 41 (40 * 2 + j) op (gp41 (40 * 2 + j)) | none => true) = true := by decide +kernel
theorem gt41_3 : (List.range 40).all (fun j => match gc41 (40 * 3 + j) with | some op => gck 41 (40 * 3 + j) op (gp41 (40 * 3 + j)) | none => true) = true := by decide +kernel
theorem gt41_4 : (List.range 40).all (fun j => match gc41 (40 * 4 + j) with | some op => gck 41 (40 * 4 + j) op (gp41 (40 * 4 + j)) | none => true) = true := by decide +kernel
theorem gk41 : ∀ (pc : Nat) (op : gOp), gpr 41 pc = some op → gOk 41 pc op := gprk (len := 182) (nc := 5) (c := gc41) (q := gp41) (fun _ => rfl) (by decide) fun k hk => by
  rcases Nat.lt_or_ge k 2 with h0_5 | h0_5
  · skip
    rcases Nat.lt_or_ge k 1 with h0_2 | h0_2
    · skip
      obtain rfl : k = 0 := by omega
      exact gt41_0
    · skip
      obtain rfl : k = 1 := by omega
      exact gt41_1
  · skip
    rcases Nat.lt_or_ge k 3 with h2_5 | h2_5
    · skip
      obtain rfl : k = 2 := by omega
      exact gt41_2
    · skip
      rcases Nat.lt_or_ge k 4 with h3_5 | h3_5
      · skip
        obtain rfl : k = 3 := by omega
        exact gt41_3
      · skip
        obtain rfl : k = 4 := by omega
        exact gt41_4
theorem gt42_0 : (List.range 40).all (fun j => match gc42 (40 * 0 + j) with | some op => gck 42 (40 * 0 + j) op (gp42 (40 * 0 + j)) | none => true) = true := by decide +kernel
theorem gt42_1 : (List.range 40).all (fun j => match gc42 (40 * 1 + j) with | some op => gck 42 (40 * 1 + j) op (gp42 (40 * 1 + j)) | none => true) = true := by decide +kernel
theorem gk42 : ∀ (pc : Nat) (op : gOp), gpr 42 pc = some op → gOk 42 pc op := gprk (len := 71) (nc := 2) (c := gc42) (q := gp42) (fun _ => rfl) (by decide) fun k hk => by
  rcases Nat.lt_or_ge k 1 with h0_2 | h0_2
  · skip
    obtain rfl : k = 0 := by omega
    exact gt42_0
  · skip
    obtain rfl : k = 1 := by omega
    exact gt42_1
theorem gt43_0 : (List.range 40).all (fun j => match gc43 (40 * 0 + j) with | some op => gck 43 (40 * 0 + j) op (gp43 (40 * 0 + j)) | none => true) = true := by decide +kernel
theorem gt43_1 : (List.range 40).all (fun j => match gc43 (40 * 1 + j) with | some op => gck 43 (40 * 1 + j) op (gp43 (40 * 1 + j)) | none => true) = true := by decide +kernel
theorem gk43 : ∀ (pc : Nat) (op : gOp), gpr 43 pc = some op → gOk 43 pc op := gprk (len := 71) (nc := 2) (c := gc43) (q := gp43) (fun _ => rfl) (by decide) fun k hk => by
  rcases Nat.lt_or_ge k 1 with h0_2 | h0_2
  · skip
    obtain rfl : k = 0 := by omega
    exact gt43_0
  · skip
    obtain rfl : k = 1 := by omega
    exact gt43_1
theorem gt44_0 : (List.range 40).all (fun j => match gc44 (40 * 0 + j) with | some op => gck 44 (40 * 0 + j) op (gp44 (40 * 0 + j)) | none => true) = true := by decide +kernel
theorem gt44_1 : (List.range 40).all (fun j => match gc44 (40 * 1 + j) with | some op => gck 44 (40 * 1 + j) op (gp44 (40 * 1 + j)) | none => true) = true := by decide +kernel
theorem gt44_2 : (List.range 40).all (fun j => match gc44 (40 * 2 + j) with | some op => gck 44 (40 * 2 + j) op (gp44 (40 * 2 + j)) | none => true) = true := by decide +kernel
theorem gt44_3 : (List.range 40).all (fun j => match gc44 (40 * 3 + j) with | some op => gck 44 (40 * 3 + j) op (gp44 (40 * 3 + j)) | none => true) = true := by decide +kernel
theorem gt44_4 : (List.range 40).all (fun j => match gc44 (40 * 4 + j) with | some op => gck 44 (40 * 4 + j) op (gp44 (40 * 4 + j)) | none => true) = true := by decide +kernel
theorem gk44 : ∀ (pc : Nat) (op : gOp), gpr 44 pc = some op → gOk 44 pc op := gprk (len := 165) (nc := 5) (c := gc44) (q := gp44) (fun _ => rfl) (by decide) fun k hk => by
  rcases Nat.lt_or_ge k 2 with h0_5 | h0_5
  · skip
    rcases Nat.lt_or_ge k 1 with h0_2 | h0_2
    · skip
      obtain rfl : k = 0 := by omega
      exact gt44_0
    · skip
      obtain rfl : k = 1 := by omega
      exact gt44_1
  · skip
    rcases Nat.lt_or_ge k 3 with h2_5 | h2_5
    · skip
      obtain rfl : k = 2 := by omega
      exact gt44_2
    · skip
      rcases Nat.lt_or_ge k 4 with h3_5 | h3_5
      · skip
        obtain rfl : k = 3 := by omega
        exact gt44_3
      · skip
        obtain rfl : k = 4 := by omega
        exact gt44_4
theorem gt45_0 : (List.range 40).all (fun j => match gc45 (40 * 0 + j) with | some op => gck 45 (40 * 0 + j) op (gp45 (40 * 0 + j)) | none => true) = true := by decide +kernel
theorem gt45_1 : (List.range 40).all (fun j => match gc45 (40 * 1 + j) with | some op => gck 45 (40 * 1 + j) op (gp45 (40 * 1 + j)) | none => true) = true := by decide +kernel
theorem gt45_2 : (List.range 40).all (fun j => match gc45 (40 * 2 + j) with | some op => gck 45 (40 * 2 + j) op (gp45 (40 * 2 + j)) | none => true) = true := by decide +kernel
theorem gk45 : ∀ (pc : Nat) (op : gOp), gpr 45 pc = some op → gOk 45 pc op := gprk (len := 82) (nc := 3) (c := gc45) (q := gp45) (fun _ => rfl) (by decide) fun k hk => by
  rcases Nat.lt_or_ge k 1 with h0_3 | h0_3
  · skip
    obtain rfl : k = 0 := by omega
    exact gt45_0
  · skip
    rcases Nat.lt_or_ge k 2 with h1_3 | h1_3
    · skip
      obtain rfl : k = 1 := by omega
      exact gt45_1
    · skip
      obtain rfl : k = 2 := by omega
      exact gt45_2
theorem gt46_0 : (List.range 40).all (fun j => match gc46 (40 * 0 + j) with | some op => gck 46 (40 * 0 + j) op (gp46 (40 * 0 + j)) | none => true) = true := by decide +kernel
theorem gt46_1 : (List.range 40).all (fun j => match gc46 (40 * 1 + j) with | some op => gck 46 (40 * 1 + j) op (gp46 (40 * 1 + j)) | none => true) = true := by decide +kernel
theorem gk46 : ∀ (pc : Nat) (op : gOp), gpr 46 pc = some op → gOk 46 pc op := gprk (len := 54) (nc := 2) (c := gc46) (q := gp46) (fun _ => rfl) (by decide) fun k hk => by
  rcases Nat.lt_or_ge k 1 with h0_2 | h0_2
  · skip
    obtain rfl : k = 0 := by omega
    exact gt46_0
  · skip
    obtain rfl : k = 1 := by omega
    exact gt46_1
theorem gt47_0 : (List.range 40).all (fun j => match gc47 (40 * 0 + j) with | some op => gck 47 (40 * 0 + j) op (gp47 (40 * 0 + j)) | none => true) = true := by decide +kernel
theorem gk47 : ∀ (pc : Nat) (op : gOp), gpr 47 pc = some op → gOk 47 pc op := gprk (len := 28) (nc := 1) (c := gc47) (q := gp47) (fun _ => rfl) (by decide) fun k hk => by
  obtain rfl : k = 0 := by omega
  exact gt47_0
theorem gt48_0 : (List.range 40).all (fun j => match gc48 (40 * 0 + j) with | some op => gck 48 (40 * 0 + j) op (gp48 (40 * 0 + j)) | none => true) = true := by decide +kernel
theorem gk48 : ∀ (pc : Nat) (op : gOp), gpr 48 pc = some op → gOk 48 pc op := gprk (len := 38) (nc := 1) (c := gc48) (q := gp48) (fun _ => rfl) (by decide) fun k hk => by
  obtain rfl : k = 0 := by omega
  exact gt48_0
theorem gt49_0 : (List.range 40).all (fun j => match gc49 (40 * 0 + j) with | some op => gck 49 (40 * 0 + j) op (gp49 (40 * 0 + j)) | none => true) = true := by decide +kernel
theorem gk49 : ∀ (pc : Nat) (op : gOp), gpr 49 pc = some op → gOk 49 pc op := gprk (len := 38) (nc := 1) (c := gc49) (q := gp49) (fun _ => rfl) (by decide) fun k hk => by
  obtain rfl : k = 0 := by omega
  exact gt49_0
theorem gt50_0 : (List.range 40).all (fun j => match gc50 (40 * 0 + j) with | some op => gck 50 (40 * 0 + j) op (gp50 (40 * 0 + j)) | none => true) = true := by decide +kernel
theorem gk50 : ∀ (pc : Nat) (op : gOp), gpr 50 pc = some op → gOk 50 pc op := gprk (len := 11) (nc := 1) (c := gc50) (q := gp50) (fun _ => rfl) (by decide) fun k hk => by
  obtain rfl : k = 0 := by omega
  exact gt50_0
theorem gt51_0 : (List.range 40).all (fun j => match gc51 (40 * 0 + j) with | some op => gck 51 (40 * 0 + j) op (gp51 (40 * 0 + j)) | none => true) = true := by decide +kernel
theorem gk51 : ∀ (pc : Nat) (op : gOp), gpr 51 pc = some op → gOk 51 pc op := gprk (len := 10) (nc := 1) (c := gc51) (q := gp51) (fun _ => rfl) (by decide) fun k hk => by
  obtain rfl : k = 0 := by omega
  exact gt51_0
theorem gt52_0 : (List.range 40).all (fun j => match gc52 (40 * 0 + j) with | some op => gck 52 (40 * 0 + j) op (gp52 (40 * 0 + j)) | none => true) = true := by decide +kernel
theorem gt52_1 : (List.range 40).all (fun j => match gc52 (40 * 1 + j) with | some op => gck 52 (40 * 1 + j) op (gp52 (40 * 1 + j)) | none => true) = true := by decide +kernel
theorem gk52 : ∀ (pc : Nat) (op : gOp), gpr 52 pc = some op → gOk 52 pc op := gprk (len := 75) (nc := 2) (c := gc52) (q := gp52) (fun _ => rfl) (by decide) fun k hk => by
  rcases Nat.lt_or_ge k 1 with h0_2 | h0_2
  · skip
    obtain rfl : k = 0 := by omega
    exact gt52_0
  · skip
    obtain rfl : k = 1 := by omega
    exact gt52_1
theorem gt53_0 : (List.range 40).all (fun j => match gc53 (40 * 0 + j) with | some op => gck 53 (40 * 0 + j) op (gp53 (40 * 0 + j)) | none => true) = true := by decide +kernel
theorem gt53_1 : (List.range 40).all (fun j => match gc53 (40 * 1 + j) with | some op => gck 53 (40 * 1 + j) op (gp53 (40 * 1 + j)) | none => true) = true := by decide +kernel
theorem gk53 : ∀ (pc : Nat) (op : gOp), gpr 53 pc = some op → gOk 53 pc op := gprk (len := 63) (nc := 2) (c := gc53) (q := gp53) (fun _ => rfl) (by decide) fun k hk => by
  rcases Nat.lt_or_ge k 1 with h0_2 | h0_2
  · skip
    obtain rfl : k = 0 := by omega
    exact gt53_0
  · skip
    obtain rfl : k = 1 := by omega
    exact gt53_1
theorem gt54_0 : (List.range 40).all (fun j => match gc54 (40 * 0 + j) with | some op => gck 54 (40 * 0 + j) op (gp54 (40 * 0 + j)) | none => true) = true := by decide +kernel
theorem gt54_1 : (List.range 40).all (fun j => match gc54 (40 * 1 + j) with | some op => gck 54 (40 * 1 + j) op (gp54 (40 * 1 + j)) | none => true) = true := by decide +kernel
theorem gk54 : ∀ (pc : Nat) (op : gOp), gpr 54 pc = some op → gOk 54 pc op := gprk (len := 75) (nc := 2) (c := gc54) (q := gp54) (fun _ => rfl) (by decide) fun k hk => by
  rcases Nat.lt_or_ge k 1 with h0_2 | h0_2
  · skip
    obtain rfl : k = 0 := by omega
    exact gt54_0
  · skip
    obtain rfl : k = 1 := by omega
    exact gt54_1
theorem gt55_0 : (List.range 40).all (fun j => match gc55 (40 * 0 + j) with | some op => gck 55 (40 * 0 + j) op (gp55 (40 * 0 + j)) | none => true) = true := by decide +kernel
theorem gt55_1 : (List.range 40).all (fun j => match gc55 (40 * 1 + j) with | some op => gck 55 (40 * 1 + j) op (gp55 (40 * 1 + j)) | none => true) = true := by decide +kernel
theorem gt55_2 : (List.range 40).all (fun j => match gc55 (40 * 2 + j) with | some op => gck 55 (40 * 2 + j) op (gp55 (40 * 2 + j)) | none => true) = true := by decide +kernel
theorem gk55 : ∀ (pc : Nat) (op : gOp), gpr 55 pc = some op → gOk 55 pc op := gprk (len := 83) (nc := 3) (c := gc55) (q := gp55) (fun _ => rfl) (by decide) fun k hk => by
  rcases Nat.lt_or_ge k 1 with h0_3 | h0_3
  · skip
    obtain rfl : k = 0 := by omega
    exact gt55_0
  · skip
    rcases Nat.lt_or_ge k 2 with h1_3 | h1_3
    · skip
      obtain rfl : k = 1 := by omega
      exact gt55_1
    · skip
      obtain rfl : k = 2 := by omega
      exact gt55_2
theorem gt56_0 : (List.range 40).all (fun j => match gc56 (40 * 0 + j) with | some op => gck 56 (40 * 0 + j) op (gp56 (40 * 0 + j)) | none => true) = true := by decide +kernel
theorem gk56 : ∀ (pc : Nat) (op : gOp), gpr 56 pc = some op → gOk 56 pc op := gprk (len := 18) (nc := 1) (c := gc56) (q := gp56) (fun _ => rfl) (by decide) fun k hk => by
  obtain rfl : k = 0 := by omega
  exact gt56_0
theorem gt57_0 : (List.range 40).all (fun j => match gc57 (40 * 0 + j) with | some op => gck 57 (40 * 0 + j) op (gp57 (40 * 0 + j)) | none => true) = true := by decide +kernel
theorem gk57 : ∀ (pc : Nat) (op : gOp), gpr 57 pc = some op → gOk 57 pc op := gprk (len := 32) (nc := 1) (c := gc57) (q := gp57) (fun _ => rfl) (by decide) fun k hk => by
  obtain rfl : k = 0 := by omega
  exact gt57_0
theorem gt58_0 : (List.range 40).all (fun j => match gc58 (40 * 0 + j) with | some op => gck 58 (40 * 0 + j) op (gp58 (40 * 0 + j)) | none => true) = true := by decide +kernel
theorem gk58 : ∀ (pc : Nat) (op : gOp), gpr 58 pc = some op → gOk 58 pc op := gprk (len := 15) (nc := 1) (c := gc58) (q := gp58) (fun _ => rfl) (by decide) fun k hk => by
  obtain rfl : k = 0 := by omega
  exact gt58_0
theorem gt59_0 : (List.range 40).all (fun j => match gc59 (40 * 0 + j) with | some op => gck 59 (40 * 0 + j) op (gp59 (40 * 0 + j)) | none => true) = true := by decide +kernel
theorem gt59_1 : (List.range 40).all (fun j => match gc59 (40 * 1 + j) with | some op => gck 59 (40 * 1 + j) op (gp59 (40 * 1 + j)) | none => true) = true := by decide +kernel
theorem gt59_2 : (List.range 40).all (fun j => match gc59 (40 * 2 + j) with | some op => gck 59 (40 * 2 + j) op (gp59 (40 * 2 + j)) | none => true) = true := by decide +kernel
theorem gt59_3 : (List.range 40).all (fun j => match gc59 (40 * 3 + j) with | some op => gck 59 (40 * 3 + j) op (gp59 (40 * 3 + j)) | none => true) = true := by decide +kernel
theorem gk59 : ∀ (pc : Nat) (op : gOp), gpr 59 pc = some op → gOk 59 pc op := gprk (len := 121) (nc := 4) (c := gc59) (q := gp59) (fun _ => rfl) (by decide) fun k hk => by
  rcases Nat.lt_or_ge k 2 with h0_4 | h0_4
  · skip
    rcases Nat.lt_or_ge k 1 with h0_2 | h0_2
    · skip
      obtain rfl : k = 0 := by omega
      exact gt59_0
    · skip
      obtain rfl : k = 1 := by omega
      exact gt59_1
  · skip
    rcases Nat.lt_or_ge k 3 with h2_4 | h2_4
    · skip
      obtain rfl : k = 2 := by omega
      exact gt59_2
    · skip
      obtain rfl : k = 3 := by omega
      exact gt59_3
theorem gt60_0 : (List.range 40).all (fun j => match gc60 (40 * 0 + j) with | some op => gck 60 (40 * 0 + j) op (gp60 (40 * 0 + j)) | none => true) = true := by decide +kernel
theorem gt60_1 : (List.range 40).all (fun j => match gc60 (40 * 1 + j) with | some op => gck 60 (40 * 1 + j) op (gp60 (40 * 1 + j)) | none => true) = true := by decide +kernel
theorem gt60_2 : (List.range 40).all (fun j => match gc60 (40 * 2 + j) with | some op => gck 60 (40 * 2 + j) op (gp60 (40 * 2 + j)) | none => true) = true := by decide +kernel
theorem gt60_3 : (List.range 40).all (fun j => match gc60 (40 * 3 + j) with | some op => gck 60 (40 * 3 + j) op (gp60 (40 * 3 + j)) | none => true) = true := by decide +kernel
theorem gt60_4 : (List.range 40).all (fun j => match gc60 (40 * 4 + j) with | some op => gck 60 (40 * 4 + j) op (gp60 (40 * 4 + j)) | none => true) = true := by decide +kernel
theorem gt60_5 : (List.range 40).all (fun j => match gc60 (40 * 5 + j) with | some op => gck 60 (40 * 5 + j) op (gp60 (40 * 5 + j)) | none => true) = true := by decide +kernel
theorem gk60 : ∀ (pc : Nat) (op : gOp), gpr 60 pc = some op → gOk 60 pc op := gprk (len := 202) (nc := 6) (c := gc60) (q := gp60) (fun _ => rfl) (by decide) fun k hk => by
  rcases Nat.lt_or_ge k 3 with h0_6 | h0_6
  · skip
    rcases Nat.lt_or_ge k 1 with h0_3 | h0_3
    · skip
      obtain rfl : k = 0 := by omega
      exact gt60_0
    · skip
      rcases Nat.lt_or_ge k 2 with h1_3 | h1_3
      · skip
        obtain rfl : k = 1 := by omega
        exact gt60_1
      · skip
        obtain rfl : k = 2 := by omega
        exact gt60_2
  · skip
    rcases Nat.lt_or_ge k 4 with h3_6 | h3_6
    · skip
      obtain rfl : k = 3 := by omega
      exact gt60_3
    · skip
      rcases Nat.lt_or_ge k 5 with h4_6 | h4_6
      · skip
        obtain rfl : k = 4 := by omega
        exact gt60_4
      · skip
        obtain rfl : k = 5 := by omega
        exact gt60_5
theorem gt61_0 : (List.range 40).all (fun j => match gc61 (40 * 0 + j) with | some op => gck 61 (40 * 0 + j) op (gp61 (40 * 0 + j)) | none => true) = true := by decide +kernel
theorem gt61_1 : (List.range 40).all (fun j => match gc61 (40 * 1 + j) with | some op => gck 61 (40 * 1 + j) op (gp61 (40 * 1 + j)) | none => true) = true := by decide +kernel
theorem gt61_2 : (List.range 40).all (fun j => match gc61 (40 * 2 + j) with | some op => gck 61 (40 * 2 + j) op (gp61 (40 * 2 + j)) | none => true) = true := by decide +kernel
theorem gt61_3 : (List.range 40).all (fun j => match gc61 (40 * 3 + j) with | some op => gck 61 (40 * 3 + j) op (gp61 (40 * 3 + j)) | none => true) = true := by decide +kernel
theorem gt61_4 : (List.range 40).all (fun j => match gc61 (40 * 4 + j) with | some op => gck 61 (40 * 4 + j) op (gp61 (40 * 4 + j)) | none => true) = true := by decide +kernel
theorem gk61 : ∀ (pc : Nat) (op : gOp), gpr 61 pc = some op → gOk 61 pc op := gprk (len := 171) (nc := 5) (c := gc61) (q := gp61) (fun _ => rfl) (by decide) fun k hk => by
  rcases Nat.lt_or_ge k 2 with h0_5 | h0_5
  · skip
    rcases Nat.lt_or_ge k 1 with h0_2 | h0_2
    · skip
      obtain rfl : k = 0 := by omega
      exact gt61_0
    · skip
      obtain rfl : k = 1 := by omega
      exact gt61_1
  · skip
    rcases Nat.lt_or_ge k 3 with h2_5 | h2_5
    · skip
      obtain rfl : k = 2 := by omega
      exact gt61_2
    · skip
      rcases Nat.lt_or_ge k 4 with h3_5 | h3_5
      · skip
        obtain rfl : k = 3 := by omega
        exact gt61_3
      · skip
        obtain rfl : k = 4 := by omega
        exact gt61_4
theorem gt62_0 : (List.range 40).all (fun j => match gc62 (40 * 0 + j) with | some op => gck 62 (40 * 0 + j) op (gp62 (40 * 0 + j)) | none => true) = true := by decide +kernel
theorem gk62 : ∀ (pc : Nat) (op : gOp), gpr 62 pc = some op → gOk 62 pc op := gprk (len := 16) (nc := 1) (c := gc62) (q := gp62) (fun _ => rfl) (by decide) fun k hk => by
  obtain rfl : k = 0 := by omega
  exact gt62_0
theorem gt63_0 : (List.range 40).all (fun j => match gc63 (40 * 0 + j) with | some op => gck 63 (40 * 0 + j) op (gp63 (40 * 0 + j)) | none => true) = true := by decide +kernel
theorem gt63_1 : (List.range 40).all (fun j => match gc63 (40 * 1 + j) with | some op => gck 63 (40 * 1 + j) op (gp63 (40 * 1 + j)) | none => true) = true := by decide +kernel
theorem gk63 : ∀ (pc : Nat) (op : gOp), gpr 63 pc = some op → gOk 63 pc op := gprk (len := 71) (nc := 2) (c := gc63) (q := gp63) (fun _ => rfl) (by decide) fun k hk => by
  rcases Nat.lt_or_ge k 1 with h0_2 | h0_2
  · skip
    obtain rfl : k = 0 := by omega
    exact gt63_0
  · skip
    obtain rfl : k = 1 := by omega
    exact gt63_1
theorem gt64_0 : (List.range 40).all (fun j => match gc64 (40 * 0 + j) with | some op => gck 64 (40 * 0 + j) op (gp64 (40 * 0 + j)) | none => true) = true := by decide +kernel
theorem gk64 : ∀ (pc : Nat) (op : gOp), gpr 64 pc = some op → gOk 64 pc op := gprk (len := 40) (nc := 1) (c := gc64) (q := gp64) (fun _ => rfl) (by decide) fun k hk => by
  obtain rfl : k = 0 := by omega
  exact gt64_0
theorem gt65_0 : (List.range 40).all (fun j => match gc65 (40 * 0 + j) with | some op => gck 65 (40 * 0 + j) op (gp65 (40 * 0 + j)) | none => true) = true := by decide +kernel
theorem gk65 : ∀ (pc : Nat) (op : gOp), gpr 65 pc = some op → gOk 65 pc op := gprk (len := 40) (nc := 1) (c := gc65) (q := gp65) (fun _ => rfl) (by decide) fun k hk => by
  obtain rfl : k = 0 := by omega
  exact gt65_0
theorem gt66_0 : (List.range 40).all (fun j => match gc66 (40 * 0 + j) with | some op => gck 66 (40 * 0 + j) op (gp66 (40 * 0 + j)) | none => true) = true := by decide +kernel
theorem gt66_1 : (List.range 40).all (fun j => match gc66 (40 * 1 + j) with | some op => gck 66 (40 * 1 + j) op (gp66 (40 * 1 + j)) | none => true) = true := by decide +kernel
theorem gk66 : ∀ (pc : Nat) (op : gOp), gpr 66 pc = some op → gOk 66 pc op := gprk (len := 50) (nc := 2) (c := gc66) (q := gp66) (fun _ => rfl) (by decide) fun k hk => by
  rcases Nat.lt_or_ge k 1 with h0_2 | h0_2
  · skip
    obtain rfl : k = 0 := by omega
    exact gt66_0
  · skip
    obtain rfl : k = 1 := by omega
    exact gt66_1
theorem gt67_0 : (List.range 40).all (fun j => match gc67 (40 * 0 + j) with | some op => gck 67 (40 * 0 + j) op (gp67 (40 * 0 + j)) | none => true) = true := by decide +kernel
theorem gk67 : ∀ (pc : Nat) (op : gOp), gpr 67 pc = some op → gOk 67 pc op := gprk (len := 33) (nc := 1) (c := gc67) (q := gp67) (fun _ => rfl) (by decide) fun k hk => by
  obtain rfl : k = 0 := by omega
  exact gt67_0
theorem gt68_0 : (List.range 40).all (fun j => match gc68 (40 * 0 + j) with | some op => gck 68 (40 * 0 + j) op (gp68 (40 * 0 + j)) | none => true) = true := by decide +kernel
theorem gt68_1 : (List.range 40).all (fun j => match gc68 (40 * 1 + j) with | some op => gck 68 (40 * 1 + j) op (gp68 (40 * 1 + j)) | none => true) = true := by decide +kernel
theorem gk68 : ∀ (pc : Nat) (op : gOp), gpr 68 pc = some op → gOk 68 pc op := gprk (len := 50) (nc := 2) (c := gc68) (q := gp68) (fun _ => rfl) (by decide) fun k hk => by
  rcases Nat.lt_or_ge k 1 with h0_2 | h0_2
  · skip
    obtain rfl : k = 0 := by omega
    exact gt68_0
  · skip
    obtain rfl : k = 1 := by omega
    exact gt68_1
theorem gt69_0 : (List.range 40).all (fun j => match gc69 (40 * 0 + j) with | some op => gck 69 (40 * 0 + j) op (gp69 (40 * 0 + j)) | none => true) = true := by decide +kernel
theorem gt69_1 : (List.range 40).all (fun j => match gc69 (40 * 1 + j) with | some op => gck 69 (40 * 1 + j) op (gp69 (40 * 1 + j)) | none => true) = true := by decide +kernel
theorem gt69_2 : (List.range 40).all (fun j => match gc69 (40 * 2 + j) with | some op => gck 69 (40 * 2 + j) op (gp69 (40 * 2 + j)) | none => true) = true := by decide +kernel
theorem gt69_3 : (List.range 40).all (fun j => match gc69 (40 * 3 + j) with | some op => gck 69 (40 * 3 + j) op (gp69 (40 * 3 + j)) | none => true) = true := by decide +kernel
theorem gk69 : ∀ (pc : Nat) (op : gOp), gpr 69 pc = some op → gOk 69 pc op := gprk (len := 123) (nc := 4) (c := gc69) (q := gp69) (fun _ => rfl) (by decide) fun k hk => by
  rcases Nat.lt_or_ge k 2 with h0_4 | h0_4
  · skip
    rcases Nat.lt_or_ge k 1 with h0_2 | h0_2
    · skip
      obtain rfl : k = 0 := by omega
      exact gt69_0
    · skip
      obtain rfl : k = 1 := by omega
      exact gt69_1
  · skip
    rcases Nat.lt_or_ge k 3 with h2_4 | h2_4
    · skip
      obtain rfl : k = 2 := by omega
      exact gt69_2
    · skip
      obtain rfl : k = 3 := by omega
      exact gt69_3
theorem gt70_0 : (List.range 40).all (fun j => match gc70 (40 * 0 + j) with | some op => gck 70 (40 * 0 + j) op (gp70 (40 * 0 + j)) | none => true) = true := by decide +kernel
theorem gt70_1 : (List.range 40).all (fun j => match gc70 (40 * 1 + j) with | some op => gck 70 (40 * 1 + j) op (gp70 (40 * 1 + j)) | none => true) = true := by decide +kernel
theorem gt70_2 : (List.range 40).all (fun j => match gc70 (40 * 2 + j) with | some op => gck 70 (40 * 2 + j) op (gp70 (40 * 2 + j)) | none => true) = true := by decide +kernel
theorem gt70_3 : (List.range 40).all (fun j => match gc70 (40 * 3 + j) with | some op => gck 70 (40 * 3 + j) op (gp70 (40 * 3 + j)) | none => true) = true := by decide +kernel
theorem gt70_4 : (List.range 40).all (fun j => match gc70 (40 * 4 + j) with | some op => gck 70 (40 * 4 + j) op (gp70 (40 * 4 + j)) | none => true) = true := by decide +kernel
theorem gk70 : ∀ (pc : Nat) (op : gOp), gpr 70 pc = some op → gOk 70 pc op := gprk (len := 197) (nc := 5) (c := gc70) (q := gp70) (fun _ => rfl) (by decide) fun k hk => by
  rcases Nat.lt_or_ge k 2 with h0_5 | h0_5
  · skip
    rcases Nat.lt_or_ge k 1 with h0_2 | h0_2
    · skip
      obtain rfl : k = 0 := by omega
      exact gt70_0
    · skip
      obtain rfl : k = 1 := by omega
      exact gt70_1
  · skip
    rcases Nat.lt_or_ge k 3 with h2_5 | h2_5
    · skip
      obtain rfl : k = 2 := by omega
      exact gt70_2
    · skip
      rcases Nat.lt_or_ge k 4 with h3_5 | h3_5
      · skip
        obtain rfl : k = 3 := by omega
        exact gt70_3
      · skip
        obtain rfl : k = 4 := by omega
        exact gt70_4
theorem gt71_0 : (List.range 40).all (fun j => match gc71 (40 * 0 + j) with | some op => gck 71 (40 * 0 + j) op (gp71 (40 * 0 + j)) | none => true) = true := by decide +kernel
theorem gt71_1 : (List.range 40).all (fun j => match gc71 (40 * 1 + j) with | some op => gck 71 (40 * 1 + j) op (gp71 (40 * 1 + j)) | none => true) = true := by decide +kernel
theorem gt71_2 : (List.range 40).all (fun j => match gc71 (40 * 2 + j) with | some op => gck 71 (40 * 2 + j) op (gp71 (40 * 2 + j)) | none => true) = true := by decide +kernel
theorem gt71_3 : (List.range 40).all (fun j => match gc71 (40 * 3 + j) with | some op => gck 71 (40 * 3 + j) op (gp71 (40 * 3 + j)) | none => true) = true := by decide +kernel
theorem gt71_4 : (List.range 40).all (fun j => match gc71 (40 * 4 + j) with | some op => gck 71 (40 * 4 + j) op (gp71 (40 * 4 + j)) | none => true) = true := by decide +kernel
theorem gt71_5 : (List.range 40).all (fun j => match gc71 (40 * 5 + j) with | some op => gck 71 (40 * 5 + j) op (gp71 (40 * 5 + j)) | none => true) = true := by decide +kernel
theorem gk71 : ∀ (pc : Nat) (op : gOp), gpr 71 pc = some op → gOk 71 pc op := gprk (len := 217) (nc := 6) (c := gc71) (q := gp71) (fun _ => rfl) (by decide) fun k hk => by
  rcases Nat.lt_or_ge k 3 with h0_6 | h0_6
  · skip
    rcases Nat.lt_or_ge k 1 with h0_3 | h0_3
    · skip
      obtain rfl : k = 0 := by omega
      exact gt71_0
    · skip
      rcases Nat.lt_or_ge k 2 with h1_3 | h1_3
      · skip
        obtain rfl : k = 1 := by omega
        exact gt71_1
      · skip
        obtain rfl : k = 2 := by omega
        exact gt71_2
  · skip
    rcases Nat.lt_or_ge k 4 with h3_6 | h3_6
    · skip
      obtain rfl : k = 3 := by omega
      exact gt71_3
    · skip
      rcases Nat.lt_or_ge k 5 with h4_6 | h4_6
      · skip
        obtain rfl : k = 4 := by omega
        exact gt71_4
      · skip
        obtain rfl : k = 5 := by omega
        exact gt71_5
theorem gt72_0 : (List.range 40).all (fun j => match gc72 (40 * 0 + j) with | some op => gck 72 (40 * 0 + j) op (gp72 (40 * 0 + j)) | none => true) = true := by decide +kernel
theorem gk72 : ∀ (pc : Nat) (op : gOp), gpr 72 pc = some op → gOk 72 pc op := gprk (len := 22) (nc := 1) (c := gc72) (q := gp72) (fun _ => rfl) (by decide) fun k hk => by
  obtain rfl : k = 0 := by omega
  exact gt72_0
theorem gt73_0 : (List.range 40).all (fun j => match gc73 (40 * 0 + j) with | some op => gck 73 (40 * 0 + j) op (gp73 (40 * 0 + j)) | none => true) = true := by decide +kernel
theorem gk73 : ∀ (pc : Nat) (op : gOp), gpr 73 pc = some op → gOk 73 pc op := gprk (len := 24) (nc := 1) (c := gc73) (q := gp73) (fun _ => rfl) (by decide) fun k hk => by
  obtain rfl : k = 0 := by omega
  exact gt73_0
theorem gt74_0 : (List.range 40).all (fun j => match gc74 (40 * 0 + j) with | some op => gck 74 (40 * 0 + j) op (gp74 (40 * 0 + j)) | none => true) = true := by decide +kernel
theorem gk74 : ∀ (pc : Nat) (op : gOp), gpr 74 pc = some op → gOk 74 pc op := gprk (len := 5) (nc := 1) (c := gc74) (q := gp74) (fun _ => rfl) (by decide) fun k hk => by
  obtain rfl : k = 0 := by omega
  exact gt74_0
theorem gt75_0 : (List.range 40).all (fun j => match gc75 (40 * 0 + j) with | some op => gck 75 (40 * 0 + j) op (gp75 (40 * 0 + j)) | none => true) = true := by decide +kernel
theorem gt75_1 : (List.range 40).all (fun j => match gc75 (40 * 1 + j) with | some op => gck 75 (40 * 1 + j) op (gp75 (40 * 1 + j)) | none => true) = true := by decide +kernel
theorem gt75_2 : (List.range 40).all (fun j => match gc75 (40 * 2 + j) with | some op => gck 75 (40 * 2 + j) op (gp75 (40 * 2 + j)) | none => true) = true := by decide +kernel
theorem gt75_3 : (List.range 40).all (fun j => match gc75 (40 * 3 + j) with | some op => gck 75 (40 * 3 + j) op (gp75 (40 * 3 + j)) | none => true) = true := by decide +kernel
theorem gt75_4 : (List.range 40).all (fun j => match gc75 (40 * 4 + j) with | some op => gck 75 (40 * 4 + j) op (gp75 (40 * 4 + j)) | none => true) = true := by decide +kernel
theorem gt75_5 : (List.range 40).all (fun j => match gc75 (40 * 5 + j) with | some op => gck 75 (40 * 5 + j) op (gp75 (40 * 5 + j)) | none => true) = true := by decide +kernel
theorem gk75 : ∀ (pc : Nat) (op : gOp), gpr 75 pc = some op → gOk 75 pc op := gprk (len := 232) (nc := 6) (c := gc75) (q := gp75) (fun _ => rfl) (by decide) fun k hk => by
  rcases Nat.lt_or_ge k 3 with h0_6 | h0_6
  · skip
    rcases Nat.lt_or_ge k 1 with h0_3 | h0_3
    · skip
      obtain rfl : k = 0 := by omega
      exact gt75_0
    · skip
      rcases Nat.lt_or_ge k 2 with h1_3 | h1_3
      · skip
        obtain rfl : k = 1 := by omega
        exact gt75_1
      · skip
        obtain rfl : k = 2 := by omega
        exact gt75_2
  · skip
    rcases Nat.lt_or_ge k 4 with h3_6 | h3_6
    · skip
      obtain rfl : k = 3 := by omega
      exact gt75_3
    · skip
      rcases Nat.lt_or_ge k 5 with h4_6 | h4_6
      · skip
        obtain rfl : k = 4 := by omega
        exact gt75_4
      · skip
        obtain rfl : k = 5 := by omega
        exact gt75_5
theorem gt76_0 : (List.range 40).all (fun j => match gc76 (40 * 0 + j) with | some op => gck 76 (40 * 0 + j) op (gp76 (40 * 0 + j)) | none => true) = true := by decide +kernel
theorem gt76_1 : (List.range 40).all (fun j => match gc76 (40 * 1 + j) with | some op => gck 76 (40 * 1 + j) op (gp76 (40 * 1 + j)) | none => true) = true := by decide +kernel
theorem gt76_2 : (List.range 40).all (fun j => match gc76 (40 * 2 + j) with | some op => gck 76 (40 * 2 + j) op (gp76 (40 * 2 + j)) | none => true) = true := by decide +kernel
theorem gk76 : ∀ (pc : Nat) (op : gOp), gpr 76 pc = some op → gOk 76 pc op := gprk (len := 90) (nc := 3) (c := gc76) (q := gp76) (fun _ => rfl) (by decide) fun k hk => by
  rcases Nat.lt_or_ge k 1 with h0_3 | h0_3
  · skip
    obtain rfl : k = 0 := by omega
    exact gt76_0
  · skip
    rcases Nat.lt_or_ge k 2 with h1_3 | h1_3
    · skip
      obtain rfl : k = 1 := by omega
      exact gt76_1
    · skip
      obtain rfl : k = 2 := by omega
      exact gt76_2
theorem gt77_0 : (List.range 40).all (fun j => match gc77 (40 * 0 + j) with | some op => gck 77 (40 * 0 + j) op (gp77 (40 * 0 + j)) | none => true) = true := by decide +kernel
theorem gt77_1 : (List.range 40).all (fun j => match gc77 (40 * 1 + j) with | some op => gck 77 (40 * 1 + j) op (gp77 (40 * 1 + j)) | none => true) = true := by decide +kernel
theorem gt77_2 : (List.range 40).all (fun j => match gc77 (40 * 2 + j) with | some op => gck 77 (40 * 2 + j) op (gp77 (40 * 2 + j)) | none => true) = true := by decide +kernel
theorem gk77 : ∀ (pc : Nat) (op : gOp), gpr 77 pc = some op → gOk 77 pc op := gprk (len := 96) (nc := 3) (c := gc77) (q := gp77) (fun _ => rfl) (by decide) fun k hk => by
  rcases Nat.lt_or_ge k 1 with h0_3 | h0_3
  · skip
    obtain rfl : k = 0 := by omega
    exact gt77_0
  · skip
    rcases Nat.lt_or_ge k 2 with h1_3 | h1_3
    · skip
      obtain rfl : k = 1 := by omega
      exact gt77_1
    · skip
      obtain rfl : k = 2 := by omega
      exact gt77_2
theorem gt78_0 : (List.range 40).all (fun j => match gc78 (40 * 0 + j) with | some op => gck 78 (40 * 0 + j) op (gp78 (40 * 0 + j)) | none => true) = true := by decide +kernel
theorem gt78_1 : (List.range 40).all (fun j => match gc78 (40 * 1 + j) with | some op => gck 78 (40 * 1 + j) op (gp78 (40 * 1 + j)) | none => true) = true := by decide +kernel
theorem gk78 : ∀ (pc : Nat) (op : gOp), gpr 78 pc = some op → gOk 78 pc op := gprk (len := 47) (nc := 2) (c := gc78) (q := gp78) (fun _ => rfl) (by decide) fun k hk => by
  rcases Nat.lt_or_ge k 1 with h0_2 | h0_2
  · skip
    obtain rfl : k = 0 := by omega
    exact gt78_0
  · skip
    obtain rfl : k = 1 := by omega
    exact gt78_1
theorem gt79_0 : (List.range 40).all (fun j => match gc79 (40 * 0 + j) with | some op => gck 79 (40 * 0 + j) op (gp79 (40 * 0 + j)) | none => true) = true := by decide +kernel
theorem gk79 : ∀ (pc : Nat) (op : gOp), gpr 79 pc = some op → gOk 79 pc op := gprk (len := 40) (nc := 1) (c := gc79) (q := gp79) (fun _ => rfl) (by decide) fun k hk => by
  obtain rfl : k = 0 := by omega
  exact gt79_0
theorem gt80_0 : (List.range 40).all (fun j => match gc80 (40 * 0 + j) with | some op => gck 80 (40 * 0 + j) op (gp80 (40 * 0 + j)) | none => true) = true := by decide +kernel
theorem gk80 : ∀ (pc : Nat) (op : gOp), gpr 80 pc = some op → gOk 80 pc op := gprk (len := 8) (nc := 1) (c := gc80) (q := gp80) (fun _ => rfl) (by decide) fun k hk => by
  obtain rfl : k = 0 := by omega
  exact gt80_0
theorem gt81_0 : (List.range 40).all (fun j => match gc81 (40 * 0 + j) with | some op => gck 81 (40 * 0 + j) op (gp81 (40 * 0 + j)) | none => true) = true := by decide +kernel
theorem gk81 : ∀ (pc : Nat) (op : gOp), gpr 81 pc = some op → gOk 81 pc op := gprk (len := 28) (nc := 1) (c := gc81) (q := gp81) (fun _ => rfl) (by decide) fun k hk => by
  obtain rfl : k = 0 := by omega
  exact gt81_0
theorem gt82_0 : (List.range 40).all (fun j => match gc82 (40 * 0 + j) with | some op => gck 82 (40 * 0 + j) op (gp82 (40 * 0 + j)) | none => true) = true := by decide +kernel
theorem gt82_1 : (List.range 40).all (fun j => match gc82 (40 * 1 + j) with | some op => gck 82 (40 * 1 + j) op (gp82 (40 * 1 + j)) | none => true) = true := by decide +kernel
theorem gt82_2 : (List.range 40).all (fun j => match gc82 (40 * 2 + j) with | some op => gck 82 (40 * 2 + j) op (gp82 (40 * 2 + j)) | none => true) = true := by decide +kernel
theorem gt82_3 : (List.range 40).all (fun j => match gc82 (40 * 3 + j) with | some op => gck 82 (40 * 3 + j) op (gp82 (40 * 3 + j)) | none => true) = true := by decide +kernel
theorem gt82_4 : (List.range 40).all (fun j => match gc82 (40 * 4 + j) with | some op => gck 82 (40 * 4 + j) op (gp82 (40 * 4 + j)) | none => true) = true := by decide +kernel
theorem gk82 : ∀ (pc : Nat) (op : gOp), gpr 82 pc = some op → gOk 82 pc op := gprk (len := 165) (nc := 5) (c := gc82) (q := gp82) (fun _ => rfl) (by decide) fun k hk => by
  rcases Nat.lt_or_ge k 2 with h0_5 | h0_5
  · skip
    rcases Nat.lt_or_ge k 1 with h0_2 | h0_2
    · skip
      obtain rfl : k = 0 := by omega
      exact gt82_0
    · skip
      obtain rfl : k = 1 := by omega
      exact gt82_1
  · skip
    rcases Nat.lt_or_ge k 3 with h2_5 | h2_5
    · skip
      obtain rfl : k = 2 := by omega
      exact gt82_2
    · skip
      rcases Nat.lt_or_ge k 4 with h3_5 | h3_5
      · skip
        obtain rfl : k = 3 := by omega
        exact gt82_3
      · skip
        obtain rfl : k = 4 := by omega
        exact gt82_4
theorem gt83_0 : (List.range 40).all (fun j => match gc83 (40 * 0 + j) with | some op => gck 83 (40 * 0 + j) op (gp83 (40 * 0 + j)) | none => true) = true := by decide +kernel
theorem gk83 : ∀ (pc : Nat) (op : gOp), gpr 83 pc = some op → gOk 83 pc op := gprk (len := 40) (nc := 1) (c := gc83) (q := gp83) (fun _ => rfl) (by decide) fun k hk => by
  obtain rfl : k = 0 := by omega
  exact gt83_0
theorem gt84_0 : (List.range 40).all (fun j => match gc84 (40 * 0 + j) with | some op => gck 84 (40 * 0 + j) op (gp84 (40 * 0 + j)) | none => true) = true := by decide +kernel
theorem gt84_1 : (List.range 40).all (fun j => match gc84 (40 * 1 + j) with | some op => gck 84 (40 * 1 + j) op (gp84 (40 * 1 + j)) | none => true) = true := by decide +kernel
theorem gk84 : ∀ (pc : Nat) (op : gOp), gpr 84 pc = some op → gOk 84 pc op := gprk (len := 41) (nc := 2) (c := gc84) (q := gp84) (fun _ => rfl) (by decide) fun k hk => by
  rcases Nat.lt_or_ge k 1 with h0_2 | h0_2
  · skip
    obtain rfl : k = 0 := by omega
    exact gt84_0
  · skip
    obtain rfl : k = 1 := by omega
    exact gt84_1
theorem gt85_0 : (List.range 40).all (fun j => match gc85 (40 * 0 + j) with | some op => gck 85 (40 * 0 + j) op (gp85 (40 * 0 + j)) | none => true) = true := by decide +kernel
theorem gt85_1 : (List.range 40).all (fun j => match gc85 (40 * 1 + j) with | some op => gck 85 (40 * 1 + j) op (gp85 (40 * 1 + j)) | none => true) = true := by decide +kernel
theorem gt85_2 : (List.range 40).all (fun j => match gc85 (40 * 2 + j) with | some op => gck 85 (40 * 2 + j) op (gp85 (40 * 2 + j)) | none => true) = true := by decide +kernel
theorem gt85_3 : (List.range 40).all (fun j => match gc85 (40 * 3 + j) with | some op => gck 85 (40 * 3 + j) op (gp85 (40 * 3 + j)) | none => true) = true := by decide +kernel
theorem gt85_4 : (List.range 40).all (fun j => match gc85 (40 * 4 + j) with | some op => gck 85 (40 * 4 + j) op (gp85 (40 * 4 + j)) | none => true) = true := by decide +kernel
theorem gk85 : ∀ (pc : Nat) (op : gOp), gpr 85 pc = some op → gOk 85 pc op := gprk (len := 196) (nc := 5) (c := gc85) (q := gp85) (fun _ => rfl) (by decide) fun k hk => by
  rcases Nat.lt_or_ge k 2 with h0_5 | h0_5
  · skip
    rcases Nat.lt_or_ge k 1 with h0_2 | h0_2
    · skip
      obtain rfl : k = 0 := by omega
      exact gt85_0
    · skip
      obtain rfl : k = 1 := by omega
      exact gt85_1
  · skip
    rcases Nat.lt_or_ge k 3 with h2_5 | h2_5
    · skip
      obtain rfl : k = 2 := by omega
      exact gt85_2
    · skip
      rcases Nat.lt_or_ge k 4 with h3_5 | h3_5
      · skip
        obtain rfl : k = 3 := by omega
        exact gt85_3
      · skip
        obtain rfl : k = 4 := by omega
        exact gt85_4
theorem gt86_0 : (List.range 40).all (fun j => match gc86 (40 * 0 + j) with | some op => gck 86 (40 * 0 + j) op (gp86 (40 * 0 + j)) | none => true) = true := by decide +kernel
theorem gk86 : ∀ (pc : Nat) (op : gOp), gpr 86 pc = some op → gOk 86 pc op := gprk (len := 29) (nc := 1) (c := gc86) (q := gp86) (fun _ => rfl) (by decide) fun k hk => by
  obtain rfl : k = 0 := by omega
  exact gt86_0
theorem gt87_0 : (List.range 40).all (fun j => match gc87 (40 * 0 + j) with | some op => gck 87 (40 * 0 + j) op (gp87 (40 * 0 + j)) | none => true) = true := by decide +kernel
theorem gt87_1 : (List.range 40).all (fun j => match gc87 (40 * 1 + j) with | some op => gck 87 (40 * 1 + j) op (gp87 (40 * 1 + j)) | none => true) = true := by decide +kernel
theorem gk87 : ∀ (pc : Nat) (op : gOp), gpr 87 pc = some op → gOk 87 pc op := gprk (len := 43) (nc := 2) (c := gc87) (q := gp87) (fun _ => rfl) (by decide) fun k hk => by
  rcases Nat.lt_or_ge k 1 with h0_2 | h0_2
  · skip
    obtain rfl : k = 0 := by omega
    exact gt87_0
  · skip
    obtain rfl : k = 1 := by omega
    exact gt87_1
theorem gt88_0 : (List.range 40).all (fun j => match gc88 (40 * 0 + j) with | some op => gck 88 (40 * 0 + j) op (gp88 (40 * 0 + j)) | none => true) = true := by decide +kernel
theorem gt88_1 : (List.range 40).all (fun j => match gc88 (40 * 1 + j) with | some op => gck 88 (40 * 1 + j) op (gp88 (40 * 1 + j)) | none => true) = true := by decide +kernel
theorem gt88_2 : (List.range 40).all (fun j => match gc88 (40 * 2 + j) with | some op => gck 88 (40 * 2 + j) op (gp88 (40 * 2 + j)) | none => true) = true := by decide +kernel
theorem gk88 : ∀ (pc : Nat) (op : gOp), gpr 88 pc = some op → gOk 88 pc op := gprk (len := 107) (nc := 3) (c := gc88) (q := gp88) (fun _ => rfl) (by decide) fun k hk => by
  rcases Nat.lt_or_ge k 1 with h0_3 | h0_3
  · skip
    obtain rfl : k = 0 := by omega
    exact gt88_0
  · skip
    rcases Nat.lt_or_ge k 2 with h1_3 | h1_3
    · skip
      obtain rfl : k = 1 := by omega
      exact gt88_1
    · skip
      obtain rfl : k = 2 := by omega
      exact gt88_2
theorem gt89_0 : (List.range 40).all (fun j => match gc89 (40 * 0 + j) with | some op => gck 89 (40 * 0 + j) op (gp89 (40 * 0 + j)) | none => true) = true := by decide +kernel
theorem gt89_1 : (List.range 40).all (fun j => match gc89 (40 * 1 + j) with | some op => gck 89 (40 * 1 + j) op (gp89 (40 * 1 + j)) | none => true) = true := by decide +kernel
theorem gk89 : ∀ (pc : Nat) (op : gOp), gpr 89 pc = some op → gOk 89 pc op := gprk (len := 78) (nc := 2) (c := gc89) (q := gp89) (fun _ => rfl) (by decide) fun k hk => by
  rcases Nat.lt_or_ge k 1 with h0_2 | h0_2
  · skip
    obtain rfl : k = 0 := by omega
    exact gt89_0
  · skip
    obtain rfl : k = 1 := by omega
    exact gt89_1
theorem gt90_0 : (List.range 40).all (fun j => match gc90 (40 * 0 + j) with | some op => gck 90 (40 * 0 + j) op (gp90 (40 * 0 + j)) | none => true) = true := by decide +kernel
theorem gt90_1 : (List.range 40).all (fun j => match gc90 (40 * 1 + j) with | some op => gck 90 (40 * 1 + j) op (gp90 (40 * 1 + j)) | none => true) = true := by decide +kernel
theorem gt90_2 : (List.range 40).all (fun j => match gc90 (40 * 2 + j) with | some op => gck 90 (40 * 2 + j) op (gp90 (40 * 2 + j)) | none => true) = true := by decide +kernel
theorem gk90 : ∀ (pc : Nat) (op : gOp), gpr 90 pc = some op → gOk 90 pc op := gprk (len := 85) (nc := 3) (c := gc90) (q := gp90) (fun _ => rfl) (by decide) fun k hk => by
  rcases Nat.lt_or_ge k 1 with h0_3 | h0_3
  · skip
    obtain rfl : k = 0 := by omega
    exact gt90_0
  · skip
    rcases Nat.lt_or_ge k 2 with h1_3 | h1_3
    · skip
      obtain rfl : k = 1 := by omega
      exact gt90_1
    · skip
      obtain rfl : k = 2 := by omega
      exact gt90_2
theorem gt91_0 : (List.range 40).all (fun j => match gc91 (40 * 0 + j) with | some op => gck 91 (40 * 0 + j) op (gp91 (40 * 0 + j)) | none => true) = true := by decide +kernel
theorem gt91_1 : (List.range 40).all (fun j => match gc91 (40 * 1 + j) with | some op => gck 91 (40 * 1 + j) op (gp91 (40 * 1 + j)) | none => true) = true := by decide +kernel
theorem gt91_2 : (List.range 40).all (fun j => match gc91 (40 * 2 + j) with | some op => gck 91 (40 * 2 + j) op (gp91 (40 * 2 + j)) | none => true) = true := by decide +kernel
theorem gk91 : ∀ (pc : Nat) (op : gOp), gpr 91 pc = some op → gOk 91 pc op := gprk (len := 85) (nc := 3) (c := gc91) (q := gp91) (fun _ => rfl) (by decide) fun k hk => by
  rcases Nat.lt_or_ge k 1 with h0_3 | h0_3
  · skip
    obtain rfl : k = 0 := by omega
    exact gt91_0
  · skip
    rcases Nat.lt_or_ge k 2 with h1_3 | h1_3
    · skip
      obtain rfl : k = 1 := by omega
      exact gt91_1
    · skip
      obtain rfl : k = 2 := by omega
      exact gt91_2
theorem gt92_0 : (List.range 40).all (fun j => match gc92 (40 * 0 + j) with | some op => gck 92 (40 * 0 + j) op (gp92 (40 * 0 + j)) | none => true) = true := by decide +kernel
theorem gk92 : ∀ (pc : Nat) (op : gOp), gpr 92 pc = some op → gOk 92 pc op := gprk (len := 18) (nc := 1) (c := gc92) (q := gp92) (fun _ => rfl) (by decide) fun k hk => by
  obtain rfl : k = 0 := by omega
  exact gt92_0
theorem gt93_0 : (List.range 40).all (fun j => match gc93 (40 * 0 + j) with | some op => gck 93 (40 * 0 + j) op (gp93 (40 * 0 + j)) | none => true) = true := by decide +kernel
theorem gk93 : ∀ (pc : Nat) (op : gOp), gpr 93 pc = some op → gOk 93 pc op := gprk (len := 18) (nc := 1) (c := gc93) (q := gp93) (fun _ => rfl) (by decide) fun k hk => by
  obtain rfl : k = 0 := by omega
  exact gt93_0
theorem gt94_0 : (List.range 40).all (fun j => match gc94 (40 * 0 + j) with | some op => gck 94 (40 * 0 + j) op (gp94 (40 * 0 + j)) | none => true) = true := by decide +kernel
theorem gk94 : ∀ (pc : Nat) (op : gOp), gpr 94 pc = some op → gOk 94 pc op := gprk (len := 24) (nc := 1) (c := gc94) (q := gp94) (fun _ => rfl) (by decide) fun k hk => by
  obtain rfl : k = 0 := by omega
  exact gt94_0
theorem gt95_0 : (List.range 40).all (fun j => match gc95 (40 * 0 + j) with | some op => gck 95 (40 * 0 + j) op (gp95 (40 * 0 + j)) | none => true) = true := by decide +kernel
theorem gk95 : ∀ (pc : Nat) (op : gOp), gpr 95 pc = some op → gOk 95 pc op := gprk (len := 13) (nc := 1) (c := gc95) (q := gp95) (fun _ => rfl) (by decide) fun k hk => by
  obtain rfl : k = 0 := by omega
  exact gt95_0
theorem gt96_0 : (List.range 40).all (fun j => match gc96 (40 * 0 + j) with | some op => gck 96 (40 * 0 + j) op (gp96 (40 * 0 + j)) | none => true) = true := by decide +kernel
theorem gk96 : ∀ (pc : Nat) (op : gOp), gpr 96 pc = some op → gOk 96 pc op := gprk (len := 37) (nc := 1) (c := gc96) (q := gp96) (fun _ => rfl) (by decide) fun k hk => by
  obtain rfl : k = 0 := by omega
  exact gt96_0
theorem gt97_0 : (List.range 40).all (fun j => match gc97 (40 * 0 + j) with | some op => gck 97 (40 * 0 + j) op (gp97 (40 * 0 + j)) | none => true) = true := by decide +kernel
theorem gt97_1 : (List.range 40).all (fun j => match gc97 (40 * 1 + j) with | some op => gck 97 (40 * 1 + j) op (gp97 (40 * 1 + j)) | none => true) = true := by decide +kernel
theorem gt97_2 : (List.range 40).all (fun j => match gc97 (40 * 2 + j) with | some op => gck 97 (40 * 2 + j) op (gp97 (40 * 2 + j)) | none => true) = true := by decide +kernel
theorem gk97 : ∀ (pc : Nat) (op : gOp), gpr 97 pc = some op → gOk 97 pc op := gprk (len := 83) (nc := 3) (c := gc97) (q := gp97) (fun _ => rfl) (by decide) fun k hk => by
  rcases Nat.lt_or_ge k 1 with h0_3 | h0_3
  · skip
    obtain rfl : k = 0 := by omega
    exact gt97_0
  · skip
    rcases Nat.lt_or_ge k 2 with h1_3 | h1_3
    · skip
      obtain rfl : k = 1 := by omega
      exact gt97_1
    · skip
      obtain rfl : k = 2 := by omega
      exact gt97_2
theorem gt98_0 : (List.range 40).all (fun j => match gc98 (40 * 0 + j) with | some op => gck 98 (40 * 0 + j) op (gp98 (40 * 0 + j)) | none => true) = true := by decide +kernel
theorem gt98_1 : (List.range 40).all (fun j => match gc98 (40 * 1 + j) with | some op => gck 98 (40 * 1 + j) op (gp98 (40 * 1 + j)) | none => true) = true := by decide +kernel
theorem gk98 : ∀ (pc : Nat) (op : gOp), gpr 98 pc = some op → gOk 98 pc op := gprk (len := 52) (nc := 2) (c := gc98) (q := gp98) (fun _ => rfl) (by decide) fun k hk => by
  rcases Nat.lt_or_ge k 1 with h0_2 | h0_2
  · skip
    obtain rfl : k = 0 := by omega
    exact gt98_0
  · skip
    obtain rfl : k = 1 := by omega
    exact gt98_1
theorem gt99_0 : (List.range 40).all (fun j => match gc99 (40 * 0 + j) with | some op => gck 99 (40 * 0 + j) op (gp99 (40 * 0 + j)) | none => true) = true := by decide +kernel
theorem gt99_1 : (List.range 40).all (fun j => match gc99 (40 * 1 + j) with | some op => gck 99 (40 * 1 + j) op (gp99 (40 * 1 + j)) | none => true) = true := by decide +kernel
theorem gk99 : ∀ (pc : Nat) (op : gOp), gpr 99 pc = some op → gOk 99 pc op := gprk (len := 53) (nc := 2) (c := gc99) (q := gp99) (fun _ => rfl) (by decide) fun k hk => by
  rcases Nat.lt_or_ge k 1 with h0_2 | h0_2
  · skip
    obtain rfl : k = 0 := by omega
    exact gt99_0
  · skip
    obtain rfl : k = 1 := by omega
    exact gt99_1
theorem gt100_0 : (List.range 40).all (fun j => match gc100 (40 * 0 + j) with | some op => gck 100 (40 * 0 + j) op (gp100 (40 * 0 + j)) | none => true) = true := by decide +kernel
theorem gt100_1 : (List.range 40).all (fun j => match gc100 (40 * 1 + j) with | some op => gck 100 (40 * 1 + j) op (gp100 (40 * 1 + j)) | none => true) = true := by decide +kernel
theorem gk100 : ∀ (pc : Nat) (op : gOp), gpr 100 pc = some op → gOk 100 pc op := gprk (len := 49) (nc := 2) (c := gc100) (q := gp100) (fun _ => rfl) (by decide) fun k hk => by
  rcases Nat.lt_or_ge k 1 with h0_2 | h0_2
  · skip
    obtain rfl : k = 0 := by omega
    exact gt100_0
  · skip
    obtain rfl : k = 1 := by omega
    exact gt100_1
theorem gt101_0 : (List.range 40).all (fun j => match gc101 (40 * 0 + j) with | some op => gck 101 (40 * 0 + j) op (gp101 (40 * 0 + j)) | none => true) = true := by decide +kernel
theorem gt101_1 : (List.range 40).all (fun j => match gc101 (40 * 1 + j) with | some op => gck 101 (40 * 1 + j) op (gp101 (40 * 1 + j)) | none => true) = true := by decide +kernel
theorem gk101 : ∀ (pc : Nat) (op : gOp), gpr 101 pc = some op → gOk 101 pc op := gprk (len := 56) (nc := 2) (c := gc101) (q := gp101) (fun _ => rfl) (by decide) fun k hk => by
  rcases Nat.lt_or_ge k 1 with h0_2 | h0_2
  · skip
    obtain rfl : k = 0 := by omega
    exact gt101_0
  · skip
    obtain rfl : k = 1 := by omega
    exact gt101_1
theorem gt102_0 : (List.range 40).all (fun j => match gc102 (40 * 0 + j) with | some op => gck 102 (40 * 0 + j) op (gp102 (40 * 0 + j)) | none => true) = true := by decide +kernel
theorem gk102 : ∀ (pc : Nat) (op : gOp), gpr 102 pc = some op → gOk 102 pc op := gprk (len := 36) (nc := 1) (c := gc102) (q := gp102) (fun _ => rfl) (by decide) fun k hk => by
  obtain rfl : k = 0 := by omega
  exact gt102_0
theorem gt103_0 : (List.range 40).all (fun j => match gc103 (40 * 0 + j) with | some op => gck 103 (40 * 0 + j) op (gp103 (40 * 0 + j)) | none => true) = true := by decide +kernel
theorem gk103 : ∀ (pc : Nat) (op : gOp), gpr 103 pc = some op → gOk 103 pc op := gprk (len := 25) (nc := 1) (c := gc103) (q := gp103) (fun _ => rfl) (by decide) fun k hk => by
  obtain rfl : k = 0 := by omega
  exact gt103_0
theorem gt104_0 : (List.range 40).all (fun j => match gc104 (40 * 0 + j) with | some op => gck 104 (40 * 0 + j) op (gp104 (40 * 0 + j)) | none => true) = true := by decide +kernel
theorem gk104 : ∀ (pc : Nat) (op : gOp), gpr 104 pc = some op → gOk 104 pc op := gprk (len := 24) (nc := 1) (c := gc104) (q := gp104) (fun _ => rfl) (by decide) fun k hk => by
  obtain rfl : k = 0 := by omega
  exact gt104_0
theorem gt105_0 : (List.range 40).all (fun j => match gc105 (40 * 0 + j) with | some op => gck 105 (40 * 0 + j) op (gp105 (40 * 0 + j)) | none => true) = true := by decide +kernel
theorem gk105 : ∀ (pc : Nat) (op : gOp), gpr 105 pc = some op → gOk 105 pc op := gprk (len := 10) (nc := 1) (c := gc105) (q := gp105) (fun _ => rfl) (by decide) fun k hk => by
  obtain rfl : k = 0 := by omega
  exact gt105_0
theorem gt106_0 : (List.range 40).all (fun j => match gc106 (40 * 0 + j) with | some op => gck 106 (40 * 0 + j) op (gp106 (40 * 0 + j)) | none => true) = true := by decide +kernel
theorem gt106_1 : (List.range 40).all (fun j => match gc106 (40 * 1 + j) with | some op => gck 106 (40 * 1 + j) op (gp106 (40 * 1 + j)) | none => true) = true := by decide +kernel
theorem gt106_2 : (List.range 40).all (fun j => match gc106 (40 * 2 + j) with | some op => gck 106 (40 * 2 + j) op (gp106 (40 * 2 + j)) | none => true) = true := by decide +kernel
theorem gt106_3 : (List.range 40).all (fun j => match gc106 (40 * 3 + j) with | some op => gck 106 (40 * 3 + j) op (gp106 (40 * 3 + j)) | none => true) = true := by decide +kernel
theorem gt106_4 : (List.range 40).all (fun j => match gc106 (40 * 4 + j) with | some op => gck 106 (40 * 4 + j) op (gp106 (40 * 4 + j)) | none => true) = true := by decide +kernel
theorem gt106_5 : (List.range 40).all (fun j => match gc106 (40 * 5 + j) with | some op => gck 106 (40 * 5 + j) op (gp106 (40 * 5 + j)) | none => true) = true := by decide +kernel
theorem gt106_6 : (List.range 40).all (fun j => match gc106 (40 * 6 + j) with | some op => gck 106 (40 * 6 + j) op (gp106 (40 * 6 + j)) | none => true) = true := by decide +kernel
theorem gt106_7 : (List.range 40).all (fun j => match gc106 (40 * 7 + j) with | some op => gck 106 (40 * 7 + j) op (gp106 (40 * 7 + j)) | none => true) = true := by decide +kernel
theorem gk106 : ∀ (pc : Nat) (op : gOp), gpr 106 pc = some op → gOk 106 pc op := gprk (len := 320) (nc := 8) (c := gc106) (q := gp106) (fun _ => rfl) (by decide) fun k hk => by
  rcases Nat.lt_or_ge k 4 with h0_8 | h0_8
  · skip
    rcases Nat.lt_or_ge k 2 with h0_4 | h0_4
    · skip
      rcases Nat.lt_or_ge k 1 with h0_2 | h0_2
      · skip
        obtain rfl : k = 0 := by omega
        exact gt106_0
      · skip
        obtain rfl : k = 1 := by omega
        exact gt106_1
    · skip
      rcases Nat.lt_or_ge k 3 with h2_4 | h2_4
      · skip
        obtain rfl : k = 2 := by omega
        exact gt106_2
      · skip
        obtain rfl : k = 3 := by omega
        exact gt106_3
  · skip
    rcases Nat.lt_or_ge k 6 with h4_8 | h4_8
    · skip
      rcases Nat.lt_or_ge k 5 with h4_6 | h4_6
      · skip
        obtain rfl : k = 4 := by omega
        exact gt106_4
      · skip
        obtain rfl : k = 5 := by omega
        exact gt106_5
    · skip
      rcases Nat.lt_or_ge k 7 with h6_8 | h6_8
      · skip
        obtain rfl : k = 6 := by omega
        exact gt106_6
      · skip
        obtain rfl : k = 7 := by omega
        exact gt106_7
theorem gt107_0 : (List.range 40).all (fun j => match gc107 (40 * 0 + j) with | some op => gck 107 (40 * 0 + j) op (gp107 (40 * 0 + j)) | none => true) = true := by decide +kernel
theorem gk107 : ∀ (pc : Nat) (op : gOp), gpr 107 pc = some op → gOk 107 pc op := gprk (len := 23) (nc := 1) (c := gc107) (q := gp107) (fun _ => rfl) (by decide) fun k hk => by
  obtain rfl : k = 0 := by omega
  exact gt107_0
theorem gt108_0 : (List.range 40).all (fun j => match gc108 (40 * 0 + j) with | some op => gck 108 (40 * 0 + j) op (gp108 (40 * 0 + j)) | none => true) = true := by decide +kernel
theorem gk108 : ∀ (pc : Nat) (op : gOp), gpr 108 pc = some op → gOk 108 pc op := gprk (len := 21) (nc := 1) (c := gc108) (q := gp108) (fun _ => rfl) (by decide) fun k hk => by
  obtain rfl : k = 0 := by omega
  exact gt108_0
theorem gt109_0 : (List.range 40).all (fun j => match gc109 (40 * 0 + j) with | some op => gck 109 (40 * 0 + j) op (gp109 (40 * 0 + j)) | none => true) = true := by decide +kernel
theorem gk109 : ∀ (pc : Nat) (op : gOp), gpr 109 pc = some op → gOk 109 pc op := gprk (len := 21) (nc := 1) (c := gc109) (q := gp109) (fun _ => rfl) (by decide) fun k hk => by
  obtain rfl : k = 0 := by omega
  exact gt109_0
theorem gt110_0 : (List.range 40).all (fun j => match gc110 (40 * 0 + j) with | some op => gck 110 (40 * 0 + j) op (gp110 (40 * 0 + j)) | none => true) = true := by decide +kernel
theorem gt110_1 : (List.range 40).all (fun j => match gc110 (40 * 1 + j) with | some op => gck 110 (40 * 1 + j) op (gp110 (40 * 1 + j)) | none => true) = true := by decide +kernel
theorem gk110 : ∀ (pc : Nat) (op : gOp), gpr 110 pc = some op → gOk 110 pc op := gprk (len := 70) (nc := 2) (c := gc110) (q := gp110) (fun _ => rfl) (by decide) fun k hk => by
  rcases Nat.lt_or_ge k 1 with h0_2 | h0_2
  · skip
    obtain rfl : k = 0 := by omega
    exact gt110_0
  · skip
    obtain rfl : k = 1 := by omega
    exact gt110_1
