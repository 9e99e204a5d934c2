theorem gt111_0 : (List.range 40).all (fun j => match gc111 (40 * 0 + j) with | some op => gck 111 (40 * 0 + j) op (gp111 (40 * 0 + j)) | none => true) = true := by decide +kernel
theorem gk111 : ∀ (pc : Nat) (op : gOp), gpr 111 pc = some op → gOk 111 pc op := gprk (len := 18) (nc := 1) (c := gc111) (q := gp111) (fun _ => rfl) (by decide) fun k hk => by
  obtain rfl : k = 0 := by omega
  exact gt111_0
theorem gt112_0 : (List.range 40).all (fun j => match gc112 (40 * 0 + j) with | some op => gck 112 (40 * 0 + j) op (gp112 (40 * 0 + j)) | none => true) = true := by decide +kernel
theorem gk112 : ∀ (pc : Nat) (op : gOp), gpr 112 pc = some op → gOk 112 pc op := gprk (len := 18) (nc := 1) (c := gc112) (q := gp112) (fun _ => rfl) (by decide) fun k hk => by
  obtain rfl : k = 0 := by omega
  exact gt112_0
theorem gt113_0 : (List.range 40).all (fun j => match gc113 (40 * 0 + j) with | some op => gck 113 (40 * 0 + j) op (gp113 (40 * 0 + j)) | none => true) = true := by decide +kernel
theorem gk113 : ∀ (pc : Nat) (op : gOp), gpr 113 pc = some op → gOk 113 pc op := gprk (len := 18) (nc := 1) (c := gc113) (q := gp113) (fun _ => rfl) (by decide) fun k hk => by
  obtain rfl : k = 0 := by omega
  exact gt113_0
theorem gt114_0 : (List.range 40).all (fun j => match gc114 (40 * 0 + j) with | some op => gck 114 (40 * 0 + j) op (gp114 (40 * 0 + j)) | none => true) = true := by decide +kernel
theorem gt114_1 : (List.range 40).all (fun j => match gc114 (40 * 1 + j) with | some op => gck 114 (40 * 1 + j) op (gp114 (40 * 1 + j)) | none => true) = true := by decide +kernel
theorem gt114_2 : (List.range 40).all (fun j => match gc114 (40 * 2 + j) with | some op => gck 114 (40 * 2 + j) op (gp114 (40 * 2 + j)) | none => true) = true := by decide +kernel
theorem gk114 : ∀ (pc : Nat) (op : gOp), gpr 114 pc = some op → gOk 114 pc op := gprk (len := 112) (nc := 3) (c := gc114) (q := gp114) (fun _ => rfl) (by decide) fun k hk => by
  rcases Nat.lt_or_ge k 1 with h0_3 | h0_3
  · skip
    obtain rfl : k = 0 := by omega
    exact gt114_0
  · skip
    rcases Nat.lt_or_ge k 2 with h1_3 | h1_3
    · skip
      obtain rfl : k = 1 := by omega
      exact gt114_1
    · skip
      obtain rfl : k = 2 := by omega
      exact gt114_2
theorem gt115_0 : (List.range 40).all (fun j => match gc115 (40 * 0 + j) with | some op => gck 115 (40 * 0 + j) op (gp115 (40 * 0 + j)) | none => true) = true := by decide +kernel
theorem gt115_1 : (List.range 40).all (fun j => match gc115 (40 * 1 + j) with | some op => gck 115 (40 * 1 + j) op (gp115 (40 * 1 + j)) | none => true) = true := by decide +kernel
theorem gt115_2 : (List.range 40).all (fun j => match gc115 (40 * 2 + j) with | some op => gck 115 (40 * 2 + j) op (gp115 (40 * 2 + j)) | none => true) = true := by decide +kernel
theorem gt115_3 : (List.range 40).all (fun j => match gc115 (40 * 3 + j) with | some op => gck 115 (40 * 3 + j) op (gp115 (40 * 3 + j)) | none => true) = true := by decide +kernel
theorem gk115 : ∀ (pc : Nat) (op : gOp), gpr 115 pc = some op → gOk 115 pc op := gprk (len := 148) (nc := 4) (c := gc115) (q := gp115) (fun _ => rfl) (by decide) fun k hk => by
  rcases Nat.lt_or_ge k 2 with h0_4 | h0_4
  · skip
    rcases Nat.lt_or_ge k 1 with h0_2 | h0_2
    · skip
      obtain rfl : k = 0 := by omega
      exact gt115_0
    · skip
      obtain rfl : k = 1 := by omega
      exact gt115_1
  · skip
    rcases Nat.lt_or_ge k 3 with h2_4 | h2_4
    · skip
      obtain rfl : k = 2 := by omega
      exact gt115_2
    · skip
      obtain rfl : k = 3 := by omega
      exact gt115_3
theorem gt116_0 : (List.range 40).all (fun j => match gc116 (40 * 0 + j) with | some op => gck 116 (40 * 0 + j) op (gp116 (40 * 0 + j)) | none => true) = true := by decide +kernel
theorem gt116_1 : (List.range 40).all (fun j => match gc116 (40 * 1 + j) with | some op => gck 116 (40 * 1 + j) op (gp116 (40 * 1 + j)) | none => true) = true := by decide +kernel
theorem gk116 : ∀ (pc : Nat) (op : gOp), gpr 116 pc = some op → gOk 116 pc op := gprk (len := 72) (nc := 2) (c := gc116) (q := gp116) (fun _ => rfl) (by decide) fun k hk => by
  rcases Nat.lt_or_ge k 1 with h0_2 | h0_2
  · skip
    obtain rfl : k = 0 := by omega
    exact gt116_0
  · skip
    obtain rfl : k = 1 := by omega
    exact gt116_1
theorem gt117_0 : (List.range 40).all (fun j => match gc117 (40 * 0 + j) with | some op => gck 117 (40 * 0 + j) op (gp117 (40 * 0 + j)) | none => true) = true := by decide +kernel
theorem gk117 : ∀ (pc : Nat) (op : gOp), gpr 117 pc = some op → gOk 117 pc op := gprk (len := 31) (nc := 1) (c := gc117) (q := gp117) (fun _ => rfl) (by decide) fun k hk => by
  obtain rfl : k = 0 := by omega
  exact gt117_0
theorem gt118_0 : (List.range 40).all (fun j => match gc118 (40 * 0 + j) with | some op => gck 118 (40 * 0 + j) op (gp118 (40 * 0 + j)) | none => true) = true := by decide +kernel
theorem gt118_1 : (List.range 40).all (fun j => match gc118 (40 * 1 + j) with | some op => gck 118 (40 * 1 + j) op (gp118 (40 * 1 + j)) | none => true) = true := by decide +kernel
theorem gt118_2 : (List.range 40).all (fun j => match gc118 (40 * 2 + j) with | some op => gck 118 (40 * 2 + j) op (gp118 (40 * 2 + j)) | none => true) = true := by decide +kernel
theorem gk118 : ∀ (pc : Nat) (op : gOp), gpr 118 pc = some op → gOk 118 pc op := gprk (len := 88) (nc := 3) (c := gc118) (q := gp118) (fun _ => rfl) (by decide) fun k hk => by
  rcases Nat.lt_or_ge k 1 with h0_3 | h0_3
  · skip
    obtain rfl : k = 0 := by omega
    exact gt118_0
  · skip
    rcases Nat.lt_or_ge k 2 with h1_3 | h1_3
    · skip
      obtain rfl : k = 1 := by omega
      exact gt118_1
    · skip
      obtain rfl : k = 2 := by omega
      exact gt118_2
theorem gt119_0 : (List.range 40).all (fun j => match gc119 (40 * 0 + j) with | some op => gck 119 (40 * 0 + j) op (gp119 (40 * 0 + j)) | none => true) = true := by decide +kernel
theorem gk119 : ∀ (pc : Nat) (op : gOp), gpr 119 pc = some op → gOk 119 pc op := gprk (len := 25) (nc := 1) (c := gc119) (q := gp119) (fun _ => rfl) (by decide) fun k hk => by
  obtain rfl : k = 0 := by omega
  exact gt119_0
theorem gt120_0 : (List.range 40).all (fun j => match gc120 (40 * 0 + j) with | some op => gck 120 (40 * 0 + j) op (gp120 (40 * 0 + j)) | none => true) = true := by decide +kernel
theorem gt120_1 : (List.range 40).all (fun j => match gc120 (40 * 1 + j) with | some op => gck 120 (40 * 1 + j) op (gp120 (40 * 1 + j)) | none => true) = true := by decide +kernel
theorem gt120_2 : (List.range 40).all (fun j => match gc120 (40 * 2 + j) with | some op => gck 120 (40 * 2 + j) op (gp120 (40 * 2 + j)) | none => true) = true := by decide +kernel
theorem gt120_3 : (List.range 40).all (fun j => match gc120 (40 * 3 + j) with | some op => gck 120 (40 * 3 + j) op (gp120 (40 * 3 + j)) | none => true) = true := by decide +kernel
theorem gt120_4 : (List.range 40).all (fun j => match gc120 (40 * 4 + j) with | some op => gck 120 (40 * 4 + j) op (gp120 (40 * 4 + j)) | none => true) = true := by decide +kernel
theorem gt120_5 : (List.range 40).all (fun j => match gc120 (40 * 5 + j) with | some op => gck 120 (40 * 5 + j) op (gp120 (40 * 5 + j)) | none => true) = true := by decide +kernel
theorem gk120 : ∀ (pc : Nat) (op : gOp), gpr 120 pc = some op → gOk 120 pc op := gprk (len := 205) (nc := 6) (c := gc120) (q := gp120) (fun _ => rfl) (by decide) fun k hk => by
  rcases Nat.lt_or_ge k 3 with h0_6 | h0_6
  · skip
    rcases Nat.lt_or_ge k 1 with h0_3 | h0_3
    · skip
      obtain rfl : k = 0 := by omega
      exact gt120_0
    · skip
      rcases Nat.lt_or_ge k 2 with h1_3 | h1_3
      · skip
        obtain rfl : k = 1 := by omega
        exact gt120_1
      · skip
        obtain rfl : k = 2 := by omega
        exact gt120_2
  · skip
    rcases Nat.lt_or_ge k 4 with h3_6 | h3_6
    · skip
      obtain rfl : k = 3 := by omega
      exact gt120_3
    · skip
      rcases Nat.lt_or_ge k 5 with h4_6 | h4_6
      · skip
        obtain rfl : k = 4 := by omega
        exact gt120_4
      · skip
        obtain rfl : k = 5 := by omega
        exact gt120_5
theorem gt121_0 : (List.range 40).all (fun j => match gc121 (40 * 0 + j) with | some op => gck 121 (40 * 0 + j) op (gp121 (40 * 0 + j)) | none => true) = true := by decide +kernel
theorem gt121_1 : (List.range 40).all (fun j => match gc121 (40 * 1 + j) with | some op => gck 121 (40 * 1 + j) op (gp121 (40 * 1 + j)) | none => true) = true := by decide +kernel
theorem gk121 : ∀ (pc : Nat) (op : gOp), gpr 121 pc = some op → gOk 121 pc op := gprk (len := 75) (nc := 2) (c := gc121) (q := gp121) (fun _ => rfl) (by decide) fun k hk => by
  rcases Nat.lt_or_ge k 1 with h0_2 | h0_2
  · skip
    obtain rfl : k = 0 := by omega
    exact gt121_0
  · skip
    obtain rfl : k = 1 := by omega
    exact gt121_1
theorem gt122_0 : (List.range 40).all (fun j => match gc122 (40 * 0 + j) with | some op => gck 122 (40 * 0 + j) op (gp122 (40 * 0 + j)) | none => true) = true := by decide +kernel
theorem gt122_1 : (List.range 40).all (fun j => match gc122 (40 * 1 + j) with | some op => gck 122 (40 * 1 + j) op (gp122 (40 * 1 + j)) | none => true) = true := by decide +kernel
theorem gt122_2 : (List.range 40).all (fun j => match gc122 (40 * 2 + j) with | some op => gck 122 (40 * 2 + j) op (gp122 (40 * 2 + j)) | none => true) = true := by decide +kernel
theorem gk122 : ∀ (pc : Nat) (op : gOp), gpr 122 pc = some op → gOk 122 pc op := gprk (len := 105) (nc := 3) (c := gc122) (q := gp122) (fun _ => rfl) (by decide) fun k hk => by
  rcases Nat.lt_or_ge k 1 with h0_3 | h0_3
  · skip
    obtain rfl : k = 0 := by omega
    exact gt122_0
  · skip
    rcases Nat.lt_or_ge k 2 with h1_3 | h1_3
    · skip
      obtain rfl : k = 1 := by omega
      exact gt122_1
    · skip
      obtain rfl : k = 2 := by omega
      exact gt122_2
theorem gt123_0 : (List.range 40).all (fun j => match gc123 (40 * 0 + j) with | some op => gck 123 (40 * 0 + j) op (gp123 (40 * 0 + j)) | none => true) = true := by decide +kernel
theorem gt123_1 : (List.range 40).all (fun j => match gc123 (40 * 1 + j) with | some op => gck 123 (40 * 1 + j) op (gp123 (40 * 1 + j)) | none => true) = true := by decide +kernel
theorem gt123_2 : (List.range 40).all (fun j => match gc123 (40 * 2 + j) with | some op => gck 123 (40 * 2 + j) op (gp123 (40 * 2 + j)) | none => true) = true := by decide +kernel
theorem gk123 : ∀ (pc : Nat) (op : gOp), gpr 123 pc = some op → gOk 123 pc op := gprk (len := 87) (nc := 3) (c := gc123) (q := gp123) (fun _ => rfl) (by decide) fun k hk => by
  rcases Nat.lt_or_ge k 1 with h0_3 | h0_3
  · skip
    obtain rfl : k = 0 := by omega
    exact gt123_0
  · skip
    rcases Nat.lt_or_ge k 2 with h1_3 | h1_3
    · skip
      obtain rfl : k = 1 := by omega
      exact gt123_1
    · skip
      obtain rfl : k = 2 := by omega
      exact gt123_2
theorem gt124_0 : (List.range 40).all (fun j => match gc124 (40 * 0 + j) with | some op => gck 124 (40 * 0 + j) op (gp124 (40 * 0 + j)) | none => true) = true := by decide +kernel
theorem gt124_1 : (List.range 40).all (fun j => match gc124 (40 * 1 + j) with | some op => gck 124 (40 * 1 + j) op (gp124 (40 * 1 + j)) | none => true) = true := by decide +kernel
theorem gk124 : ∀ (pc : Nat) (op : gOp), gpr 124 pc = some op → gOk 124 pc op := gprk (len := 49) (nc := 2) (c := gc124) (q := gp124) (fun _ => rfl) (by decide) fun k hk => by
  rcases Nat.lt_or_ge k 1 with h0_2 | h0_2
  · skip
    obtain rfl : k = 0 := by omega
    exact gt124_0
  · skip
    obtain rfl : k = 1 := by omega
    exact gt124_1
theorem gt125_0 : (List.range 40).all (fun j => match gc125 (40 * 0 + j) with | some op => gck 125 (40 * 0 + j) op (gp125 (40 * 0 + j)) | none => true) = true := by decide +kernel
theorem gk125 : ∀ (pc : Nat) (op : gOp), gpr 125 pc = some op → gOk 125 pc op := gprk (len := 10) (nc := 1) (c := gc125) (q := gp125) (fun _ => rfl) (by decide) fun k hk => by
  obtain rfl : k = 0 := by omega
  exact gt125_0
theorem gt126_0 : (List.range 40).all (fun j => match gc126 (40 * 0 + j) with | some op => gck 126 (40 * 0 + j) op (gp126 (40 * 0 + j)) | none => true) = true := by decide +kernel
theorem gt126_1 : (List.range 40).all (fun j => match gc126 (40 * 1 + j) with | some op => gck 126 (40 * 1 + j) op (gp126 (40 * 1 + j)) | none => true) = true := by decide +kernel
theorem gk126 : ∀ (pc : Nat) (op : gOp), gpr 126 pc = some op → gOk 126 pc op := gprk (len := 47) (nc := 2) (c := gc126) (q := gp126) (fun _ => rfl) (by decide) fun k hk => by
  rcases Nat.lt_or_ge k 1 with h0_2 | h0_2
  · skip
    obtain rfl : k = 0 := by omega
    exact gt126_0
  · skip
    obtain rfl : k = 1 := by omega
    exact gt126_1
theorem gt127_0 : (List.range 40).all (fun j => match gc127 (40 * 0 + j) with | some op => gck 127 (40 * 0 + j) op (gp127 (40 * 0 + j)) | none => true) = true := by decide +kernel
theorem gk127 : ∀ (pc : Nat) (op : gOp), gpr 127 pc = some op → gOk 127 pc op := gprk (len := 27) (nc := 1) (c := gc127) (q := gp127) (fun _ => rfl) (by decide) fun k hk => by
  obtain rfl : k = 0 := by omega
  exact gt127_0
theorem gt128_0 : (List.range 40).all (fun j => match gc128 (40 * 0 + j) with | some op => gck 128 (40 * 0 + j) op (gp128 (40 * 0 + j)) | none => true) = true := by decide +kernel
theorem gk128 : ∀ (pc : Nat) (op : gOp), gpr 128 pc = some op → gOk 128 pc op := gprk (len := 27) (nc := 1) (c := gc128) (q := gp128) (fun _ => rfl) (by decide) fun k hk => by
  obtain rfl : k = 0 := by omega
  exact gt128_0
theorem gt129_0 : (List.range 40).all (fun j => match gc129 (40 * 0 + j) with | some op => gck 129 (40 * 0 + j) op (gp129 (40 * 0 + j)) | none => true) = true := by decide +kernel
theorem gt129_1 : (List.range 40).all (fun j => match gc129 (40 * 1 + j) with | some op => gck 129 (40 * 1 + j) op (gp129 (40 * 1 + j)) | none => true) = true := by decide +kernel
theorem gk129 : ∀ (pc : Nat) (op : gOp), gpr 129 pc = some op → gOk 129 pc op := gprk (len := 58) (nc := 2) (c := gc129) (q := gp129) (fun _ => rfl) (by decide) fun k hk => by
  rcases Nat.lt_or_ge k 1 with h0_2 | h0_2
  · skip
    obtain rfl : k = 0 := by omega
    exact gt129_0
  · skip
    obtain rfl : k = 1 := by omega
    exact gt129_1
theorem gt130_0 : (List.range 40).all (fun j => match gc130 (40 * 0 + j) with | some op => gck 130 (40 * 0 + j) op (gp130 (40 * 0 + j)) | none => true) = true := by decide +kernel
theorem gk130 : ∀ (pc : Nat) (op : gOp), gpr 130 pc = some op → gOk 130 pc op := gprk (len := 35) (nc := 1) (c := gc130) (q := gp130) (fun _ => rfl) (by decide) fun k hk => by
  obtain rfl : k = 0 := by omega
  exact gt130_0
theorem gt131_0 : (List.range 40).all (fun j => match gc131 (40 * 0 + j) with | some op => gck 131 (40 * 0 + j) op (gp131 (40 * 0 + j)) | none => true) = true := by decide +kernel
theorem gk131 : ∀ (pc : Nat) (op : gOp), gpr 131 pc = some op → gOk 131 pc op := gprk (len := 27) (nc := 1) (c := gc131) (q := gp131) (fun _ => rfl) (by decide) fun k hk => by
  obtain rfl : k = 0 := by omega
  exact gt131_0
theorem gt132_0 : (List.range 40).all (fun j => match gc132 (40 * 0 + j) with | some op => gck 132 (40 * 0 + j) op (gp132 (40 * 0 + j)) | none => true) = true := by decide +kernel
theorem gk132 : ∀ (pc : Nat) (op : gOp), gpr 132 pc = some op → gOk 132 pc op := gprk (len := 37) (nc := 1) (c := gc132) (q := gp132) (fun _ => rfl) (by decide) fun k hk => by
  obtain rfl : k = 0 := by omega
  exact gt132_0
theorem gt133_0 : (List.range 40).all (fun j => match gc133 (40 * 0 + j) with | some op => gck 133 (40 * 0 + j) op (gp133 (40 * 0 + j)) | none => true) = true := by decide +kernel
theorem gt133_1 : (List.range 40).all (fun j => match gc133 (40 * 1 + j) with | some op => gck 133 (40 * 1 + j) op (gp133 (40 * 1 + j)) | none => true) = true := by decide +kernel
theorem gk133 : ∀ (pc : Nat) (op : gOp), gpr 133 pc = some op → gOk 133 pc op := gprk (len := 59) (nc := 2) (c := gc133) (q := gp133) (fun _ => rfl) (by decide) fun k hk => by
  rcases Nat.lt_or_ge k 1 with h0_2 | h0_2
  · skip
    obtain rfl : k = 0 := by omega
    exact gt133_0
  · skip
    obtain rfl : k = 1 := by omega
    exact gt133_1
theorem gt134_0 : (List.range 40).all (fun j => match gc134 (40 * 0 + j) with | some op => gck 134 (40 * 0 + j) op (gp134 (40 * 0 + j)) | none => true) = true := by decide +kernel
theorem gk134 : ∀ (pc : Nat) (op : gOp), gpr 134 pc = some op → gOk 134 pc op := gprk (len := 33) (nc := 1) (c := gc134) (q := gp134) (fun _ => rfl) (by decide) fun k hk => by
  obtain rfl : k = 0 := by omega
  exact gt134_0
theorem gt135_0 : (List.range 40).all (fun j => match gc135 (40 * 0 + j) with | some op => gck 135 (40 * 0 + j) op (gp135 (40 * 0 + j)) | none => true) = true := by decide +kernel
theorem gt135_1 : (List.range 40).all (fun j => match gc135 (40 * 1 + j) with | some op => gck 135 (40 * 1 + j) op (gp135 (40 * 1 + j)) | none => true) = true := by decide +kernel
theorem gk135 : ∀ (pc : Nat) (op : gOp), gpr 135 pc = some op → gOk 135 pc op := gprk (len := 50) (nc := 2) (c := gc135) (q := gp135) (fun _ => rfl) (by decide) fun k hk => by
  rcases Nat.lt_or_ge k 1 with h0_2 | h0_2
  · skip
    obtain rfl : k = 0 := by omega
    exact gt135_0
  · skip
    obtain rfl : k = 1 := by omega
    exact gt135_1
theorem gt136_0 : (List.range 40).all (fun j => match gc136 (40 * 0 + j) with | some op => gck 136 (40 * 0 + j) op (gp136 (40 * 0 + j)) | none => true) = true := by decide +kernel
theorem gt136_1 : (List.range 40).all (fun j => match gc136 (40 * 1 + j) with | some op => gck 136 (40 * 1 + j) op (gp136 (40 * 1 + j)) | none => true) = true := by decide +kernel
theorem gk136 : ∀ (pc : Nat) (op : gOp), gpr 136 pc = some op → gOk 136 pc op := gprk (len := 61) (nc := 2) (c := gc136) (q := gp136) (fun _ => rfl) (by decide) fun k hk => by
  rcases Nat.lt_or_ge k 1 with h0_2 | h0_2
  · skip
    obtain rfl : k = 0 := by omega
    exact gt136_0
  · skip
    obtain rfl : k = 1 := by omega
    exact gt136_1
theorem gt137_0 : (List.range 40).all (fun j => match gc137 (40 * 0 + j) with | some op => gck 137 (40 * 0 + j) op (gp137 (40 * 0 + j)) | none => true) = true := by decide +kernel
theorem gt137_1 : (List.range 40).all (fun j => match gc137 (40 * 1 + j) with | some op => gck 137 (40 * 1 + j) op (gp137 (40 * 1 + j)) | none => true) = true := by decide +kernel
theorem gk137 : ∀ (pc : Nat) (op : gOp), gpr 137 pc = some op → gOk 137 pc op := gprk (len := 72) (nc := 2) (c := gc137) (q := gp137) (fun _ => rfl) (by decide) fun k hk => by
  rcases Nat.lt_or_ge k 1 with h0_2 | h0_2
  · skip
    obtain rfl : k = 0 := by omega
    exact gt137_0
  · skip
    obtain rfl : k = 1 := by omega
    exact gt137_1
theorem gt138_0 : (List.range 40).all (fun j => match gc138 (40 * 0 + j) with | some op => gck 138 (40 * 0 + j) op (gp138 (40 * 0 + j)) | none => true) = true := by decide +kernel
theorem gt138_1 : (List.range 40).all (fun j => match gc138 (40 * 1 + j) with | some op => gck 138 (40 * 1 + j) op (gp138 (40 * 1 + j)) | none => true) = true := by decide +kernel
theorem gk138 : ∀ (pc : Nat) (op : gOp), gpr 138 pc = some op → gOk 138 pc op := gprk (len := 55) (nc := 2) (c := gc138) (q := gp138) (fun _ => rfl) (by decide) fun k hk => by
  rcases Nat.lt_or_ge k 1 with h0_2 | h0_2
  · skip
    obtain rfl : k = 0 := by omega
    exact gt138_0
  · skip
    obtain rfl : k = 1 := by omega
    exact gt138_1
theorem gt139_0 : (List.range 40).all (fun j => match gc139 (40 * 0 + j) with | some op => gck 139 (40 * 0 + j) op (gp139 (40 * 0 + j)) | none => true) = true := by decide +kernel
theorem gt139_1 : (List.range 40).all (fun j => match gc139 (40 * 1 + j) with | some op => gck 139 (40 * 1 + j) op (gp139 (40 * 1 + j)) | none => true) = true := by decide +kernel
theorem gk139 : ∀ (pc : Nat) (op : gOp), gpr 139 pc = some op → gOk 139 pc op := gprk (len := 52) (nc := 2) (c := gc139) (q := gp139) (fun _ => rfl) (by decide) fun k hk => by
  rcases Nat.lt_or_ge k 1 with h0_2 | h0_2
  · skip
    obtain rfl : k = 0 := by omega
    exact gt139_0
  · skip
    obtain rfl : k = 1 := by omega
    exact gt139_1
theorem gt140_0 : (List.range 40).all (fun j => match gc140 (40 * 0 + j) with | some op => gck 140 (40 * 0 + j) op (gp140 (40 * 0 + j)) | none => true) = true := by decide +kernel
theorem gt140_1 : (List.range 40).all (fun j => match gc140 (40 * 1 + j) with | some op => gck 140 (40 * 1 + j) op (gp140 (40 * 1 + j)) | none => true) = true := by decide +kernel
theorem gt140_2 : (List.range 40).all (fun j => match gc140 (40 * 2 + j) with | some op => gck 140 (40 * 2 + j) op (gp140 (40 * 2 + j)) | none => true) = true := by decide +kernel
theorem gk140 : ∀ (pc : Nat) (op : gOp), gpr 140 pc = some op → gOk 140 pc op := gprk (len := 94) (nc := 3) (c := gc140) (q := gp140) (fun _ => rfl) (by decide) fun k hk => by
  rcases Nat.lt_or_ge k 1 with h0_3 | h0_3
  · skip
    obtain rfl : k = 0 := by omega
    exact gt140_0
  · skip
    rcases Nat.lt_or_ge k 2 with h1_3 | h1_3
    · skip
      obtain rfl : k = 1 := by omega
      exact gt140_1
    · skip
      obtain rfl : k = 2 := by omega
      exact gt140_2
theorem gt141_0 : (List.range 40).all (fun j => match gc141 (40 * 0 + j) with | some op => gck 141 (40 * 0 + j) op (gp141 (40 * 0 + j)) | none => true) = true := by decide +kernel
theorem gk141 : ∀ (pc : Nat) (op : gOp), gpr 141 pc = some op → gOk 141 pc op := gprk (len := 28) (nc := 1) (c := gc141) (q := gp141) (fun _ => rfl) (by decide) fun k hk => by
  obtain rfl : k = 0 := by omega
  exact gt141_0
theorem gt142_0 : (List.range 40).all (fun j => match gc142 (40 * 0 + j) with | some op => gck 142 (40 * 0 + j) op (gp142 (40 * 0 + j)) | none => true) = true := by decide +kernel
theorem gk142 : ∀ (pc : Nat) (op : gOp), gpr 142 pc = some op → gOk 142 pc op := gprk (len := 18) (nc := 1) (c := gc142) (q := gp142) (fun _ => rfl) (by decide) fun k hk => by
  obtain rfl : k = 0 := by omega
  exact gt142_0
theorem gt143_0 : (List.range 40).all (fun j => match gc143 (40 * 0 + j) with | some op => gck 143 (40 * 0 + j) op (gp143 (40 * 0 + j)) | none => true) = true := by decide +kernel
theorem gt143_1 : (List.range 40).all (fun j => match gc143 (40 * 1 + j) with | some op => gck 143 (40 * 1 + j) op (gp143 (40 * 1 + j)) | none => true) = true := by decide +kernel
theorem gk143 : ∀ (pc : Nat) (op : gOp), gpr 143 pc = some op → gOk 143 pc op := gprk (len := 67) (nc := 2) (c := gc143) (q := gp143) (fun _ => rfl) (by decide) fun k hk => by
  rcases Nat.lt_or_ge k 1 with h0_2 | h0_2
  · skip
    obtain rfl : k = 0 := by omega
    exact gt143_0
  · skip
    obtain rfl : k = 1 := by omega
    exact gt143_1
theorem gt144_0 : (List.range 40).all (fun j => match gc144 (40 * 0 + j) with | some op => gck 144 (40 * 0 + j) op (gp144 (40 * 0 + j)) | none => true) = true := by decide +kernel
theorem gk144 : ∀ (pc : Nat) (op : gOp), gpr 144 pc = some op → gOk 144 pc op := gprk (len := 40) (nc := 1) (c := gc144) (q := gp144) (fun _ => rfl) (by decide) fun k hk => by
  obtain rfl : k = 0 := by omega
  exact gt144_0
theorem gt145_0 : (List.range 40).all (fun j => match gc145 (40 * 0 + j) with | some op => gck 145 (40 * 0 + j) op (gp145 (40 * 0 + j)) | none => true) = true := by decide +kernel
theorem gk145 : ∀ (pc : Nat) (op : gOp), gpr 145 pc = some op → gOk 145 pc op := gprk (len := 9) (nc := 1) (c := gc145) (q := gp145) (fun _ => rfl) (by decide) fun k hk => by
  obtain rfl : k = 0 := by omega
  exact gt145_0
theorem gt146_0 : (List.range 40).all (fun j => match gc146 (40 * 0 + j) with | some op => gck 146 (40 * 0 + j) op (gp146 (40 * 0 + j)) | none => true) = true := by decide +kernel
theorem gt146_1 : (List.range 40).all (fun j => match gc146 (40 * 1 + j) with | some op => gck 146 (40 * 1 + j) op (gp146 (40 * 1 + j)) | none => true) = true := by decide +kernel
theorem gt146_2 : (List.range 40).all (fun j => match gc146 (40 * 2 + j) with | some op => gck 146 (40 * 2 + j) op (gp146 (40 * 2 + j)) | none => true) = true := by decide +kernel
theorem gk146 : ∀ (pc : Nat) (op : gOp), gpr 146 pc = some op → gOk 146 pc op := gprk (len := 87) (nc := 3) (c := gc146) (q := gp146) (fun _ => rfl) (by decide) fun k hk => by
  rcases Nat.lt_or_ge k 1 with h0_3 | h0_3
  · skip
    obtain rfl : k = 0 := by omega
    exact gt146_0
  · skip
    rcases Nat.lt_or_ge k 2 with h1_3 | h1_3
    · skip
      obtain rfl : k = 1 := by omega
      exact gt146_1
    · skip
      obtain rfl : k = 2 := by omega
      exact gt146_2
theorem gt147_0 : (List.range 40).all (fun j => match gc147 (40 * 0 + j) with | some op => gck 147 (40 * 0 + j) op (gp147 (40 * 0 + j)) | none => true) = true := by decide +kernel
theorem gk147 : ∀ (pc : Nat) (op : gOp), gpr 147 pc = some op → gOk 147 pc op := gprk (len := 24) (nc := 1) (c := gc147) (q := gp147) (fun _ => rfl) (by decide) fun k hk => by
  obtain rfl : k = 0 := by omega
  exact gt147_0
theorem gt148_0 : (List.range 40).all (fun j => match gc148 (40 * 0 + j) with | some op => gck 148 (40 * 0 + j) op (gp148 (40 * 0 + j)) | none => true) = true := by decide +kernel
theorem gk148 : ∀ (pc : Nat) (op : gOp), gpr 148 pc = some op → gOk 148 pc op := gprk (len := 23) (nc := 1) (c := gc148) (q := gp148) (fun _ => rfl) (by decide) fun k hk => by
  obtain rfl : k = 0 := by omega
  exact gt148_0
theorem gt149_0 : (List.range 40).all (fun j => match gc149 (40 * 0 + j) with | some op => gck 149 (40 * 0 + j) op (gp149 (40 * 0 + j)) | none => true) = true := by decide +kernel
theorem gk149 : ∀ (pc : Nat) (op : gOp), gpr 149 pc = some op → gOk 149 pc op := gprk (len := 25) (nc := 1) (c := gc149) (q := gp149) (fun _ => rfl) (by decide) fun k hk => by
  obtain rfl : k = 0 := by omega
  exact gt149_0
theorem gt150_0 : (List.range 40).all (fun j => match gc150 (40 * 0 + j) with | some op => gck 150 (40 * 0 + j) op (gp150 (40 * 0 + j)) | none => true) = true := by decide +kernel
theorem gk150 : ∀ (pc : Nat) (op : gOp), gpr 150 pc = some op → gOk 150 pc op := gprk (len := 8) (nc := 1) (c := gc150) (q := gp150) (fun _ => rfl) (by decide) fun k hk => by
  obtain rfl : k = 0 := by omega
  exact gt150_0
theorem gt151_0 : (List.range 40).all (fun j => match gc151 (40 * 0 + j) with | some op => gck 151 (40 * 0 + j) op (gp151 (40 * 0 + j)) | none => true) = true := by decide +kernel
theorem gk151 : ∀ (pc : Nat) (op : gOp), gpr 151 pc = some op → gOk 151 pc op := gprk (len := 38) (nc := 1) (c := gc151) (q := gp151) (fun _ => rfl) (by decide) fun k hk => by
  obtain rfl : k = 0 := by omega
  exact gt151_0
theorem gt152_0 : (List.range 40).all (fun j => match gc152 (40 * 0 + j) with | some op => gck 152 (40 * 0 + j) op (gp152 (40 * 0 + j)) | none => true) = true := by decide +kernel
theorem gk152 : ∀ (pc : Nat) (op : gOp), gpr 152 pc = some op → gOk 152 pc op := gprk (len := 35) (nc := 1) (c := gc152) (q := gp152) (fun _ => rfl) (by decide) fun k hk => by
  obtain rfl : k = 0 := by omega
  exact gt152_0
theorem gt153_0 : (List.range 40).all (fun j => match gc153 (40 * 0 + j) with | some op => gck 153 (40 * 0 + j) op (gp153 (40 * 0 + j)) | none => true) = true := by decide +kernel
theorem gt153_1 : (List.range 40).all (fun j => match gc153 (40 * 1 + j) with | some op => gck 153 (40 * 1 + j) op (gp153 (40 * 1 + j)) | none => true) = true := by decide +kernel
theorem gk153 : ∀ (pc : Nat) (op : gOp), gpr 153 pc = some op → gOk 153 pc op := gprk (len := 55) (nc := 2) (c := gc153) (q := gp153) (fun _ => rfl) (by decide) fun k hk => by
  rcases Nat.lt_or_ge k 1 with h0_2 | h0_2
  · skip
    obtain rfl : k = 0 := by omega
    exact gt153_0
  · skip
    obtain rfl : k = 1 := by omega
    exact gt153_1
theorem gt154_0 : (List.range 40).all (fun j => match gc154 (40 * 0 + j) with | some op => gck 154 (40 * 0 + j) op (gp154 (40 * 0 + j)) | none => true) = true := by decide +kernel
theorem gt154_1 : (List.range 40).all (fun j => match gc154 (40 * 1 + j) with | some op => gck 154 (40 * 1 + j) op (gp154 (40 * 1 + j)) | none => true) = true := by decide +kernel
theorem gk154 : ∀ (pc : Nat) (op : gOp), gpr 154 pc = some op → gOk 154 pc op := gprk (len := 61) (nc := 2) (c := gc154) (q := gp154) (fun _ => rfl) (by decide) fun k hk => by
  rcases Nat.lt_or_ge k 1 with h0_2 | h0_2
  · skip
    obtain rfl : k = 0 := by omega
    exact gt154_0
  · skip
    obtain rfl : k = 1 := by omega
    exact gt154_1
theorem gt155_0 : (List.range 40).all (fun j => match gc155 (40 * 0 + j) with | some op => gck 155 (40 * 0 + j) op (gp155 (40 * 0 + j)) | none => true) = true := by decide +kernel
theorem gt155_1 : (List.range 40).all (fun j => match gc155 (40 * 1 + j) with | some op => gck 155 (40 * 1 + j) op (gp155 (40 * 1 + j)) | none => true) = true := by decide +kernel
theorem gk155 : ∀ (pc : Nat) (op : gOp), gpr 155 pc = some op → gOk 155 pc op := gprk (len := 41) (nc := 2) (c := gc155) (q := gp155) (fun _ => rfl) (by decide) fun k hk => by
  rcases Nat.lt_or_ge k 1 with h0_2 | h0_2
  · skip
    obtain rfl : k = 0 := by omega
    exact gt155_0
  · skip
    obtain rfl : k = 1 := by omega
    exact gt155_1
theorem gt157_0 : (List.range 40).all (fun j => match gc157 (40 * 0 + j) with | some op => gck 157 (40 * 0 + j) op (gp157 (40 * 0 + j)) | none => true) = true := by decide +kernel
theorem gk157 : ∀ (pc : Nat) (op : gOp), gpr 157 pc = some op → gOk 157 pc op := gprk (len := 19) (nc := 1) (c := gc157) (q := gp157) (fun _ => rfl) (by decide) fun k hk => by
  obtain rfl : k = 0 := by omega
  exact gt157_0
theorem gt158_0 : (List.range 40).all (fun j => match gc158 (40 * 0 + j) with | some op => gck 158 (40 * 0 + j) op (gp158 (40 * 0 + j)) | none => true) = true := by decide +kernel
theorem gk158 : ∀ (pc : Nat) (op : gOp), gpr 158 pc = some op → gOk 158 pc op := gprk (len := 24) (nc := 1) (c := gc158) (q := gp158) (fun _ => rfl) (by decide) fun k hk => by
  obtain rfl : k = 0 := by omega
  exact gt158_0
theorem gt159_0 : (List.range 40).all (fun j => match gc159 (40 * 0 + j) with | some op => gck 159 (40 * 0 + j) op (gp159 (40 * 0 + j)) | none => true) = true := by decide +kernel
theorem gk159 : ∀ (pc : Nat) (op : gOp), gpr 159 pc = some op → gOk 159 pc op := gprk (len := 15) (nc := 1) (c := gc159) (q := gp159) (fun _ => rfl) (by decide) fun k hk => by
  obtain rfl : k = 0 := by omega
  exact gt159_0
theorem gt160_0 : (List.range 40).all (fun j => match gc160 (40 * 0 + j) with | some op => gck 160 (40 * 0 + j) op (gp160 (40 * 0 + j)) | none => true) = true := by decide +kernel
theorem gt160_1 : (List.range 40).all (fun j => match gc160 (40 * 1 + j) with | some op => gck 160 (40 * 1 + j) op (gp160 (40 * 1 + j)) | none => true) = true := by decide +kernel
theorem gt160_2 : (List.range 40).all (fun j => match gc160 (40 * 2 + j) with | some op => gck 160 (40 * 2 + j) op (gp160 (40 * 2 + j)) | none => true) = true := by decide +kernel
theorem gt160_3 : (List.range 40).all (fun j => match gc160 (40 * 3 + j) with | some op => gck 160 (40 * 3 + j) op (gp160 (40 * 3 + j)) | none => true) = true := by decide +kernel
theorem gk160 : ∀ (pc : Nat) (op : gOp), gpr 160 pc = some op → gOk 160 pc op := gprk (len := 129) (nc := 4) (c := gc160) (q := gp160) (fun _ => rfl) (by decide) fun k hk => by
  rcases Nat.lt_or_ge k 2 with h0_4 | h0_4
  · skip
    rcases Nat.lt_or_ge k 1 with h0_2 | h0_2
    · skip
      obtain rfl : k = 0 := by omega
      exact gt160_0
    · skip
      obtain rfl : k = 1 := by omega
      exact gt160_1
  · skip
    rcases Nat.lt_or_ge k 3 with h2_4 | h2_4
    · skip
      obtain rfl : k = 2 := by omega
      exact gt160_2
    · skip
      obtain rfl : k = 3 := by omega
      exact gt160_3
theorem gt161_0 : (List.range 40).all (fun j => match gc161 (40 * 0 + j) with | some op => gck 161 (40 * 0 + j) op (gp161 (40 * 0 + j)) | none => true) = true := by decide +kernel
theorem gk161 : ∀ (pc : Nat) (op : gOp), gpr 161 pc = some op → gOk 161 pc op := gprk (len := 31) (nc := 1) (c := gc161) (q := gp161) (fun _ => rfl) (by decide) fun k hk => by
  obtain rfl : k = 0 := by omega
  exact gt161_0
theorem gt162_0 : (List.range 40).all (fun j => match gc162 (40 * 0 + j) with | some op => gck 162 (40 * 0 + j) op (gp162 (40 * 0 + j)) | none => true) = true := by decide +kernel
theorem gk162 : ∀ (pc : Nat) (op : gOp), gpr 162 pc = some op → gOk 162 pc op := gprk (len := 19) (nc := 1) (c := gc162) (q := gp162) (fun _ => rfl) (by decide) fun k hk => by
  obtain rfl : k = 0 := by omega
  exact gt162_0
theorem gt163_0 : (List.range 40).all (fun j => match gc163 (40 * 0 + j) with | some op => gck 163 (40 * 0 + j) op (gp163 (40 * 0 + j)) | none => true) = true := by decide +kernel
theorem gk163 : ∀ (pc : Nat) (op : gOp), gpr 163 pc = some op → gOk 163 pc op := gprk (len := 18) (nc := 1) (c := gc163) (q := gp163) (fun _ => rfl) (by decide) fun k hk => by
  obtain rfl : k = 0 := by omega
  exact gt163_0
theorem gt164_0 : (List.range 40).all (fun j => match gc164 (40 * 0 + j) with | some op => gck 164 (40 * 0 + j) op (gp164 (40 * 0 + j)) | none => true) = true := by decide +kernel
theorem gk164 : ∀ (pc : Nat) (op : gOp), gpr 164 pc = some op → gOk 164 pc op := gprk (len := 18) (nc := 1) (c := gc164) (q := gp164) (fun _ => rfl) (by decide) fun k hk => by
  obtain rfl : k = 0 := by omega
  exact gt164_0
theorem gt165_0 : (List.range 40).all (fun j => match gc165 (40 * 0 + j) with | some op => gck 165 (40 * 0 + j) op (gp165 (40 * 0 + j)) | none => true) = true := by decide +kernel
theorem gt165_1 : (List.range 40).all (fun j => match gc165 (40 * 1 + j) with | some op => gck 165 (40 * 1 + j) op (gp165 (40 * 1 + j)) | none => true) = true := by decide +kernel
theorem gk165 : ∀ (pc : Nat) (op : gOp), gpr 165 pc = some op → gOk 165 pc op := gprk (len := 77) (nc := 2) (c := gc165) (q := gp165) (fun _ => rfl) (by decide) fun k hk => by
  rcases Nat.lt_or_ge k 1 with h0_2 | h0_2
  · skip
    obtain rfl : k = 0 := by omega
    exact gt165_0
  · skip
    obtain rfl : k = 1 := by omega
    exact gt165_1
theorem gt166_0 : (List.range 40).all (fun j => match gc166 (40 * 0 + j) with | some op => gck 166 (40 * 0 + j) op (gp166 (40 * 0 + j)) | none => true) = true := by decide +kernel
theorem gt166_1 : (List.range 40).all (fun j => match gc166 (40 * 1 + j) with | some op => gck 166 (40 * 1 + j) op (gp166 (40 * 1 + j)) | none => true) = true := by decide +kernel
theorem gt166_2 : (List.range 40).all (fun j => match gc166 (40 * 2 + j) with | some op => gck 166 (40 * 2 + j) op (gp166 (40 * 2 + j)) | none => true) = true := by decide +kernel
theorem gk166 : ∀ (pc : Nat) (op : gOp), gpr 166 pc = some op → gOk 166 pc op := gprk (len := 109) (nc := 3) (c := gc166) (q := gp166) (fun _ => rfl) (by decide) fun k hk => by
  rcases Nat.lt_or_ge k 1 with h0_3 | h0_3
  · skip
    obtain rfl : k = 0 := by omega
    exact gt166_0
  · skip
    rcases Nat.lt_or_ge k 2 with h1_3 | h1_3
    · skip
      obtain rfl : k = 1 := by omega
      exact gt166_1
    · skip
      obtain rfl : k = 2 := by omega
      exact gt166_2
theorem gt167_0 : (List.range 40).all (fun j => match gc167 (40 * 0 + j) with | some op => gck 167 (40 * 0 + j) op (gp167 (40 * 0 + j)) | none => true) = true := by decide +kernel
theorem gk167 : ∀ (pc : Nat) (op : gOp), gpr 167 pc = some op → gOk 167 pc op := gprk (len := 31) (nc := 1) (c := gc167) (q := gp167) (fun _ => rfl) (by decide) fun k hk => by
  obtain rfl : k = 0 := by omega
  exact gt167_0
theorem gt168_0 : (List.range 40).all (fun j => match gc168 (40 * 0 + j) with | some op => gck 168 (40 * 0 + j) op (gp168 (40 * 0 + j)) | none => true) = true := by decide +kernel
theorem gk168 : ∀ (pc : Nat) (op : gOp), gpr 168 pc = some op → gOk 168 pc op := gprk (len := 25) (nc := 1) (c := gc168) (q := gp168) (fun _ => rfl) (by decide) fun k hk => by
  obtain rfl : k = 0 := by omega
  exact gt168_0
theorem gt169_0 : (List.range 40).all (fun j => match gc169 (40 * 0 + j) with | some op => gck 169 (40 * 0 + j) op (gp169 (40 * 0 + j)) | none => true) = true := by decide +kernel
theorem gk169 : ∀ (pc : Nat) (op : gOp), gpr 169 pc = some op → gOk 169 pc op := gprk (len := 29) (nc := 1) (c := gc169) (q := gp169) (fun _ => rfl) (by decide) fun k hk => by
  obtain rfl : k = 0 := by omega
  exact gt169_0
theorem gt170_0 : (List.range 40).all (fun j => match gc170 (40 * 0 + j) with | some op => gck 170 (40 * 0 + j) op (gp170 (40 * 0 + j)) | none => true) = true := by decide +kernel
theorem gk170 : ∀ (pc : Nat) (op : gOp), gpr 170 pc = some op → gOk 170 pc op := gprk (len := 25) (nc := 1) (c := gc170) (q := gp170) (fun _ => rfl) (by decide) fun k hk => by
  obtain rfl : k = 0 := by omega
  exact gt170_0
theorem gt171_0 : (List.range 40).all (fun j => match gc171 (40 * 0 + j) with | some op => gck 171 (40 * 0 + j) op (gp171 (40 * 0 + j)) | none => true) = true := by decide +kernel
theorem gt171_1 : (List.range 40).all (fun j => match gc171 (40 * 1 + j) with | some op => gck 171 (40 * 1 + j) op (gp171 (40 * 1 + j)) | none => true) = true := by decide +kernel
theorem gt171_2 : (List.range 40).all (fun j => match gc171 (40 * 2 + j) with | some op => gck 171 (40 * 2 + j) op (gp171 (40 * 2 + j)) | none => true) = true := by decide +kernel
theorem gt171_3 : (List.range 40).all (fun j => match gc171 (40 * 3 + j) with | some op => gck 171 (40 * 3 + j) op (gp171 (40 * 3 + j)) | none => true) = true := by decide +kernel
theorem gt171_4 : (List.range 40).all (fun j => match gc171 (40 * 4 + j) with | some op => gck 171 (40 * 4 + j) op (gp171 (40 * 4 + j)) | none => true) = true := by decide +kernel
theorem gk171 : ∀ (pc : Nat) (op : gOp), gpr 171 pc = some op → gOk 171 pc op := gprk (len := 167) (nc := 5) (c := gc171) (q := gp171) (fun _ => rfl) (by decide) fun k hk => by
  rcases Nat.lt_or_ge k 2 with h0_5 | h0_5
  · skip
    rcases Nat.lt_or_ge k 1 with h0_2 | h0_2
    · skip
      obtain rfl : k = 0 := by omega
      exact gt171_0
    · skip
      obtain rfl : k = 1 := by omega
      exact gt171_1
  · skip
    rcases Nat.lt_or_ge k 3 with h2_5 | h2_5
    · skip
      obtain rfl : k = 2 := by omega
      exact gt171_2
    · skip
      rcases Nat.lt_or_ge k 4 with h3_5 | h3_5
      · skip
        obtain rfl : k = 3 := by omega
        exact gt171_3
      · skip
        obtain rfl : k = 4 := by omega
        exact gt171_4
theorem gt172_0 : (List.range 40).all (fun j => match gc172 (40 * 0 + j) with | some op => gck 172 (40 * 0 + j) op (gp172 (40 * 0 + j)) | none => true) = true := by decide +kernel
theorem gt172_1 : (List.range 40).all (fun j => match gc172 (40 * 1 + j) with | some op => gck 172 (40 * 1 + j) op (gp172 (40 * 1 + j)) | none => true) = true := by decide +kernel
theorem gt172_2 : (List.range 40).all (fun j => match gc172 (40 * 2 + j) with | some op => gck 172 (40 * 2 + j) op (gp172 (40 * 2 + j)) | none => true) = true := by decide +kernel
theorem gt172_3 : (List.range 40).all (fun j => match gc172 (40 * 3 + j) with | some op => gck 172 (40 * 3 + j) op (gp172 (40 * 3 + j)) | none => true) = true := by decide +kernel
theorem gt172_4 : (List.range 40).all (fun j => match gc172 (40 * 4 + j) with | some op => gck 172 (40 * 4 + j) op (gp172 (40 * 4 + j)) | none => true) = true := by decide +kernel
theorem gt172_5 : (List.range 40).all (fun j => match gc172 (40 * 5 + j) with | some op => gck 172 (40 * 5 + j) op (gp172 (40 * 5 + j)) | none => true) = true := by decide +kernel
theorem gt172_6 : (List.range 40).all (fun j => match gc172 (40 * 6 + j) with | some op => gck 172 (40 * 6 + j) op (gp172 (40 * 6 + j)) | none => true) = true := by decide +kernel
theorem gt172_7 : (List.range 40).all (fun j => match gc172 (40 * 7 + j) with | some op => gck 172 (40 * 7 + j) op (gp172 (40 * 7 + j)) | none => true) = true := by decide +kernel
theorem gt172_8 : (List.range 40).all (fun j => match gc172 (40 * 8 + j) with | some op => gck 172 (40 * 8 + j) op (gp172 (40 * 8 + j)) | none => true) = true := by decide +kernel
theorem gk172 : ∀ (pc : Nat) (op : gOp), gpr 172 pc = some op → gOk 172 pc op := gprk (len := 345) (nc := 9) (c := gc172) (q := gp172) (fun _ => rfl) (by decide) fun k hk => by
  rcases Nat.lt_or_ge k 4 with h0_9 | h0_9
  · skip
    rcases Nat.lt_or_ge k 2 with h0_4 | h0_4
    · skip
      rcases Nat.lt_or_ge k 1 with h0_2 | h0_2
      · skip
        obtain rfl : k = 0 := by omega
        exact gt172_0
      · skip
        obtain rfl : k = 1 := by omega
        exact gt172_1
    · skip
      rcases Nat.lt_or_ge k 3 with h2_4 | h2_4
      · skip
        obtain rfl : k = 2 := by omega
        exact gt172_2
      · skip
        obtain rfl : k = 3 := by omega
        exact gt172_3
  · skip
    rcases Nat.lt_or_ge k 6 with h4_9 | h4_9
    · skip
      rcases Nat.lt_or_ge k 5 with h4_6 | h4_6
      · skip
        obtain rfl : k = 4 := by omega
        exact gt172_4
      · skip
        obtain rfl : k = 5 := by omega
        exact gt172_5
    · skip
      rcases Nat.lt_or_ge k 7 with h6_9 | h6_9
      · skip
        obtain rfl : k = 6 := by omega
        exact gt172_6
      · skip
        rcases Nat.lt_or_ge k 8 with h7_9 | h7_9
        · skip
          obtain rfl : k = 7 := by omega
          exact gt172_7
        · skip
          obtain rfl : k = 8 := by omega
          exact gt172_8
theorem gt173_0 : (List.range 40).all (fun j => match gc173 (40 * 0 + j) with | some op => gck 173 (40 * 0 + j) op (gp173 (40 * 0 + j)) | none => true) = true := by decide +kernel
theorem gt173_1 : (List.range 40).all (fun j => match gc173 (40 * 1 + j) with | some op => gck 173 (40 * 1 + j) op (gp173 (40 * 1 + j)) | none => true) = true := by decide +kernel
theorem gt173_2 : (List.range 40).all (fun j => match gc173 (40 * 2 + j) with | some op => gck 173 (40 * 2 + j) op (gp173 (40 * 2 + j)) | none => true) = true := by decide +kernel
theorem gt173_3 : (List.range 40).all (fun j => match gc173 (40 * 3 + j) with | some op => gck 173 (40 * 3 + j) op (gp173 (40 * 3 + j)) | none => true) = true := by decide +kernel
theorem gk173 : ∀ (pc : Nat) (op : gOp), gpr 173 pc = some op → gOk 173 pc op := gprk (len := 155) (nc := 4) (c := gc173) (q := gp173) (fun _ => rfl) (by decide) fun k hk => by
  rcases Nat.lt_or_ge k 2 with h0_4 | h0_4
  · skip
    rcases Nat.lt_or_ge k 1 with h0_2 | h0_2
    · skip
      obtain rfl : k = 0 := by omega
      exact gt173_0
    · skip
      obtain rfl : k = 1 := by omega
      exact gt173_1
  · skip
    rcases Nat.lt_or_ge k 3 with h2_4 | h2_4
    · skip
      obtain rfl : k = 2 := by omega
      exact gt173_2
    · skip
      obtain rfl : k = 3 := by omega
      exact gt173_3
theorem gt174_0 : (List.range 40).all (fun j => match gc174 (40 * 0 + j) with | some op => gck 174 (40 * 0 + j) op (gp174 (40 * 0 + j)) | none => true) = true := by decide +kernel
theorem gt174_1 : (List.range 40).all (fun j => match gc174 (40 * 1 + j) with | some op => gck 174 (40 * 1 + j) op (gp174 (40 * 1 + j)) | none => true) = true := by decide +kernel
theorem gt174_2 : (List.range 40).all (fun j => match gc174 (40 * 2 + j) with | some op => gck 174 (40 * 2 + j) op (gp174 (40 * 2 + j)) | none => true) = true := by decide +kernel
theorem gk174 : ∀ (pc : Nat) (op : gOp), gpr 174 pc = some op → gOk 174 pc op := gprk (len := 114) (nc := 3) (c := gc174) (q := gp174) (fun _ => rfl) (by decide) fun k hk => by
  rcases Nat.lt_or_ge k 1 with h0_3 | h0_3
  · skip
    obtain rfl : k = 0 := by omega
    exact gt174_0
  · skip
    rcases Nat.lt_or_ge k 2 with h1_3 | h1_3
    · skip
      obtain rfl : k = 1 := by omega
      exact gt174_1
    · skip
      obtain rfl : k = 2 := by omega
      exact gt174_2
theorem gt175_0 : (List.range 40).all (fun j => match gc175 (40 * 0 + j) with | some op => gck 175 (40 * 0 + j) op (gp175 (40 * 0 + j)) | none => true) = true := by decide +kernel
theorem gk175 : ∀ (pc : Nat) (op : gOp), gpr 175 pc = some op → gOk 175 pc op := gprk (len := 28) (nc := 1) (c := gc175) (q := gp175) (fun _ => rfl) (by decide) fun k hk => by
  obtain rfl : k = 0 := by omega
  exact gt175_0
theorem gt176_0 : (List.range 40).all (fun j => match gc176 (40 * 0 + j) with | some op => gck 176 (40 * 0 + j) op (gp176 (40 * 0 + j)) | none => true) = true := by decide +kernel
theorem gt176_1 : (List.range 40).all (fun j => match gc176 (40 * 1 + j) with | some op => gck 176 (40 * 1 + j) op (gp176 (40 * 1 + j)) | none => true) = true := by decide +kernel
theorem gk176 : ∀ (pc : Nat) (op : gOp), gpr 176 pc = some op → gOk 176 pc op := gprk (len := 75) (nc := 2) (c := gc176) (q := gp176) (fun _ => rfl) (by decide) fun k hk => by
  rcases Nat.lt_or_ge k 1 with h0_2 | h0_2
  · skip
    obtain rfl : k = 0 := by omega
    exact gt176_0
  · skip
    obtain rfl : k = 1 := by omega
    exact gt176_1
theorem gt177_0 : (List.range 40).all (fun j => match gc177 (40 * 0 + j) with | some op => gck 177 (40 * 0 + j) op (gp177 (40 * 0 + j)) | none => true) = true := by decide +kernel
theorem gt177_1 : (List.range 40).all (fun j => match gc177 (40 * 1 + j) with | some op => gck 177 (40 * 1 + j) op (gp177 (40 * 1 + j)) | none => true) = true := by decide +kernel
theorem gt177_2 : (List.range 40).all (fun j => match gc177 (40 * 2 + j) with | some op => gck 177 (40 * 2 + j) op (gp177 (40 * 2 + j)) | none => true) = true := by decide +kernel
theorem gt177_3 : (List.range 40).all (fun j => match gc177 (40 * 3 + j) with | some op => gck 177 (40 * 3 + j) op (gp177 (40 * 3 + j)) | none => true) = true := by decide +kernel
theorem gk177 : ∀ (pc : Nat) (op : gOp), gpr 177 pc = some op → gOk 177 pc op := gprk (len := 126) (nc := 4) (c := gc177) (q := gp177) (fun _ => rfl) (by decide) fun k hk => by
  rcases Nat.lt_or_ge k 2 with h0_4 | h0_4
  · skip
    rcases Nat.lt_or_ge k 1 with h0_2 | h0_2
    · skip
      obtain rfl : k = 0 := by omega
      exact gt177_0
    · skip
      obtain rfl : k = 1 := by omega
      exact gt177_1
  · skip
    rcases Nat.lt_or_ge k 3 with h2_4 | h2_4
    · skip
      obtain rfl : k = 2 := by omega
      exact gt177_2
    · skip
      obtain rfl : k = 3 := by omega
      exact gt177_3
theorem gt178_0 : (List.range 40).all (fun j => match gc178 (40 * 0 + j) with | some op => gck 178 (40 * 0 + j) op (gp178 (40 * 0 + j)) | none => true) = true := by decide +kernel
theorem gt178_1 : (List.range 40).all (fun j => match gc178 (40 * 1 + j) with | some op => gck 178 (40 * 1 + j) op (gp178 (40 * 1 + j)) | none => true) = true := by decide +kernel
theorem gt178_2 : (List.range 40).all (fun j => match gc178 (40 * 2 + j) with | some op => gck 178 (40 * 2 + j) op (gp178 (40 * 2 + j)) | none => true) = true := by decide +kernel
theorem gt178_3 : (List.range 40).all (fun j => match gc178 (40 * 3 + j) with | some op => gck 178 (40 * 3 + j) op (gp178 (40 * 3 + j)) | none => true) = true := by decide +kernel
theorem gk178 : ∀ (pc : Nat) (op : gOp), gpr 178 pc = some op → gOk 178 pc op := gprk (len := 129) (nc := 4) (c := gc178) (q := gp178) (fun _ => rfl) (by decide) fun k hk => by
  rcases Nat.lt_or_ge k 2 with h0_4 | h0_4
  · skip
    rcases Nat.lt_or_ge k 1 with h0_2 | h0_2
    · skip
      obtain rfl : k = 0 := by omega
      exact gt178_0
    · skip
      obtain rfl : k = 1 := by omega
      exact gt178_1
  · skip
    rcases Nat.lt_or_ge k 3 with h2_4 | h2_4
    · skip
      obtain rfl : k = 2 := by omega
      exact gt178_2
    · skip
      obtain rfl : k = 3 := by omega
      exact gt178_3
theorem gt179_0 : (List.range 40).all (fun j => match gc179 (40 * 0 + j) with | some op => gck 179 (40 * 0 + j) op (gp179 (40 * 0 + j)) | none => true) = true := by decide +kernel
theorem gt179_1 : (List.range 40).all (fun j => match gc179 (40 * 1 + j) with | some op => gck 179 (40 * 1 + j) op (gp179 (40 * 1 + j)) | none => true) = true := by decide +kernel
theorem gt179_2 : (List.range 40).all (fun j => match gc179 (40 * 2 + j) with | some op => gck 179 (40 * 2 + j) op (gp179 (40 * 2 + j)) | none => true) = true := by decide +kernel
theorem gt179_3 : (List.range 40).all (fun j => match gc179 (40 * 3 + j) with | some op => gck 179 (40 * 3 + j) op (gp179 (40 * 3 + j)) | none => true) = true := by decide +kernel
theorem gk179 : ∀ (pc : Nat) (op : gOp), gpr 179 pc = some op → gOk 179 pc op := gprk (len := 142) (nc := 4) (c := gc179) (q := gp179) (fun _ => rfl) (by decide) fun k hk => by
  rcases Nat.lt_or_ge k 2 with h0_4 | h0_4
  · skip
    rcases Nat.lt_or_ge k 1 with h0_2 | h0_2
    · skip
      obtain rfl : k = 0 := by omega
      exact gt179_0
    · skip
      obtain rfl : k = 1 := by omega
      exact gt179_1
  · skip
    rcases Nat.lt_or_ge k 3 with h2_4 | h2_4
    · skip
      obtain rfl : k = 2 := by omega
      exact gt179_2
    · skip
      obtain rfl : k = 3 := by omega
      exact gt179_3
theorem gt180_0 : (List.range 40).all (fun j => match gc180 (40 * 0 + j) with | some op => gck 180 (40 * 0 + j) op (gp180 (40 * 0 + j)) | none => true) = true := by decide +kernel
theorem gt180_1 : (List.range 40).all (fun j => match gc180 (40 * 1 + j) with | some op => gck 180 (40 * 1 + j) op (gp180 (40 * 1 + j)) | none => true) = true := by decide +kernel
theorem gt180_2 : (List.range 40).all (fun j => match gc180 (40 * 2 + j) with | some op => gck 180 (40 * 2 + j) op (gp180 (40 * 2 + j)) | none => true) = true := by decide +kernel
theorem gt180_3 : (List.range 40).all (fun j => match gc180 (40 * 3 + j) with | some op => gck 180 (40 * 3 + j) op (gp180 (40 * 3 + j)) | none => true) = true := by decide +kernel
theorem gt180_4 : (List.range 40).all (fun j => match gc180 (40 * 4 + j) with | some op => gck 180 (40 * 4 + j) op (gp180 (40 * 4 + j)) | none => true) = true := by decide +kernel
theorem gk180 : ∀ (pc : Nat) (op : gOp), gpr 180 pc = some op → gOk 180 pc op := gprk (len := 184) (nc := 5) (c := gc180) (q := gp180) (fun _ => rfl) (by decide) fun k hk => by
  rcases Nat.lt_or_ge k 2 with h0_5 | h0_5
  · skip
    rcases Nat.lt_or_ge k 1 with h0_2 | h0_2
    · skip
      obtain rfl : k = 0 := by omega
      exact gt180_0
    · skip
      obtain rfl : k = 1 := by omega
      exact gt180_1
  · skip
    rcases Nat.lt_or_ge k 3 with h2_5 | h2_5
    · skip
      obtain rfl : k = 2 := by omega
      exact gt180_2
    · skip
      rcases Nat.lt_or_ge k 4 with h3_5 | h3_5
      · skip
        obtain rfl : k = 3 := by omega
        exact gt180_3
      · skip
        obtain rfl : k = 4 := by omega
        exact gt180_4
theorem gt181_0 : (List.range 40).all (fun j => match gc181 (40 * 0 + j) with | some op => gck 181 (40 * 0 + j) op (gp181 (40 * 0 + j)) | none => true) = true := by decide +kernel
theorem gt181_1 : (List.range 40).all (fun j => match gc181 (40 * 1 + j) with | some op => gck 181 (40 * 1 + j) op (gp181 (40 * 1 + j)) | none => true) = true := by decide +kernel
theorem gt181_2 : (List.range 40).all (fun j => match gc181 (40 * 2 + j) with | some op => gck 181 (40 * 2 + j) op (gp181 (40 * 2 + j)) | none => true) = true := by decide +kernel
theorem gt181_3 : (List.range 40).all (fun j => match gc181 (40 * 3 + j) with | some op => gck 181 (40 * 3 + j) op (gp181 (40 * 3 + j)) | none => true) = true := by decide +kernel
theorem gt181_4 : (List.range 40).all (fun j => match gc181 (40 * 4 + j) with | some op => gck 181 (40 * 4 + j) op (gp181 (40 * 4 + j)) | none => true) = true := by decide +kernel
theorem gk181 : ∀ (pc : Nat) (op : gOp), gpr 181 pc = some op → gOk 181 pc op := gprk (len := 163) (nc := 5) (c := gc181) (q := gp181) (fun _ => rfl) (by decide) fun k hk => by
  rcases Nat.lt_or_ge k 2 with h0_5 | h0_5
  · skip
    rcases Nat.lt_or_ge k 1 with h0_2 | h0_2
    · skip
      obtain rfl : k = 0 := by omega
      exact gt181_0
    · skip
      obtain rfl : k = 1 := by omega
      exact gt181_1
  · skip
    rcases Nat.lt_or_ge k 3 with h2_5 | h2_5
    · skip
      obtain rfl : k = 2 := by omega
      exact gt181_2
    · skip
      rcases Nat.lt_or_ge k 4 with h3_5 | h3_5
      · skip
        obtain rfl : k = 3 := by omega
        exact gt181_3
      · skip
        obtain rfl : k = 4 := by omega
        exact gt181_4
theorem gt182_0 : (List.range 40).all (fun j => match gc182 (40 * 0 + j) with | some op => gck 182 (40 * 0 + j) op (gp182 (40 * 0 + j)) | none => true) = true := by decide +kernel
theorem gt182_1 : (List.range 40).all (fun j => match gc182 (40 * 1 + j) with | some op => gck 182 (40 * 1 + j) op (gp182 (40 * 1 + j)) | none => true) = true := by decide +kernel
theorem gt182_2 : (List.range 40).all (fun j => match gc182 (40 * 2 + j) with | some op => gck 182 (40 * 2 + j) op (gp182 (40 * 2 + j)) | none => true) = true := by decide +kernel
theorem gt182_3 : (List.range 40).all (fun j => match gc182 (40 * 3 + j) with | some op => gck 182 (40 * 3 + j) op (gp182 (40 * 3 + j)) | none => true) = true := by decide +kernel
theorem gt182_4 : (List.range 40).all (fun j => match gc182 (40 * 4 + j) with | some op => gck 182 (40 * 4 + j) op (gp182 (40 * 4 + j)) | none => true) = true := by decide +kernel
theorem gt182_5 : (List.range 40).all (fun j => match gc182 (40 * 5 + j) with | some op => gck 182 (40 * 5 + j) op (gp182 (40 * 5 + j)) | none => true) = true := by decide +kernel
theorem gt182_6 : (List.range 40).all (fun j => match gc182 (40 * 6 + j) with | some op => gck 182 (40 * 6 + j) op (gp182 (40 * 6 + j)) | none => true) = true := by decide +kernel
theorem gt182_7 : (List.range 40).all (fun j => match gc182 (40 * 7 + j) with | some op => gck 182 (40 * 7 + j) op (gp182 (40 * 7 + j)) | none => true) = true := by decide +kernel
theorem gk182 : ∀ (pc : Nat) (op : gOp), gpr 182 pc = some op → gOk 182 pc op := gprk (len := 300) (nc := 8) (c := gc182) (q := gp182) (fun _ => rfl) (by decide) fun k hk => by
  rcases Nat.lt_or_ge k 4 with h0_8 | h0_8
  · skip
    rcases Nat.lt_or_ge k 2 with h0_4 | h0_4
    · skip
      rcases Nat.lt_or_ge k 1 with h0_2 | h0_2
      · skip
        obtain rfl : k = 0 := by omega
        exact gt182_0
      · skip
        obtain rfl : k = 1 := by omega
        exact gt182_1
    · skip
      rcases Nat.lt_or_ge k 3 with h2_4 | h2_4
      · skip
        obtain rfl : k = 2 := by omega
        exact gt182_2
      · skip
        obtain rfl : k = 3 := by omega
        exact gt182_3
  · skip
    rcases Nat.lt_or_ge k 6 with h4_8 | h4_8
    · skip
      rcases Nat.lt_or_ge k 5 with h4_6 | h4_6
      · skip
        obtain rfl : k = 4 := by omega
        exact gt182_4
      · skip
        obtain rfl : k = 5 := by omega
        exact gt182_5
    · skip
      rcases Nat.lt_or_ge k 7 with h6_8 | h6_8
      · skip
        obtain rfl : k = 6 := by omega
        exact gt182_6
      · skip
        obtain rfl : k = 7 := by omega
        exact gt182_7
theorem gt183_0 : (List.range 40).all (fun j => match gc183 (40 * 0 + j) with | some op => gck 183 (40 * 0 + j) op (gp183 (40 * 0 + j)) | none => true) = true := by decide +kernel
theorem gk183 : ∀ (pc : Nat) (op : gOp), gpr 183 pc = some op → gOk 183 pc op := gprk (len := 25) (nc := 1) (c := gc183) (q := gp183) (fun _ => rfl) (by decide) fun k hk => by
  obtain rfl : k = 0 := by omega
  exact gt183_0
theorem gt184_0 : (List.range 40).all (fun j => match gc184 (40 * 0 + j) with | some op => gck 184 (40 * 0 + j) op (gp184 (40 * 0 + j)) | none => true) = true := by decide +kernel
theorem gk184 : ∀ (pc : Nat) (op : gOp), gpr 184 pc = some op → gOk 184 pc op := gprk (len := 7) (nc := 1) (c := gc184) (q := gp184) (fun _ => rfl) (by decide) fun k hk => by
  obtain rfl : k = 0 := by omega
  exact gt184_0
theorem gt185_0 : (List.range 40).all (fun j => match gc185 (40 * 0 + j) with | some op => gck 185 (40 * 0 + j) op (gp185 (40 * 0 + j)) | none => true) = true := by decide +kernel
theorem gk185 : ∀ (pc : Nat) (op : gOp), gpr 185 pc = some op → gOk 185 pc op := gprk (len := 8) (nc := 1) (c := gc185) (q := gp185) (fun _ => rfl) (by decide) fun k hk => by
  obtain rfl : k = 0 := by omega
  exact gt185_0
theorem gt186_0 : (List.range 40).all (fun j => match gc186 (40 * 0 + j) with | some op => gck 186 (40 * 0 + j) op (gp186 (40 * 0 + j)) | none => true) = true := by decide +kernel
theorem gk186 : ∀ (pc : Nat) (op : gOp), gpr 186 pc = some op → gOk 186 pc op := gprk (len := 8) (nc := 1) (c := gc186) (q := gp186) (fun _ => rfl) (by decide) fun k hk => by
  obtain rfl : k = 0 := by omega
  exact gt186_0
theorem gt187_0 : (List.range 40).all (fun j => match gc187 (40 * 0 + j) with | some op => gck 187 (40 * 0 + j) op (gp187 (40 * 0 + j)) | none => true) = true := by decide +kernel
theorem gk187 : ∀ (pc : Nat) (op : gOp), gpr 187 pc = some op → gOk 187 pc op := gprk (len := 13) (nc := 1) (c := gc187) (q := gp187) (fun _ => rfl) (by decide) fun k hk => by
  obtain rfl : k = 0 := by omega
  exact gt187_0
theorem gt188_0 : (List.range 40).all (fun j => match gc188 (40 * 0 + j) with | some op => gck 188 (40 * 0 + j) op (gp188 (40 * 0 + j)) | none => true) = true := by decide +kernel
theorem gk188 : ∀ (pc : Nat) (op : gOp), gpr 188 pc = some op → gOk 188 pc op := gprk (len := 14) (nc := 1) (c := gc188) (q := gp188) (fun _ => rfl) (by decide) fun k hk => by
  obtain rfl : k = 0 := by omega
  exact gt188_0
theorem gt189_0 : (List.range 40).all (fun j => match gc189 (40 * 0 + j) with | some op => gck 189 (40 * 0 + j) op (gp189 (40 * 0 + j)) | none => true) = true := by decide +kernel
theorem gk189 : ∀ (pc : Nat) (op : gOp), gpr 189 pc = some op → gOk 189 pc op := gprk (len := 27) (nc := 1) (c := gc189) (q := gp189) (fun _ => rfl) (by decide) fun k hk => by
  obtain rfl : k = 0 := by omega
  exact gt189_0
theorem gt190_0 : (List.range 40).all (fun j => match gc190 (40 * 0 + j) with | some op => gck 190 (40 * 0 + j) op (gp190 (40 * 0 + j)) | none => true) = true := by decide +kernel
theorem gk190 : ∀ (pc : Nat) (op : gOp), gpr 190 pc = some op → gOk 190 pc op := gprk (len := 12) (nc := 1) (c := gc190) (q := gp190) (fun _ => rfl) (by decide) fun k hk => by
  obtain rfl : k = 0 := by omega
  exact gt190_0
theorem gt191_0 : (List.range 40).all (fun j => match gc191 (40 * 0 + j) with | some op => gck 191 (40 * 0 + j) op (gp191 (40 * 0 + j)) | none => true) = true := by decide +kernel
theorem gk191 : ∀ (pc : Nat) (op : gOp), gpr 191 pc = some op → gOk 191 pc op := gprk (len := 12) (nc := 1) (c := gc191) (q := gp191) (fun _ => rfl) (by decide) fun k hk => by
  obtain rfl : k = 0 := by omega
  exact gt191_0
theorem gt192_0 : (List.range 40).all (fun j => match gc192 (40 * 0 + j) with | some op => gck 192 (40 * 0 + j) op (gp192 (40 * 0 + j)) | none => true) = true := by decide +kernel
theorem gk192 : ∀ (pc : Nat) (op : gOp), gpr 192 pc = some op → gOk 192 pc op := gprk (len := 11) (nc := 1) (c := gc192) (q := gp192) (fun _ => rfl) (by decide) fun k hk => by
  obtain rfl : k = 0 := by omega
  exact gt192_0
theorem gt193_0 : (List.range 40).all (fun j => match gc193 (40 * 0 + j) with | some op => gck 193 (40 * 0 + j) op (gp193 (40 * 0 + j)) | none => true) = true := by decide +kernel
theorem gk193 : ∀ (pc : Nat) (op : gOp), gpr 193 pc = some op → gOk 193 pc op := gprk (len := 20) (nc := 1) (c := gc193) (q := gp193) (fun _ => rfl) (by decide) fun k hk => by
  obtain rfl : k = 0 := by omega
  exact gt193_0
theorem gt194_0 : (List.range 40).all (fun j => match gc194 (40 * 0 + j) with | some op => gck 194 (40 * 0 + j) op (gp194 (40 * 0 + j)) | none => true) = true := by decide +kernel
theorem gk194 : ∀ (pc : Nat) (op : gOp), gpr 194 pc = some op → gOk 194 pc op := gprk (len := 18) (nc := 1) (c := gc194) (q := gp194) (fun _ => rfl) (by decide) fun k hk => by
  obtain rfl : k = 0 := by omega
  exact gt194_0
theorem gt195_0 : (List.range 40).all (fun j => match gc195 (40 * 0 + j) with | some op => gck 195 (40 * 0 + j) op (gp195 (40 * 0 + j)) | none => true) = true := by decide +kernel
theorem gt195_1 : (List.range 40).all (fun j => match gc195 (40 * 1 + j) with | some op => gck 195 (40 * 1 + j) op (gp195 (40 * 1 + j)) | none => true) = true := by decide +kernel
theorem gt195_2 : (List.range 40).all (fun j => match gc195 (40 * 2 + j) with | some op => gck 195 (40 * 2 + j) op (gp195 (40 * 2 + j)) | none => true) = true := by decide +kernel
theorem gt195_3 : (List.range 40).all (fun j => match gc195 (40 * 3 + j) with | some op => gck 195 (40 * 3 + j) op (gp195 (40 * 3 + j)) | none => true) = true := by decide +kernel
theorem gk195 : ∀ (pc : Nat) (op : gOp), gpr 195 pc = some op → gOk 195 pc op := gprk (len := 149) (nc := 4) (c := gc195) (q := gp195) (fun _ => rfl) (by decide) fun k hk => by
  rcases Nat.lt_or_ge k 2 with h0_4 | h0_4
  · skip
    rcases Nat.lt_or_ge k 1 with h0_2 | h0_2
    · skip
      obtain rfl : k = 0 := by omega
      exact gt195_0
    · skip
      obtain rfl : k = 1 := by omega
      exact gt195_1
  · skip
    rcases Nat.lt_or_ge k 3 with h2_4 | h2_4
    · skip
      obtain rfl : k = 2 := by omega
      exact gt195_2
    · skip
      obtain rfl : k = 3 := by omega
      exact gt195_3
theorem gt196_0 : (List.range 40).all (fun j => match gc196 (40 * 0 + j) with | some op => gck 196 (40 * 0 + j) op (gp196 (40 * 0 + j)) | none => true) = true := by decide +kernel
theorem gk196 : ∀ (pc : Nat) (op : gOp), gpr 196 pc = some op → gOk 196 pc op := gprk (len := 31) (nc := 1) (c := gc196) (q := gp196) (fun _ => rfl) (by decide) fun k hk => by
  obtain rfl : k = 0 := by omega
  exact gt196_0
theorem gt197_0 : (List.range 40).all (fun j => match gc197 (40 * 0 + j) with | some op => gck 197 (40 * 0 + j) op (gp197 (40 * 0 + j)) | none => true) = true := by decide +kernel
theorem gt197_1 : (List.range 40).all (fun j => match gc197 (40 * 1 + j) with | some op => gck 197 (40 * 1 + j) op (gp197 (40 * 1 + j)) | none => true) = true := by decide +kernel
theorem gk197 : ∀ (pc : Nat) (op : gOp), gpr 197 pc = some op → gOk 197 pc op := gprk (len := 54) (nc := 2) (c := gc197) (q := gp197) (fun _ => rfl) (by decide) fun k hk => by
  rcases Nat.lt_or_ge k 1 with h0_2 | h0_2
  · skip
    obtain rfl : k = 0 := by omega
    exact gt197_0
  · skip
    obtain rfl : k = 1 := by omega
    exact gt197_1
theorem gt198_0 : (List.range 40).all (fun j => match gc198 (40 * 0 + j) with | some op => gck 198 (40 * 0 + j) op (gp198 (40 * 0 + j)) | none => true) = true := by decide +kernel
theorem gt198_1 : (List.range 40).all (fun j => match gc198 (40 * 1 + j) with | some op => gck 198 (40 * 1 + j) op (gp198 (40 * 1 + j)) | none => true) = true := by decide +kernel
theorem gt198_2 : (List.range 40).all (fun j => match gc198 (40 * 2 + j) with | some op => gck 198 (40 * 2 + j) op (gp198 (40 * 2 + j)) | none => true) = true := by decide +kernel
theorem gk198 : ∀ (pc : Nat) (op : gOp), gpr 198 pc = some op → gOk 198 pc op := gprk (len := 92) (nc := 3) (c := gc198) (q := gp198) (fun _ => rfl) (by decide) fun k hk => by
  rcases Nat.lt_or_ge k 1 with h0_3 | h0_3
  · skip
    obtain rfl : k = 0 := by omega
    exact gt198_0
  · skip
    rcases Nat.lt_or_ge k 2 with h1_3 | h1_3
    · skip
      obtain rfl : k = 1 := by omega
      exact gt198_1
    · skip
      obtain rfl : k = 2 := by omega
      exact gt198_2
theorem gt199_0 : (List.range 40).all (fun j => match gc199 (40 * 0 + j) with | some op => gck 199 (40 * 0 + j) op (gp199 (40 * 0 + j)) | none => true) = true := by decide +kernel
theorem gk199 : ∀ (pc : Nat) (op : gOp), gpr 199 pc = some op → gOk 199 pc op := gprk (len := 15) (nc := 1) (c := gc199) (q := gp199) (fun _ => rfl) (by decide) fun k hk => by
  obtain rfl : k = 0 := by omega
  exact gt199_0
theorem gt200_0 : (List.range 40).all (fun j => match gc200 (40 * 0 + j) with | some op => gck 200 (40 * 0 + j) op (gp200 (40 * 0 + j)) | none => true) = true := by decide +kernel
theorem gk200 : ∀ (pc : Nat) (op : gOp), gpr 200 pc = some op → gOk 200 pc op := gprk (len := 33) (nc := 1) (c := gc200) (q := gp200) (fun _ => rfl) (by decide) fun k hk => by
  obtain rfl : k = 0 := by omega
  exact gt200_0
theorem gt201_0 : (List.range 40).all (fun j => match gc201 (40 * 0 + j) with | some op => gck 201 (40 * 0 + j) op (gp201 (40 * 0 + j)) | none => true) = true := by decide +kernel
theorem gt201_1 : (List.range 40).all (fun j => match gc201 (40 * 1 + j) with | some op => gck 201 (40 * 1 + j) op (gp201 (40 * 1 + j)) | none => true) = true := by decide +kernel
theorem gk201 : ∀ (pc : Nat) (op : gOp), gpr 201 pc = some op → gOk 201 pc op := gprk (len := 55) (nc := 2) (c := gc201) (q := gp201) (fun _ => rfl) (by decide) fun k hk => by
  rcases Nat.lt_or_ge k 1 with h0_2 | h0_2
  · skip
    obtain rfl : k = 0 := by omega
    exact gt201_0
  · skip
    obtain rfl : k = 1 := by omega
    exact gt201_1
theorem gt202_0 : (List.range 40).all (fun j => match gc202 (40 * 0 + j) with | some op => gck 202 (40 * 0 + j) op (gp202 (40 * 0 + j)) | none => true) = true := by decide +kernel
theorem gt202_1 : (List.range 40).all (fun j => match gc202 (40 * 1 + j) with | some op => gck 202 (40 * 1 + j) op (gp202 (40 * 1 + j)) | none => true) = true := by decide +kernel
theorem gk202 : ∀ (pc : Nat) (op : gOp), gpr 202 pc = some op → gOk 202 pc op := gprk (len := 65) (nc := 2) (c := gc202) (q := gp202) (fun _ => rfl) (by decide) fun k hk => by
  rcases Nat.lt_or_ge k 1 with h0_2 | h0_2
  · skip
    obtain rfl : k = 0 := by omega
    exact gt202_0
  · skip
    obtain rfl : k = 1 := by omega
    exact gt202_1
theorem gt203_0 : (List.range 40).all (fun j => match gc203 (40 * 0 + j) with | some op => gck 203 (40 * 0 + j) op (gp203 (40 * 0 + j)) | none => true) = true := by decide +kernel
theorem gt203_1 : (List.range 40).all (fun j => match gc203 (40 * 1 + j) with | some op => gck 203 (40 * 1 + j) op (gp203 (40 * 1 + j)) | none => true) = true := by decide +kernel
theorem gt203_2 : (List.range 40).all (fun j => match gc203 (40 * 2 + j) with | some op => gck 203 (40 * 2 + j) op (gp203 (40 * 2 + j)) | none => true) = true := by decide +kernel
theorem gk203 : ∀ (pc : Nat) (op : gOp), gpr 203 pc = some op → gOk 203 pc op := gprk (len := 104) (nc := 3) (c := gc203) (q := gp203) (fun _ => rfl) (by decide) fun k hk => by
  rcases Nat.lt_or_ge k 1 with h0_3 | h0_3
  · skip
    obtain rfl : k = 0 := by omega
    exact gt203_0
  · skip
    rcases Nat.lt_or_ge k 2 with h1_3 | h1_3
    · skip
      obtain rfl : k = 1 := by omega
      exact gt203_1
    · skip
      obtain rfl : k = 2 := by omega
      exact gt203_2
theorem gt204_0 : (List.range 40).all (fun j => match gc204 (40 * 0 + j) with | some op => gck 204 (40 * 0 + j) op (gp204 (40 * 0 + j)) | none => true) = true := by decide +kernel
theorem gt204_1 : (List.range 40).all (fun j => match gc204 (40 * 1 + j) with | some op => gck 204 (40 * 1 + j) op (gp204 (40 * 1 + j)) | none => true) = true := by decide +kernel
theorem gt204_2 : (List.range 40).all (fun j => match gc204 (40 * 2 + j) with | some op => gck 204 (40 * 2 + j) op (gp204 (40 * 2 + j)) | none => true) = true := by decide +kernel
theorem gt204_3 : (List.range 40).all (fun j => match gc204 (40 * 3 + j) with | some op => gck 204 (40 * 3 + j) op (gp204 (40 * 3 + j)) | none => true) = true := by decide +kernel
theorem gk204 : ∀ (pc : Nat) (op : gOp), gpr 204 pc = some op → gOk 204 pc op := gprk (len := 129) (nc := 4) (c := gc204) (q := gp204) (fun _ => rfl) (by decide) fun k hk => by
  rcases Nat.lt_or_ge k 2 with h0_4 | h0_4
  · skip
    rcases Nat.lt_or_ge k 1 with h0_2 | h0_2
    · skip
      obtain rfl : k = 0 := by omega
      exact gt204_0
    · skip
      obtain rfl : k = 1 := by omega
      exact gt204_1
  · skip
    rcases Nat.lt_or_ge k 3 with h2_4 | h2_4
    · skip
      obtain rfl : k = 2 := by omega
      exact gt204_2
    · skip
      obtain rfl : k = 3 := by omega
      exact gt204_3
theorem gt205_0 : (List.range 40).all (fun j => match gc205 (40 * 0 + j) with | some op => gck 205 (40 * 0 + j) op (gp205 (40 * 0 + j)) | none => true) = true := by decide +kernel
theorem gt205_1 : (List.range 40).all (fun j => match gc205 (40 * 1 + j) with | some op => gck 205 (40 * 1 + j) op (gp205 (40 * 1 + j)) | none => true) = true := by decide +kernel
theorem gt205_2 : (List.range 40).all (fun j => match gc205 (40 * 2 + j) with | some op => gck 205 (40 * 2 + j) op (gp205 (40 * 2 + j)) | none => true) = true := by decide +kernel
theorem gt205_3 : (List.range 40).all (fun j => match gc205 (40 * 3 + j) with | some op => gck 205 (40 * 3 + j) op (gp205 (40 * 3 + j)) | none => true) = true := by decide +kernel
theorem gk205 : ∀ (pc : Nat) (op : gOp), gpr 205 pc = some op → gOk 205 pc op := gprk (len := 142) (nc := 4) (c := gc205) (q := gp205) (fun _ => rfl) (by decide) fun k hk => by
  rcases Nat.lt_or_ge k 2 with h0_4 | h0_4
  · skip
    rcases Nat.lt_or_ge k 1 with h0_2 | h0_2
    · skip
      obtain rfl : k = 0 := by omega
      exact gt205_0
    · skip
      obtain rfl : k = 1 := by omega
      exact gt205_1
  · skip
    rcases Nat.lt_or_ge k 3 with h2_4 | h2_4
    · skip
      obtain rfl : k = 2 := by omega
      exact gt205_2
    · skip
      obtain rfl : k = 3 := by omega
      exact gt205_3
theorem gt206_0 : (List.range 40).all (fun j => match gc206 (40 * 0 + j) with | some op => gck 206 (40 * 0 + j) op (gp206 (40 * 0 + j)) | none => true) = true := by decide +kernel
theorem gk206 : ∀ (pc : Nat) (op : gOp), gpr 206 pc = some op → gOk 206 pc op := gprk (len := 39) (nc := 1) (c := gc206) (q := gp206) (fun _ => rfl) (by decide) fun k hk => by
  obtain rfl : k = 0 := by omega
  exact gt206_0
theorem gt207_0 : (List.range 40).all (fun j => match gc207 (40 * 0 + j) with | some op => gck 207 (40 * 0 + j) op (gp207 (40 * 0 + j)) | none => true) = true := by decide +kernel
theorem gk207 : ∀ (pc : Nat) (op : gOp), gpr 207 pc = some op → gOk 207 pc op := gprk (len := 23) (nc := 1) (c := gc207) (q := gp207) (fun _ => rfl) (by decide) fun k hk => by
  obtain rfl : k = 0 := by omega
  exact gt207_0
theorem gt208_0 : (List.range 40).all (fun j => match gc208 (40 * 0 + j) with | some op => gck 208 (40 * 0 + j) op (gp208 (40 * 0 + j)) | none => true) = true := by decide +kernel
theorem gk208 : ∀ (pc : Nat) (op : gOp), gpr 208 pc = some op → gOk 208 pc op := gprk (len := 32) (nc := 1) (c := gc208) (q := gp208) (fun _ => rfl) (by decide) fun k hk => by
  obtain rfl : k = 0 := by omega
  exact gt208_0
theorem gt209_0 : (List.range 40).all (fun j => match gc209 (40 * 0 + j) with | some op => gck 209 (40 * 0 + j) op (gp209 (40 * 0 + j)) | none => true) = true := by decide +kernel
theorem gk209 : ∀ (pc : Nat) (op : gOp), gpr 209 pc = some op → gOk 209 pc op := gprk (len := 27) (nc := 1) (c := gc209) (q := gp209) (fun _ => rfl) (by decide) fun k hk => by
  obtain rfl : k = 0 := by omega
  exact gt209_0
theorem gt210_0 : (List.range 40).all (fun j => match gc210 (40 * 0 + j) with | some op => gck 210 (40 * 0 + j) op (gp210 (40 * 0 + j)) | none => true) = true := by decide +kernel
theorem gk210 : ∀ (pc : Nat) (op : gOp), gpr 210 pc = some op → gOk 210 pc op := gprk (len := 10) (nc := 1) (c := gc210) (q := gp210) (fun _ => rfl) (by decide) fun k hk => by
  obtain rfl : k = 0 := by omega
  exact gt210_0
theorem gt211_0 : (List.range 40).all (fun j => match gc211 (40 * 0 + j) with | some op => gck 211 (40 * 0 + j) op (gp211 (40 * 0 + j)) | none => true) = true := by decide +kernel
theorem gk211 : ∀ (pc : Nat) (op : gOp), gpr 211 pc = some op → gOk 211 pc op := gprk (len := 39) (nc := 1) (c := gc211) (q := gp211) (fun _ => rfl) (by decide) fun k hk => by
  obtain rfl : k = 0 := by omega
  exact gt211_0
theorem gt212_0 : (List.range 40).all (fun j => match gc212 (40 * 0 + j) with | some op => gck 212 (40 * 0 + j) op (gp212 (40 * 0 + j)) | none => true) = true := by decide +kernel
theorem gk212 : ∀ (pc : Nat) (op : gOp), gpr 212 pc = some op → gOk 212 pc op := gprk (len := 22) (nc := 1) (c := gc212) (q := gp212) (fun _ => rfl) (by decide) fun k hk => by
  obtain rfl : k = 0 := by omega
  exact gt212_0
theorem gt213_0 : (List.range 40).all (fun j => match gc213 (40 * 0 + j) with | some op => gck 213 (40 * 0 + j) op (gp213 (40 * 0 + j)) | none => true) = true := by decide +kernel
theorem gk213 : ∀ (pc : Nat) (op : gOp), gpr 213 pc = some op → gOk 213 pc op := gprk (len := 39) (nc := 1) (c := gc213) (q := gp213) (fun _ => rfl) (by decide) fun k hk => by
  obtain rfl : k = 0 := by omega
  exact gt213_0
theorem gt214_0 : (List.range 40).all (fun j => match gc214 (40 * 0 + j) with | some op => gck 214 (40 * 0 + j) op (gp214 (40 * 0 + j)) | none => true) = true := by decide +kernel
theorem gt214_1 : (List.range 40).all (fun j => match gc214 (40 * 1 + j) with | some op => gck 214 (40 * 1 + j) op (gp214 (40 * 1 + j)) | none => true) = true := by decide +kernel
theorem gt214_2 : (List.range 40).all (fun j => match gc214 (40 * 2 + j) with | some op => gck 214 (40 * 2 + j) op (gp214 (40 * 2 + j)) | none => true) = true := by decide +kernel
theorem gt214_3 : (List.range 40).all (fun j => match gc214 (40 * 3 + j) with | some op => gck 214 (40 * 3 + j) op (gp214 (40 * 3 + j)) | none => true) = true := by decide +kernel
theorem gk214 : ∀ (pc : Nat) (op : gOp), gpr 214 pc = some op → gOk 214 pc op := gprk (len := 153) (nc := 4) (c := gc214) (q := gp214) (fun _ => rfl) (by decide) fun k hk => by
  rcases Nat.lt_or_ge k 2 with h0_4 | h0_4
  · skip
    rcases Nat.lt_or_ge k 1 with h0_2 | h0_2
    · skip
      obtain rfl : k = 0 := by omega
      exact gt214_0
    · skip
      obtain rfl : k = 1 := by omega
      exact gt214_1
  · skip
    rcases Nat.lt_or_ge k 3 with h2_4 | h2_4
    · skip
      obtain rfl : k = 2 := by omega
      exact gt214_2
    · skip
      obtain rfl : k = 3 := by omega
      exact gt214_3
theorem gt215_0 : (List.range 40).all (fun j => match gc215 (40 * 0 + j) with | some op => gck 215 (40 * 0 + j) op (gp215 (40 * 0 + j)) | none => true) = true := by decide +kernel
theorem gt215_1 : (List.range 40).all (fun j => match gc215 (40 * 1 + j) with | some op => gck 215 (40 * 1 + j) op (gp215 (40 * 1 + j)) | none => true) = true := by decide +kernel
theorem gt215_2 : (List.range 40).all (fun j => match gc215 (40 * 2 + j) with | some op => gck 215 (40 * 2 + j) op (gp215 (40 * 2 + j)) | none => true) = true := by decide +kernel
theorem gt215_3 : (List.range 40).all (fun j => match gc215 (40 * 3 + j) with | some op => gck 215 (40 * 3 + j) op (gp215 (40 * 3 + j)) | none => true) = true := by decide +kernel
theorem gk215 : ∀ (pc : Nat) (op : gOp), gpr 215 pc = some op → gOk 215 pc op := gprk (len := 131) (nc := 4) (c := gc215) (q := gp215) (fun _ => rfl) (by decide) fun k hk => by
  rcases Nat.lt_or_ge k 2 with h0_4 | h0_4
  · skip
    rcases Nat.lt_or_ge k 1 with h0_2 | h0_2
    · skip
      obtain rfl : k = 0 := by omega
      exact gt215_0
    · skip
      obtain rfl : k = 1 := by omega
      exact gt215_1
  · skip
    rcases Nat.lt_or_ge k 3 with h2_4 | h2_4
    · skip
      obtain rfl : k = 2 := by omega
      exact gt215_2
    · skip
      obtain rfl : k = 3 := by omega
      exact gt215_3
theorem gt216_0 : (List.range 40).all (fun j => match gc216 (40 * 0 + j) with | some op => gck 216 (40 * 0 + j) op (gp216 (40 * 0 + j)) | none => true) = true := by decide +kernel
theorem gt216_1 : (List.range 40).all (fun j => match gc216 (40 * 1 + j) with | some op => gck 216 (40 * 1 + j) op (gp216 (40 * 1 + j)) | none => true) = true := by decide +kernel
theorem gt216_2 : (List.range 40).all (fun j => match gc216 (40 * 2 + j) with | some op => gck 216 (40 * 2 + j) op (gp216 (40 * 2 + j)) | none => true) = true := by decide +kernel
theorem gk216 : ∀ (pc : Nat) (op : gOp), gpr 216 pc = some op → gOk 216 pc op := gprk (len := 83) (nc := 3) (c := gc216) (q := gp216) (fun _ => rfl) (by decide) fun k hk => by
  rcases Nat.lt_or_ge k 1 with h0_3 | h0_3
  · skip
    obtain rfl : k = 0 := by omega
    exact gt216_0
  · skip
    rcases Nat.lt_or_ge k 2 with h1_3 | h1_3
    · skip
      obtain rfl : k = 1 := by omega
      exact gt216_1
    · skip
      obtain rfl : k = 2 := by omega
      exact gt216_2
theorem gt217_0 : (List.range 40).all (fun j => match gc217 (40 * 0 + j) with | some op => gck 217 (40 * 0 + j) op (gp217 (40 * 0 + j)) | none => true) = true := by decide +kernel
theorem gt217_1 : (List.range 40).all (fun j => match gc217 (40 * 1 + j) with | some op => gck 217 (40 * 1 + j) op (gp217 (40 * 1 + j)) | none => true) = true := by decide +kernel
theorem gk217 : ∀ (pc : Nat) (op : gOp), gpr 217 pc = some op → gOk 217 pc op := gprk (len := 60) (nc := 2) (c := gc217) (q := gp217) (fun _ => rfl) (by decide) fun k hk => by
  rcases Nat.lt_or_ge k 1 with h0_2 | h0_2
  · skip
    obtain rfl : k = 0 := by omega
    exact gt217_0
  · skip
    obtain rfl : k = 1 := by omega
    exact gt217_1
theorem gt218_0 : (List.range 40).all (fun j => match gc218 (40 * 0 + j) with | some op => gck 218 (40 * 0 + j) op (gp218 (40 * 0 + j)) | none => true) = true := by decide +kernel
theorem gk218 : ∀ (pc : Nat) (op : gOp), gpr 218 pc = some op → gOk 218 pc op := gprk (len := 37) (nc := 1) (c := gc218) (q := gp218) (fun _ => rfl) (by decide) fun k hk => by
  obtain rfl : k = 0 := by omega
  exact gt218_0
theorem gt219_0 : (List.range 40).all (fun j => match gc219 (40 * 0 + j) with | some op => gck 219 (40 * 0 + j) op (gp219 (40 * 0 + j)) | none => true) = true := by decide +kernel
theorem gt219_1 : (List.range 40).all (fun j => match gc219 (40 * 1 + j) with | some op => gck 219 (40 * 1 + j) op (gp219 (40 * 1 + j)) | none => true) = true := by decide +kernel
theorem gk219 : ∀ (pc : Nat) (op : gOp), gpr 219 pc = some op → gOk 219 pc op := gprk (len := 49) (nc := 2) (c := gc219) (q := gp219) (fun _ => rfl) (by decide) fun k hk => by
  rcases Nat.lt_or_ge k 1 with h0_2 | h0_2
  · skip
    obtain rfl : k = 0 := by omega
    exact gt219_0
  · skip
    obtain rfl : k = 1 := by omega
    exact gt219_1
theorem gt220_0 : (List.range 40).all (fun j => match gc220 (40 * 0 + j) with | some op => gck 220 (40 * 0 + j) op (gp220 (40 * 0 + j)) | none => true) = true := by decide +kernel
theorem gt220_1 : (List.range 40).all (fun j => match gc220 (40 * 1 + j) with | some op => gck 220 (40 * 1 + j) op (gp220 (40 * 1 + j)) | none => true) = true := by decide +kernel
theorem gk220 : ∀ (pc : Nat) (op : gOp), gpr 220 pc = some op → gOk 220 pc op := gprk (len := 61) (nc := 2) (c := gc220) (q := gp220) (fun _ => rfl) (by decide) fun k hk => by
  rcases Nat.lt_or_ge k 1 with h0_2 | h0_2
  · skip
    obtain rfl : k = 0 := by omega
    exact gt220_0
  · skip
    obtain rfl : k = 1 := by omega
    exact gt220_1
