theorem gt221_0 : (List.range 40).all (fun j => match gc221 (40 * 0 + j) with | some op => gck 221 (40 * 0 + j) op (gp221 (40 * 0 + j)) | none => true) = true := by decide +kernel
theorem gt221_1 : (List.range 40).all (fun j => match gc221 (40 * 1 + j) with | some op => gck 221 (40 * 1 + j) op (gp221 (40 * 1 + j)) | none => true) = true := by decide +kernel
theorem gk221 : ∀ (pc : Nat) (op : gOp), gpr 221 pc = some op → gOk 221 pc op := gprk (len := 50) (nc := 2) (c := gc221) (q := gp221) (fun _ => rfl) (by decide) fun k hk => by
  rcases Nat.lt_or_ge k 1 with h0_2 | h0_2
  · skip
    obtain rfl : k = 0 := by omega
    exact gt221_0
  · skip
    obtain rfl : k = 1 := by omega
    exact gt221_1
theorem gt222_0 : (List.range 40).all (fun j => match gc222 (40 * 0 + j) with | some op => gck 222 (40 * 0 + j) op (gp222 (40 * 0 + j)) | none => true) = true := by decide +kernel
theorem gk222 : ∀ (pc : Nat) (op : gOp), gpr 222 pc = some op → gOk 222 pc op := gprk (len := 24) (nc := 1) (c := gc222) (q := gp222) (fun _ => rfl) (by decide) fun k hk => by
  obtain rfl : k = 0 := by omega
  exact gt222_0
theorem gt223_0 : (List.range 40).all (fun j => match gc223 (40 * 0 + j) with | some op => gck 223 (40 * 0 + j) op (gp223 (40 * 0 + j)) | none => true) = true := by decide +kernel
theorem gt223_1 : (List.range 40).all (fun j => match gc223 (40 * 1 + j) with | some op => gck 223 (40 * 1 + j) op (gp223 (40 * 1 + j)) | none => true) = true := by decide +kernel
theorem gt223_2 : (List.range 40).all (fun j => match gc223 (40 * 2 + j) with | some op => gck 223 (40 * 2 + j) op (gp223 (40 * 2 + j)) | none => true) = true := by decide +kernel
theorem gt223_3 : (List.range 40).all (fun j => match gc223 (40 * 3 + j) with | some op => gck 223 (40 * 3 + j) op (gp223 (40 * 3 + j)) | none => true) = true := by decide +kernel
theorem gt223_4 : (List.range 40).all (fun j => match gc223 (40 * 4 + j) with | some op => gck 223 (40 * 4 + j) op (gp223 (40 * 4 + j)) | none => true) = true := by decide +kernel
theorem gk223 : ∀ (pc : Nat) (op : gOp), gpr 223 pc = some op → gOk 223 pc op := gprk (len := 163) (nc := 5) (c := gc223) (q := gp223) (fun _ => rfl) (by decide) fun k hk => by
  rcases Nat.lt_or_ge k 2 with h0_5 | h0_5
  · skip
    rcases Nat.lt_or_ge k 1 with h0_2 | h0_2
    · skip
      obtain rfl : k = 0 := by omega
      exact gt223_0
    · skip
      obtain rfl : k = 1 := by omega
      exact gt223_1
  · skip
    rcases Nat.lt_or_ge k 3 with h2_5 | h2_5
    · skip
      obtain rfl : k = 2 := by omega
      exact gt223_2
    · skip
      rcases Nat.lt_or_ge k 4 with h3_5 | h3_5
      · skip
        obtain rfl : k = 3 := by omega
        exact gt223_3
      · skip
        obtain rfl : k = 4 := by omega
        exact gt223_4
theorem gt224_0 : (List.range 40).all (fun j => match gc224 (40 * 0 + j) with | some op => gck 224 (40 * 0 + j) op (gp224 (40 * 0 + j)) | none => true) = true := by decide +kernel
theorem gk224 : ∀ (pc : Nat) (op : gOp), gpr 224 pc = some op → gOk 224 pc op := gprk (len := 25) (nc := 1) (c := gc224) (q := gp224) (fun _ => rfl) (by decide) fun k hk => by
  obtain rfl : k = 0 := by omega
  exact gt224_0
theorem gt225_0 : (List.range 40).all (fun j => match gc225 (40 * 0 + j) with | some op => gck 225 (40 * 0 + j) op (gp225 (40 * 0 + j)) | none => true) = true := by decide +kernel
theorem gt225_1 : (List.range 40).all (fun j => match gc225 (40 * 1 + j) with | some op => gck 225 (40 * 1 + j) op (gp225 (40 * 1 + j)) | none => true) = true := by decide +kernel
theorem gt225_2 : (List.range 40).all (fun j => match gc225 (40 * 2 + j) with | some op => gck 225 (40 * 2 + j) op (gp225 (40 * 2 + j)) | none => true) = true := by decide +kernel
theorem gk225 : ∀ (pc : Nat) (op : gOp), gpr 225 pc = some op → gOk 225 pc op := gprk (len := 117) (nc := 3) (c := gc225) (q := gp225) (fun _ => rfl) (by decide) fun k hk => by
  rcases Nat.lt_or_ge k 1 with h0_3 | h0_3
  · skip
    obtain rfl : k = 0 := by omega
    exact gt225_0
  · skip
    rcases Nat.lt_or_ge k 2 with h1_3 | h1_3
    · skip
      obtain rfl : k = 1 := by omega
      exact gt225_1
    · skip
      obtain rfl : k = 2 := by omega
      exact gt225_2
theorem gt226_0 : (List.range 40).all (fun j => match gc226 (40 * 0 + j) with | some op => gck 226 (40 * 0 + j) op (gp226 (40 * 0 + j)) | none => true) = true := by decide +kernel
theorem gt226_1 : (List.range 40).all (fun j => match gc226 (40 * 1 + j) with | some op => gck 226 (40 * 1 + j) op (gp226 (40 * 1 + j)) | none => true) = true := by decide +kernel
theorem gt226_2 : (List.range 40).all (fun j => match gc226 (40 * 2 + j) with | some op => gck 226 (40 * 2 + j) op (gp226 (40 * 2 + j)) | none => true) = true := by decide +kernel
theorem gt226_3 : (List.range 40).all (fun j => match gc226 (40 * 3 + j) with | some op => gck 226 (40 * 3 + j) op (gp226 (40 * 3 + j)) | none => true) = true := by decide +kernel
theorem gt226_4 : (List.range 40).all (fun j => match gc226 (40 * 4 + j) with | some op => gck 226 (40 * 4 + j) op (gp226 (40 * 4 + j)) | none => true) = true := by decide +kernel
theorem gk226 : ∀ (pc : Nat) (op : gOp), gpr 226 pc = some op → gOk 226 pc op := gprk (len := 193) (nc := 5) (c := gc226) (q := gp226) (fun _ => rfl) (by decide) fun k hk => by
  rcases Nat.lt_or_ge k 2 with h0_5 | h0_5
  · skip
    rcases Nat.lt_or_ge k 1 with h0_2 | h0_2
    · skip
      obtain rfl : k = 0 := by omega
      exact gt226_0
    · skip
      obtain rfl : k = 1 := by omega
      exact gt226_1
  · skip
    rcases Nat.lt_or_ge k 3 with h2_5 | h2_5
    · skip
      obtain rfl : k = 2 := by omega
      exact gt226_2
    · skip
      rcases Nat.lt_or_ge k 4 with h3_5 | h3_5
      · skip
        obtain rfl : k = 3 := by omega
        exact gt226_3
      · skip
        obtain rfl : k = 4 := by omega
        exact gt226_4
theorem gt227_0 : (List.range 40).all (fun j => match gc227 (40 * 0 + j) with | some op => gck 227 (40 * 0 + j) op (gp227 (40 * 0 + j)) | none => true) = true := by decide +kernel
theorem gt227_1 : (List.range 40).all (fun j => match gc227 (40 * 1 + j) with | some op => gck 227 (40 * 1 + j) op (gp227 (40 * 1 + j)) | none => true) = true := by decide +kernel
theorem gk227 : ∀ (pc : Nat) (op : gOp), gpr 227 pc = some op → gOk 227 pc op := gprk (len := 61) (nc := 2) (c := gc227) (q := gp227) (fun _ => rfl) (by decide) fun k hk => by
  rcases Nat.lt_or_ge k 1 with h0_2 | h0_2
  · skip
    obtain rfl : k = 0 := by omega
    exact gt227_0
  · skip
    obtain rfl : k = 1 := by omega
    exact gt227_1
theorem gt228_0 : (List.range 40).all (fun j => match gc228 (40 * 0 + j) with | some op => gck 228 (40 * 0 + j) op (gp228 (40 * 0 + j)) | none => true) = true := by decide +kernel
theorem gk228 : ∀ (pc : Nat) (op : gOp), gpr 228 pc = some op → gOk 228 pc op := gprk (len := 29) (nc := 1) (c := gc228) (q := gp228) (fun _ => rfl) (by decide) fun k hk => by
  obtain rfl : k = 0 := by omega
  exact gt228_0
theorem gt229_0 : (List.range 40).all (fun j => match gc229 (40 * 0 + j) with | some op => gck 229 (40 * 0 + j) op (gp229 (40 * 0 + j)) | none => true) = true := by decide +kernel
theorem gt229_1 : (List.range 40).all (fun j => match gc229 (40 * 1 + j) with | some op => gck 229 (40 * 1 + j) op (gp229 (40 * 1 + j)) | none => true) = true := by decide +kernel
theorem gt229_2 : (List.range 40).all (fun j => match gc229 (40 * 2 + j) with | some op => gck 229 (40 * 2 + j) op (gp229 (40 * 2 + j)) | none => true) = true := by decide +kernel
theorem gk229 : ∀ (pc : Nat) (op : gOp), gpr 229 pc = some op → gOk 229 pc op := gprk (len := 94) (nc := 3) (c := gc229) (q := gp229) (fun _ => rfl) (by decide) fun k hk => by
  rcases Nat.lt_or_ge k 1 with h0_3 | h0_3
  · skip
    obtain rfl : k = 0 := by omega
    exact gt229_0
  · skip
    rcases Nat.lt_or_ge k 2 with h1_3 | h1_3
    · skip
      obtain rfl : k = 1 := by omega
      exact gt229_1
    · skip
      obtain rfl : k = 2 := by omega
      exact gt229_2
theorem gt230_0 : (List.range 40).all (fun j => match gc230 (40 * 0 + j) with | some op => gck 230 (40 * 0 + j) op (gp230 (40 * 0 + j)) | none => true) = true := by decide +kernel
theorem gk230 : ∀ (pc : Nat) (op : gOp), gpr 230 pc = some op → gOk 230 pc op := gprk (len := 12) (nc := 1) (c := gc230) (q := gp230) (fun _ => rfl) (by decide) fun k hk => by
  obtain rfl : k = 0 := by omega
  exact gt230_0
theorem gt231_0 : (List.range 40).all (fun j => match gc231 (40 * 0 + j) with | some op => gck 231 (40 * 0 + j) op (gp231 (40 * 0 + j)) | none => true) = true := by decide +kernel
theorem gt231_1 : (List.range 40).all (fun j => match gc231 (40 * 1 + j) with | some op => gck 231 (40 * 1 + j) op (gp231 (40 * 1 + j)) | none => true) = true := by decide +kernel
theorem gt231_2 : (List.range 40).all (fun j => match gc231 (40 * 2 + j) with | some op => gck 231 (40 * 2 + j) op (gp231 (40 * 2 + j)) | none => true) = true := by decide +kernel
theorem gt231_3 : (List.range 40).all (fun j => match gc231 (40 * 3 + j) with | some op => gck 231 (40 * 3 + j) op (gp231 (40 * 3 + j)) | none => true) = true := by decide +kernel
theorem gk231 : ∀ (pc : Nat) (op : gOp), gpr 231 pc = some op → gOk 231 pc op := gprk (len := 142) (nc := 4) (c := gc231) (q := gp231) (fun _ => rfl) (by decide) fun k hk => by
  rcases Nat.lt_or_ge k 2 with h0_4 | h0_4
  · skip
    rcases Nat.lt_or_ge k 1 with h0_2 | h0_2
    · skip
      obtain rfl : k = 0 := by omega
      exact gt231_0
    · skip
      obtain rfl : k = 1 := by omega
      exact gt231_1
  · skip
    rcases Nat.lt_or_ge k 3 with h2_4 | h2_4
    · skip
      obtain rfl : k = 2 := by omega
      exact gt231_2
    · skip
      obtain rfl : k = 3 := by omega
      exact gt231_3
theorem gt232_0 : (List.range 40).all (fun j => match gc232 (40 * 0 + j) with | some op => gck 232 (40 * 0 + j) op (gp232 (40 * 0 + j)) | none => true) = true := by decide +kernel
theorem gt232_1 : (List.range 40).all (fun j => match gc232 (40 * 1 + j) with | some op => gck 232 (40 * 1 + j) op (gp232 (40 * 1 + j)) | none => true) = true := by decide +kernel
theorem gk232 : ∀ (pc : Nat) (op : gOp), gpr 232 pc = some op → gOk 232 pc op := gprk (len := 75) (nc := 2) (c := gc232) (q := gp232) (fun _ => rfl) (by decide) fun k hk => by
  rcases Nat.lt_or_ge k 1 with h0_2 | h0_2
  · skip
    obtain rfl : k = 0 := by omega
    exact gt232_0
  · skip
    obtain rfl : k = 1 := by omega
    exact gt232_1
theorem gt233_0 : (List.range 40).all (fun j => match gc233 (40 * 0 + j) with | some op => gck 233 (40 * 0 + j) op (gp233 (40 * 0 + j)) | none => true) = true := by decide +kernel
theorem gt233_1 : (List.range 40).all (fun j => match gc233 (40 * 1 + j) with | some op => gck 233 (40 * 1 + j) op (gp233 (40 * 1 + j)) | none => true) = true := by decide +kernel
theorem gt233_2 : (List.range 40).all (fun j => match gc233 (40 * 2 + j) with | some op => gck 233 (40 * 2 + j) op (gp233 (40 * 2 + j)) | none => true) = true := by decide +kernel
theorem gt233_3 : (List.range 40).all (fun j => match gc233 (40 * 3 + j) with | some op => gck 233 (40 * 3 + j) op (gp233 (40 * 3 + j)) | none => true) = true := by decide +kernel
theorem gk233 : ∀ (pc : Nat) (op : gOp), gpr 233 pc = some op → gOk 233 pc op := gprk (len := 126) (nc := 4) (c := gc233) (q := gp233) (fun _ => rfl) (by decide) fun k hk => by
  rcases Nat.lt_or_ge k 2 with h0_4 | h0_4
  · skip
    rcases Nat.lt_or_ge k 1 with h0_2 | h0_2
    · skip
      obtain rfl : k = 0 := by omega
      exact gt233_0
    · skip
      obtain rfl : k = 1 := by omega
      exact gt233_1
  · skip
    rcases Nat.lt_or_ge k 3 with h2_4 | h2_4
    · skip
      obtain rfl : k = 2 := by omega
      exact gt233_2
    · skip
      obtain rfl : k = 3 := by omega
      exact gt233_3
theorem gt234_0 : (List.range 40).all (fun j => match gc234 (40 * 0 + j) with | some op => gck 234 (40 * 0 + j) op (gp234 (40 * 0 + j)) | none => true) = true := by decide +kernel
theorem gt234_1 : (List.range 40).all (fun j => match gc234 (40 * 1 + j) with | some op => gck 234 (40 * 1 + j) op (gp234 (40 * 1 + j)) | none => true) = true := by decide +kernel
theorem gk234 : ∀ (pc : Nat) (op : gOp), gpr 234 pc = some op → gOk 234 pc op := gprk (len := 68) (nc := 2) (c := gc234) (q := gp234) (fun _ => rfl) (by decide) fun k hk => by
  rcases Nat.lt_or_ge k 1 with h0_2 | h0_2
  · skip
    obtain rfl : k = 0 := by omega
    exact gt234_0
  · skip
    obtain rfl : k = 1 := by omega
    exact gt234_1
theorem gt235_0 : (List.range 40).all (fun j => match gc235 (40 * 0 + j) with | some op => gck 235 (40 * 0 + j) op (gp235 (40 * 0 + j)) | none => true) = true := by decide +kernel
theorem gt235_1 : (List.range 40).all (fun j => match gc235 (40 * 1 + j) with | some op => gck 235 (40 * 1 + j) op (gp235 (40 * 1 + j)) | none => true) = true := by decide +kernel
theorem gk235 : ∀ (pc : Nat) (op : gOp), gpr 235 pc = some op → gOk 235 pc op := gprk (len := 72) (nc := 2) (c := gc235) (q := gp235) (fun _ => rfl) (by decide) fun k hk => by
  rcases Nat.lt_or_ge k 1 with h0_2 | h0_2
  · skip
    obtain rfl : k = 0 := by omega
    exact gt235_0
  · skip
    obtain rfl : k = 1 := by omega
    exact gt235_1
theorem gt236_0 : (List.range 40).all (fun j => match gc236 (40 * 0 + j) with | some op => gck 236 (40 * 0 + j) op (gp236 (40 * 0 + j)) | none => true) = true := by decide +kernel
theorem gt236_1 : (List.range 40).all (fun j => match gc236 (40 * 1 + j) with | some op => gck 236 (40 * 1 + j) op (gp236 (40 * 1 + j)) | none => true) = true := by decide +kernel
theorem gt236_2 : (List.range 40).all (fun j => match gc236 (40 * 2 + j) with | some op => gck 236 (40 * 2 + j) op (gp236 (40 * 2 + j)) | none => true) = true := by decide +kernel
theorem gt236_3 : (List.range 40).all (fun j => match gc236 (40 * 3 + j) with | some op => gck 236 (40 * 3 + j) op (gp236 (40 * 3 + j)) | none => true) = true := by decide +kernel
theorem gk236 : ∀ (pc : Nat) (op : gOp), gpr 236 pc = some op → gOk 236 pc op := gprk (len := 142) (nc := 4) (c := gc236) (q := gp236) (fun _ => rfl) (by decide) fun k hk => by
  rcases Nat.lt_or_ge k 2 with h0_4 | h0_4
  · skip
    rcases Nat.lt_or_ge k 1 with h0_2 | h0_2
    · skip
      obtain rfl : k = 0 := by omega
      exact gt236_0
    · skip
      obtain rfl : k = 1 := by omega
      exact gt236_1
  · skip
    rcases Nat.lt_or_ge k 3 with h2_4 | h2_4
    · skip
      obtain rfl : k = 2 := by omega
      exact gt236_2
    · skip
      obtain rfl : k = 3 := by omega
      exact gt236_3
theorem gt237_0 : (List.range 40).all (fun j => match gc237 (40 * 0 + j) with | some op => gck 237 (40 * 0 + j) op (gp237 (40 * 0 + j)) | none => true) = true := by decide +kernel
theorem gt237_1 : (List.range 40).all (fun j => match gc237 (40 * 1 + j) with | some op => gck 237 (40 * 1 + j) op (gp237 (40 * 1 + j)) | none => true) = true := by decide +kernel
theorem gk237 : ∀ (pc : Nat) (op : gOp), gpr 237 pc = some op → gOk 237 pc op := gprk (len := 69) (nc := 2) (c := gc237) (q := gp237) (fun _ => rfl) (by decide) fun k hk => by
  rcases Nat.lt_or_ge k 1 with h0_2 | h0_2
  · skip
    obtain rfl : k = 0 := by omega
    exact gt237_0
  · skip
    obtain rfl : k = 1 := by omega
    exact gt237_1
theorem gt238_0 : (List.range 40).all (fun j => match gc238 (40 * 0 + j) with | some op => gck 238 (40 * 0 + j) op (gp238 (40 * 0 + j)) | none => true) = true := by decide +kernel
theorem gt238_1 : (List.range 40).all (fun j => match gc238 (40 * 1 + j) with | some op => gck 238 (40 * 1 + j) op (gp238 (40 * 1 + j)) | none => true) = true := by decide +kernel
theorem gt238_2 : (List.range 40).all (fun j => match gc238 (40 * 2 + j) with | some op => gck 238 (40 * 2 + j) op (gp238 (40 * 2 + j)) | none => true) = true := by decide +kernel
theorem gk238 : ∀ (pc : Nat) (op : gOp), gpr 238 pc = some op → gOk 238 pc op := gprk (len := 83) (nc := 3) (c := gc238) (q := gp238) (fun _ => rfl) (by decide) fun k hk => by
  rcases Nat.lt_or_ge k 1 with h0_3 | h0_3
  · skip
    obtain rfl : k = 0 := by omega
    exact gt238_0
  · skip
    rcases Nat.lt_or_ge k 2 with h1_3 | h1_3
    · skip
      obtain rfl : k = 1 := by omega
      exact gt238_1
    · skip
      obtain rfl : k = 2 := by omega
      exact gt238_2
theorem gt239_0 : (List.range 40).all (fun j => match gc239 (40 * 0 + j) with | some op => gck 239 (40 * 0 + j) op (gp239 (40 * 0 + j)) | none => true) = true := by decide +kernel
theorem gk239 : ∀ (pc : Nat) (op : gOp), gpr 239 pc = some op → gOk 239 pc op := gprk (len := 39) (nc := 1) (c := gc239) (q := gp239) (fun _ => rfl) (by decide) fun k hk => by
  obtain rfl : k = 0 := by omega
  exact gt239_0
theorem gt240_0 : (List.range 40).all (fun j => match gc240 (40 * 0 + j) with | some op => gck 240 (40 * 0 + j) op (gp240 (40 * 0 + j)) | none => true) = true := by decide +kernel
theorem gk240 : ∀ (pc : Nat) (op : gOp), gpr 240 pc = some op → gOk 240 pc op := gprk (len := 25) (nc := 1) (c := gc240) (q := gp240) (fun _ => rfl) (by decide) fun k hk => by
  obtain rfl : k = 0 := by omega
  exact gt240_0
theorem gt241_0 : (List.range 40).all (fun j => match gc241 (40 * 0 + j) with | some op => gck 241 (40 * 0 + j) op (gp241 (40 * 0 + j)) | none => true) = true := by decide +kernel
theorem gt241_1 : (List.range 40).all (fun j => match gc241 (40 * 1 + j) with | some op => gck 241 (40 * 1 + j) op (gp241 (40 * 1 + j)) | none => true) = true := by decide +kernel
theorem gk241 : ∀ (pc : Nat) (op : gOp), gpr 241 pc = some op → gOk 241 pc op := gprk (len := 42) (nc := 2) (c := gc241) (q := gp241) (fun _ => rfl) (by decide) fun k hk => by
  rcases Nat.lt_or_ge k 1 with h0_2 | h0_2
  · skip
    obtain rfl : k = 0 := by omega
    exact gt241_0
  · skip
    obtain rfl : k = 1 := by omega
    exact gt241_1
theorem gt242_0 : (List.range 40).all (fun j => match gc242 (40 * 0 + j) with | some op => gck 242 (40 * 0 + j) op (gp242 (40 * 0 + j)) | none => true) = true := by decide +kernel
theorem gt242_1 : (List.range 40).all (fun j => match gc242 (40 * 1 + j) with | some op => gck 242 (40 * 1 + j) op (gp242 (40 * 1 + j)) | none => true) = true := by decide +kernel
theorem gk242 : ∀ (pc : Nat) (op : gOp), gpr 242 pc = some op → gOk 242 pc op := gprk (len := 44) (nc := 2) (c := gc242) (q := gp242) (fun _ => rfl) (by decide) fun k hk => by
  rcases Nat.lt_or_ge k 1 with h0_2 | h0_2
  · skip
    obtain rfl : k = 0 := by omega
    exact gt242_0
  · skip
    obtain rfl : k = 1 := by omega
    exact gt242_1
theorem gt243_0 : (List.range 40).all (fun j => match gc243 (40 * 0 + j) with | some op => gck 243 (40 * 0 + j) op (gp243 (40 * 0 + j)) | none => true) = true := by decide +kernel
theorem gk243 : ∀ (pc : Nat) (op : gOp), gpr 243 pc = some op → gOk 243 pc op := gprk (len := 31) (nc := 1) (c := gc243) (q := gp243) (fun _ => rfl) (by decide) fun k hk => by
  obtain rfl : k = 0 := by omega
  exact gt243_0
theorem gt244_0 : (List.range 40).all (fun j => match gc244 (40 * 0 + j) with | some op => gck 244 (40 * 0 + j) op (gp244 (40 * 0 + j)) | none => true) = true := by decide +kernel
theorem gk244 : ∀ (pc : Nat) (op : gOp), gpr 244 pc = some op → gOk 244 pc op := gprk (len := 31) (nc := 1) (c := gc244) (q := gp244) (fun _ => rfl) (by decide) fun k hk => by
  obtain rfl : k = 0 := by omega
  exact gt244_0
theorem gt245_0 : (List.range 40).all (fun j => match gc245 (40 * 0 + j) with | some op => gck 245 (40 * 0 + j) op (gp245 (40 * 0 + j)) | none => true) = true := by decide +kernel
theorem gk245 : ∀ (pc : Nat) (op : gOp), gpr 245 pc = some op → gOk 245 pc op := gprk (len := 24) (nc := 1) (c := gc245) (q := gp245) (fun _ => rfl) (by decide) fun k hk => by
  obtain rfl : k = 0 := by omega
  exact gt245_0
theorem gt246_0 : (List.range 40).all (fun j => match gc246 (40 * 0 + j) with | some op => gck 246 (40 * 0 + j) op (gp246 (40 * 0 + j)) | none => true) = true := by decide +kernel
theorem gk246 : ∀ (pc : Nat) (op : gOp), gpr 246 pc = some op → gOk 246 pc op := gprk (len := 33) (nc := 1) (c := gc246) (q := gp246) (fun _ => rfl) (by decide) fun k hk => by
  obtain rfl : k = 0 := by omega
  exact gt246_0
theorem gt247_0 : (List.range 40).all (fun j => match gc247 (40 * 0 + j) with | some op => gck 247 (40 * 0 + j) op (gp247 (40 * 0 + j)) | none => true) = true := by decide +kernel
theorem gt247_1 : (List.range 40).all (fun j => match gc247 (40 * 1 + j) with | some op => gck 247 (40 * 1 + j) op (gp247 (40 * 1 + j)) | none => true) = true := by decide +kernel
theorem gk247 : ∀ (pc : Nat) (op : gOp), gpr 247 pc = some op → gOk 247 pc op := gprk (len := 71) (nc := 2) (c := gc247) (q := gp247) (fun _ => rfl) (by decide) fun k hk => by
  rcases Nat.lt_or_ge k 1 with h0_2 | h0_2
  · skip
    obtain rfl : k = 0 := by omega
    exact gt247_0
  · skip
    obtain rfl : k = 1 := by omega
    exact gt247_1
theorem gt248_0 : (List.range 40).all (fun j => match gc248 (40 * 0 + j) with | some op => gck 248 (40 * 0 + j) op (gp248 (40 * 0 + j)) | none => true) = true := by decide +kernel
theorem gk248 : ∀ (pc : Nat) (op : gOp), gpr 248 pc = some op → gOk 248 pc op := gprk (len := 21) (nc := 1) (c := gc248) (q := gp248) (fun _ => rfl) (by decide) fun k hk => by
  obtain rfl : k = 0 := by omega
  exact gt248_0
theorem gt249_0 : (List.range 40).all (fun j => match gc249 (40 * 0 + j) with | some op => gck 249 (40 * 0 + j) op (gp249 (40 * 0 + j)) | none => true) = true := by decide +kernel
theorem gt249_1 : (List.range 40).all (fun j => match gc249 (40 * 1 + j) with | some op => gck 249 (40 * 1 + j) op (gp249 (40 * 1 + j)) | none => true) = true := by decide +kernel
theorem gk249 : ∀ (pc : Nat) (op : gOp), gpr 249 pc = some op → gOk 249 pc op := gprk (len := 55) (nc := 2) (c := gc249) (q := gp249) (fun _ => rfl) (by decide) fun k hk => by
  rcases Nat.lt_or_ge k 1 with h0_2 | h0_2
  · skip
    obtain rfl : k = 0 := by omega
    exact gt249_0
  · skip
    obtain rfl : k = 1 := by omega
    exact gt249_1
theorem gt250_0 : (List.range 40).all (fun j => match gc250 (40 * 0 + j) with | some op => gck 250 (40 * 0 + j) op (gp250 (40 * 0 + j)) | none => true) = true := by decide +kernel
theorem gk250 : ∀ (pc : Nat) (op : gOp), gpr 250 pc = some op → gOk 250 pc op := gprk (len := 28) (nc := 1) (c := gc250) (q := gp250) (fun _ => rfl) (by decide) fun k hk => by
  obtain rfl : k = 0 := by omega
  exact gt250_0
theorem gt251_0 : (List.range 40).all (fun j => match gc251 (40 * 0 + j) with | some op => gck 251 (40 * 0 + j) op (gp251 (40 * 0 + j)) | none => true) = true := by decide +kernel
theorem gk251 : ∀ (pc : Nat) (op : gOp), gpr 251 pc = some op → gOk 251 pc op := gprk (len := 24) (nc := 1) (c := gc251) (q := gp251) (fun _ => rfl) (by decide) fun k hk => by
  obtain rfl : k = 0 := by omega
  exact gt251_0
theorem gt252_0 : (List.range 40).all (fun j => match gc252 (40 * 0 + j) with | some op => gck 252 (40 * 0 + j) op (gp252 (40 * 0 + j)) | none => true) = true := by decide +kernel
theorem gk252 : ∀ (pc : Nat) (op : gOp), gpr 252 pc = some op → gOk 252 pc op := gprk (len := 18) (nc := 1) (c := gc252) (q := gp252) (fun _ => rfl) (by decide) fun k hk => by
  obtain rfl : k = 0 := by omega
  exact gt252_0
theorem gt253_0 : (List.range 40).all (fun j => match gc253 (40 * 0 + j) with | some op => gck 253 (40 * 0 + j) op (gp253 (40 * 0 + j)) | none => true) = true := by decide +kernel
theorem gt253_1 : (List.range 40).all (fun j => match gc253 (40 * 1 + j) with | some op => gck 253 (40 * 1 + j) op (gp253 (40 * 1 + j)) | none => true) = true := by decide +kernel
theorem gk253 : ∀ (pc : Nat) (op : gOp), gpr 253 pc = some op → gOk 253 pc op := gprk (len := 52) (nc := 2) (c := gc253) (q := gp253) (fun _ => rfl) (by decide) fun k hk => by
  rcases Nat.lt_or_ge k 1 with h0_2 | h0_2
  · skip
    obtain rfl : k = 0 := by omega
    exact gt253_0
  · skip
    obtain rfl : k = 1 := by omega
    exact gt253_1
theorem gt254_0 : (List.range 40).all (fun j => match gc254 (40 * 0 + j) with | some op => gck 254 (40 * 0 + j) op (gp254 (40 * 0 + j)) | none => true) = true := by decide +kernel
theorem gk254 : ∀ (pc : Nat) (op : gOp), gpr 254 pc = some op → gOk 254 pc op := gprk (len := 36) (nc := 1) (c := gc254) (q := gp254) (fun _ => rfl) (by decide) fun k hk => by
  obtain rfl : k = 0 := by omega
  exact gt254_0
theorem gt255_0 : (List.range 40).all (fun j => match gc255 (40 * 0 + j) with | some op => gck 255 (40 * 0 + j) op (gp255 (40 * 0 + j)) | none => true) = true := by decide +kernel
theorem gt255_1 : (List.range 40).all (fun j => match gc255 (40 * 1 + j) with | some op => gck 255 (40 * 1 + j) op (gp255 (40 * 1 + j)) | none => true) = true := by decide +kernel
theorem gt255_2 : (List.range 40).all (fun j => match gc255 (40 * 2 + j) with | some op => gck 255 (40 * 2 + j) op (gp255 (40 * 2 + j)) | none => true) = true := by decide +kernel
theorem gt255_3 : (List.range 40).all (fun j => match gc255 (40 * 3 + j) with | some op => gck 255 (40 * 3 + j) op (gp255 (40 * 3 + j)) | none => true) = true := by decide +kernel
theorem gt255_4 : (List.range 40).all (fun j => match gc255 (40 * 4 + j) with | some op => gck 255 (40 * 4 + j) op (gp255 (40 * 4 + j)) | none => true) = true := by decide +kernel
theorem gk255 : ∀ (pc : Nat) (op : gOp), gpr 255 pc = some op → gOk 255 pc op := gprk (len := 178) (nc := 5) (c := gc255) (q := gp255) (fun _ => rfl) (by decide) fun k hk => by
  rcases Nat.lt_or_ge k 2 with h0_5 | h0_5
  · skip
    rcases Nat.lt_or_ge k 1 with h0_2 | h0_2
    · skip
      obtain rfl : k = 0 := by omega
      exact gt255_0
    · skip
      obtain rfl : k = 1 := by omega
      exact gt255_1
  · skip
    rcases Nat.lt_or_ge k 3 with h2_5 | h2_5
    · skip
      obtain rfl : k = 2 := by omega
      exact gt255_2
    · skip
      rcases Nat.lt_or_ge k 4 with h3_5 | h3_5
      · skip
        obtain rfl : k = 3 := by omega
        exact gt255_3
      · skip
        obtain rfl : k = 4 := by omega
        exact gt255_4
theorem gt256_0 : (List.range 40).all (fun j => match gc256 (40 * 0 + j) with | some op => gck 256 (40 * 0 + j) op (gp256 (40 * 0 + j)) | none => true) = true := by decide +kernel
theorem gk256 : ∀ (pc : Nat) (op : gOp), gpr 256 pc = some op → gOk 256 pc op := gprk (len := 29) (nc := 1) (c := gc256) (q := gp256) (fun _ => rfl) (by decide) fun k hk => by
  obtain rfl : k = 0 := by omega
  exact gt256_0
theorem gt257_0 : (List.range 40).all (fun j => match gc257 (40 * 0 + j) with | some op => gck 257 (40 * 0 + j) op (gp257 (40 * 0 + j)) | none => true) = true := by decide +kernel
theorem gt257_1 : (List.range 40).all (fun j => match gc257 (40 * 1 + j) with | some op => gck 257 (40 * 1 + j) op (gp257 (40 * 1 + j)) | none => true) = true := by decide +kernel
theorem gt257_2 : (List.range 40).all (fun j => match gc257 (40 * 2 + j) with | some op => gck 257 (40 * 2 + j) op (gp257 (40 * 2 + j)) | none => true) = true := by decide +kernel
theorem gt257_3 : (List.range 40).all (fun j => match gc257 (40 * 3 + j) with | some op => gck 257 (40 * 3 + j) op (gp257 (40 * 3 + j)) | none => true) = true := by decide +kernel
theorem gt257_4 : (List.range 40).all (fun j => match gc257 (40 * 4 + j) with | some op => gck 257 (40 * 4 + j) op (gp257 (40 * 4 + j)) | none => true) = true := by decide +kernel
theorem gt257_5 : (List.range 40).all (fun j => match gc257 (40 * 5 + j) with | some op => gck 257 (40 * 5 + j) op (gp257 (40 * 5 + j)) | none => true) = true := by decide +kernel
theorem gk257 : ∀ (pc : Nat) (op : gOp), gpr 257 pc = some op → gOk 257 pc op := gprk (len := 205) (nc := 6) (c := gc257) (q := gp257) (fun _ => rfl) (by decide) fun k hk => by
  rcases Nat.lt_or_ge k 3 with h0_6 | h0_6
  · skip
    rcases Nat.lt_or_ge k 1 with h0_3 | h0_3
    · skip
      obtain rfl : k = 0 := by omega
      exact gt257_0
    · skip
      rcases Nat.lt_or_ge k 2 with h1_3 | h1_3
      · skip
        obtain rfl : k = 1 := by omega
        exact gt257_1
      · skip
        obtain rfl : k = 2 := by omega
        exact gt257_2
  · skip
    rcases Nat.lt_or_ge k 4 with h3_6 | h3_6
    · skip
      obtain rfl : k = 3 := by omega
      exact gt257_3
    · skip
      rcases Nat.lt_or_ge k 5 with h4_6 | h4_6
      · skip
        obtain rfl : k = 4 := by omega
        exact gt257_4
      · skip
        obtain rfl : k = 5 := by omega
        exact gt257_5
theorem gt258_0 : (List.range 40).all (fun j => match gc258 (40 * 0 + j) with | some op => gck 258 (40 * 0 + j) op (gp258 (40 * 0 + j)) | none => true) = true := by decide +kernel
theorem gt258_1 : (List.range 40).all (fun j => match gc258 (40 * 1 + j) with | some op => gck 258 (40 * 1 + j) op (gp258 (40 * 1 + j)) | none => true) = true := by decide +kernel
theorem gk258 : ∀ (pc : Nat) (op : gOp), gpr 258 pc = some op → gOk 258 pc op := gprk (len := 52) (nc := 2) (c := gc258) (q := gp258) (fun _ => rfl) (by decide) fun k hk => by
  rcases Nat.lt_or_ge k 1 with h0_2 | h0_2
  · skip
    obtain rfl : k = 0 := by omega
    exact gt258_0
  · skip
    obtain rfl : k = 1 := by omega
    exact gt258_1
theorem gt259_0 : (List.range 40).all (fun j => match gc259 (40 * 0 + j) with | some op => gck 259 (40 * 0 + j) op (gp259 (40 * 0 + j)) | none => true) = true := by decide +kernel
theorem gt259_1 : (List.range 40).all (fun j => match gc259 (40 * 1 + j) with | some op => gck 259 (40 * 1 + j) op (gp259 (40 * 1 + j)) | none => true) = true := by decide +kernel
theorem gt259_2 : (List.range 40).all (fun j => match gc259 (40 * 2 + j) with | some op => gck 259 (40 * 2 + j) op (gp259 (40 * 2 + j)) | none => true) = true := by decide +kernel
theorem gt259_3 : (List.range 40).all (fun j => match gc259 (40 * 3 + j) with | some op => gck 259 (40 * 3 + j) op (gp259 (40 * 3 + j)) | none => true) = true := by decide +kernel
theorem gt259_4 : (List.range 40).all (fun j => match gc259 (40 * 4 + j) with | some op => gck 259 (40 * 4 + j) op (gp259 (40 * 4 + j)) | none => true) = true := by decide +kernel
theorem gt259_5 : (List.range 40).all (fun j => match gc259 (40 * 5 + j) with | some op => gck 259 (40 * 5 + j) op (gp259 (40 * 5 + j)) | none => true) = true := by decide +kernel
theorem gt259_6 : (List.range 40).all (fun j => match gc259 (40 * 6 + j) with | some op => gck 259 (40 * 6 + j) op (gp259 (40 * 6 + j)) | none => true) = true := by decide +kernel
theorem gk259 : ∀ (pc : Nat) (op : gOp), gpr 259 pc = some op → gOk 259 pc op := gprk (len := 245) (nc := 7) (c := gc259) (q := gp259) (fun _ => rfl) (by decide) fun k hk => by
  rcases Nat.lt_or_ge k 3 with h0_7 | h0_7
  · skip
    rcases Nat.lt_or_ge k 1 with h0_3 | h0_3
    · skip
      obtain rfl : k = 0 := by omega
      exact gt259_0
    · skip
      rcases Nat.lt_or_ge k 2 with h1_3 | h1_3
      · skip
        obtain rfl : k = 1 := by omega
        exact gt259_1
      · skip
        obtain rfl : k = 2 := by omega
        exact gt259_2
  · skip
    rcases Nat.lt_or_ge k 5 with h3_7 | h3_7
    · skip
      rcases Nat.lt_or_ge k 4 with h3_5 | h3_5
      · skip
        obtain rfl : k = 3 := by omega
        exact gt259_3
      · skip
        obtain rfl : k = 4 := by omega
        exact gt259_4
    · skip
      rcases Nat.lt_or_ge k 6 with h5_7 | h5_7
      · skip
        obtain rfl : k = 5 := by omega
        exact gt259_5
      · skip
        obtain rfl : k = 6 := by omega
        exact gt259_6
theorem gt260_0 : (List.range 40).all (fun j => match gc260 (40 * 0 + j) with | some op => gck 260 (40 * 0 + j) op (gp260 (40 * 0 + j)) | none => true) = true := by decide +kernel
theorem gt260_1 : (List.range 40).all (fun j => match gc260 (40 * 1 + j) with | some op => gck 260 (40 * 1 + j) op (gp260 (40 * 1 + j)) | none => true) = true := by decide +kernel
theorem gt260_2 : (List.range 40).all (fun j => match gc260 (40 * 2 + j) with | some op => gck 260 (40 * 2 + j) op (gp260 (40 * 2 + j)) | none => true) = true := by decide +kernel
theorem gt260_3 : (List.range 40).all (fun j => match gc260 (40 * 3 + j) with | some op => gck 260 (40 * 3 + j) op (gp260 (40 * 3 + j)) | none => true) = true := by decide +kernel
theorem gt260_4 : (List.range 40).all (fun j => match gc260 (40 * 4 + j) with | some op => gck 260 (40 * 4 + j) op (gp260 (40 * 4 + j)) | none => true) = true := by decide +kernel
theorem gt260_5 : (List.range 40).all (fun j => match gc260 (40 * 5 + j) with | some op => gck 260 (40 * 5 + j) op (gp260 (40 * 5 + j)) | none => true) = true := by decide +kernel
theorem gt260_6 : (List.range 40).all (fun j => match gc260 (40 * 6 + j) with | some op => gck 260 (40 * 6 + j) op (gp260 (40 * 6 + j)) | none => true) = true := by decide +kernel
theorem gt260_7 : (List.range 40).all (fun j => match gc260 (40 * 7 + j) with | some op => gck 260 (40 * 7 + j) op (gp260 (40 * 7 + j)) | none => true) = true := by decide +kernel
theorem gt260_8 : (List.range 40).all (fun j => match gc260 (40 * 8 + j) with | some op => gck 260 (40 * 8 + j) op (gp260 (40 * 8 + j)) | none => true) = true := by decide +kernel
theorem gt260_9 : (List.range 40).all (fun j => match gc260 (40 * 9 + j) with | some op => gck 260 (40 * 9 + j) op (gp260 (40 * 9 + j)) | none => true) = true := by decide +kernel
theorem gk260 : ∀ (pc : Nat) (op : gOp), gpr 260 pc = some op → gOk 260 pc op := gprk (len := 388) (nc := 10) (c := gc260) (q := gp260) (fun _ => rfl) (by decide) fun k hk => by
  rcases Nat.lt_or_ge k 5 with h0_10 | h0_10
  · skip
    rcases Nat.lt_or_ge k 2 with h0_5 | h0_5
    · skip
      rcases Nat.lt_or_ge k 1 with h0_2 | h0_2
      · skip
        obtain rfl : k = 0 := by omega
        exact gt260_0
      · skip
        obtain rfl : k = 1 := by omega
        exact gt260_1
    · skip
      rcases Nat.lt_or_ge k 3 with h2_5 | h2_5
      · skip
        obtain rfl : k = 2 := by omega
        exact gt260_2
      · skip
        rcases Nat.lt_or_ge k 4 with h3_5 | h3_5
        · skip
          obtain rfl : k = 3 := by omega
          exact gt260_3
        · skip
          obtain rfl : k = 4 := by omega
          exact gt260_4
  · skip
    rcases Nat.lt_or_ge k 7 with h5_10 | h5_10
    · skip
      rcases Nat.lt_or_ge k 6 with h5_7 | h5_7
      · skip
        obtain rfl : k = 5 := by omega
        exact gt260_5
      · skip
        obtain rfl : k = 6 := by omega
        exact gt260_6
    · skip
      rcases Nat.lt_or_ge k 8 with h7_10 | h7_10
      · skip
        obtain rfl : k = 7 := by omega
        exact gt260_7
      · skip
        rcases Nat.lt_or_ge k 9 with h8_10 | h8_10
        · skip
          obtain rfl : k = 8 := by omega
          exact gt260_8
        · skip
          obtain rfl : k = 9 := by omega
          exact gt260_9
theorem gt261_0 : (List.range 40).all (fun j => match gc261 (40 * 0 + j) with | some op => gck 261 (40 * 0 + j) op (gp261 (40 * 0 + j)) | none => true) = true := by decide +kernel
theorem gt261_1 : (List.range 40).all (fun j => match gc261 (40 * 1 + j) with | some op => gck 261 (40 * 1 + j) op (gp261 (40 * 1 + j)) | none => true) = true := by decide +kernel
theorem gt261_2 : (List.range 40).all (fun j => match gc261 (40 * 2 + j) with | some op => gck 261 (40 * 2 + j) op (gp261 (40 * 2 + j)) | none => true) = true := by decide +kernel
theorem gk261 : ∀ (pc : Nat) (op : gOp), gpr 261 pc = some op → gOk 261 pc op := gprk (len := 84) (nc := 3) (c := gc261) (q := gp261) (fun _ => rfl) (by decide) fun k hk => by
  rcases Nat.lt_or_ge k 1 with h0_3 | h0_3
  · skip
    obtain rfl : k = 0 := by omega
    exact gt261_0
  · skip
    rcases Nat.lt_or_ge k 2 with h1_3 | h1_3
    · skip
      obtain rfl : k = 1 := by omega
      exact gt261_1
    · skip
      obtain rfl : k = 2 := by omega
      exact gt261_2
theorem gt262_0 : (List.range 40).all (fun j => match gc262 (40 * 0 + j) with | some op => gck 262 (40 * 0 + j) op (gp262 (40 * 0 + j)) | none => true) = true := by decide +kernel
theorem gt262_1 : (List.range 40).all (fun j => match gc262 (40 * 1 + j) with | some op => gck 262 (40 * 1 + j) op (gp262 (40 * 1 + j)) | none => true) = true := by decide +kernel
theorem gt262_2 : (List.range 40).all (fun j => match gc262 (40 * 2 + j) with | some op => gck 262 (40 * 2 + j) op (gp262 (40 * 2 + j)) | none => true) = true := by decide +kernel
theorem gk262 : ∀ (pc : Nat) (op : gOp), gpr 262 pc = some op → gOk 262 pc op := gprk (len := 106) (nc := 3) (c := gc262) (q := gp262) (fun _ => rfl) (by decide) fun k hk => by
  rcases Nat.lt_or_ge k 1 with h0_3 | h0_3
  · skip
    obtain rfl : k = 0 := by omega
    exact gt262_0
  · skip
    rcases Nat.lt_or_ge k 2 with h1_3 | h1_3
    · skip
      obtain rfl : k = 1 := by omega
      exact gt262_1
    · skip
      obtain rfl : k = 2 := by omega
      exact gt262_2
theorem gt263_0 : (List.range 40).all (fun j => match gc263 (40 * 0 + j) with | some op => gck 263 (40 * 0 + j) op (gp263 (40 * 0 + j)) | none => true) = true := by decide +kernel
theorem gk263 : ∀ (pc : Nat) (op : gOp), gpr 263 pc = some op → gOk 263 pc op := gprk (len := 31) (nc := 1) (c := gc263) (q := gp263) (fun _ => rfl) (by decide) fun k hk => by
  obtain rfl : k = 0 := by omega
  exact gt263_0
theorem gt264_0 : (List.range 40).all (fun j => match gc264 (40 * 0 + j) with | some op => gck 264 (40 * 0 + j) op (gp264 (40 * 0 + j)) | none => true) = true := by decide +kernel
theorem gk264 : ∀ (pc : Nat) (op : gOp), gpr 264 pc = some op → gOk 264 pc op := gprk (len := 34) (nc := 1) (c := gc264) (q := gp264) (fun _ => rfl) (by decide) fun k hk => by
  obtain rfl : k = 0 := by omega
  exact gt264_0
theorem gt265_0 : (List.range 40).all (fun j => match gc265 (40 * 0 + j) with | some op => gck 265 (40 * 0 + j) op (gp265 (40 * 0 + j)) | none => true) = true := by decide +kernel
theorem gt265_1 : (List.range 40).all (fun j => match gc265 (40 * 1 + j) with | some op => gck 265 (40 * 1 + j) op (gp265 (40 * 1 + j)) | none => true) = true := by decide +kernel
theorem gt265_2 : (List.range 40).all (fun j => match gc265 (40 * 2 + j) with | some op => gck 265 (40 * 2 + j) op (gp265 (40 * 2 + j)) | none => true) = true := by decide +kernel
theorem gt265_3 : (List.range 40).all (fun j => match gc265 (40 * 3 + j) with | some op => gck 265 (40 * 3 + j) op (gp265 (40 * 3 + j)) | none => true) = true := by decide +kernel
theorem gk265 : ∀ (pc : Nat) (op : gOp), gpr 265 pc = some op → gOk 265 pc op := gprk (len := 132) (nc := 4) (c := gc265) (q := gp265) (fun _ => rfl) (by decide) fun k hk => by
  rcases Nat.lt_or_ge k 2 with h0_4 | h0_4
  · skip
    rcases Nat.lt_or_ge k 1 with h0_2 | h0_2
    · skip
      obtain rfl : k = 0 := by omega
      exact gt265_0
    · skip
      obtain rfl : k = 1 := by omega
      exact gt265_1
  · skip
    rcases Nat.lt_or_ge k 3 with h2_4 | h2_4
    · skip
      obtain rfl : k = 2 := by omega
      exact gt265_2
    · skip
      obtain rfl : k = 3 := by omega
      exact gt265_3
theorem gt266_0 : (List.range 40).all (fun j => match gc266 (40 * 0 + j) with | some op => gck 266 (40 * 0 + j) op (gp266 (40 * 0 + j)) | none => true) = true := by decide +kernel
theorem gt266_1 : (List.range 40).all (fun j => match gc266 (40 * 1 + j) with | some op => gck 266 (40 * 1 + j) op (gp266 (40 * 1 + j)) | none => true) = true := by decide +kernel
theorem gt266_2 : (List.range 40).all (fun j => match gc266 (40 * 2 + j) with | some op => gck 266 (40 * 2 + j) op (gp266 (40 * 2 + j)) | none => true) = true := by decide +kernel
theorem gt266_3 : (List.range 40).all (fun j => match gc266 (40 * 3 + j) with | some op => gck 266 (40 * 3 + j) op (gp266 (40 * 3 + j)) | none => true) = true := by decide +kernel
theorem gt266_4 : (List.range 40).all (fun j => match gc266 (40 * 4 + j) with | some op => gck 266 (40 * 4 + j) op (gp266 (40 * 4 + j)) | none => true) = true := by decide +kernel
theorem gt266_5 : (List.range 40).all (fun j => match gc266 (40 * 5 + j) with | some op => gck 266 (40 * 5 + j) op (gp266 (40 * 5 + j)) | none => true) = true := by decide +kernel
theorem gk266 : ∀ (pc : Nat) (op : gOp), gpr 266 pc = some op → gOk 266 pc op := gprk (len := 210) (nc := 6) (c := gc266) (q := gp266) (fun _ => rfl) (by decide) fun k hk => by
  rcases Nat.lt_or_ge k 3 with h0_6 | h0_6
  · skip
    rcases Nat.lt_or_ge k 1 with h0_3 | h0_3
    · skip
      obtain rfl : k = 0 := by omega
      exact gt266_0
    · skip
      rcases Nat.lt_or_ge k 2 with h1_3 | h1_3
      · skip
        obtain rfl : k = 1 := by omega
        exact gt266_1
      · skip
        obtain rfl : k = 2 := by omega
        exact gt266_2
  · skip
    rcases Nat.lt_or_ge k 4 with h3_6 | h3_6
    · skip
      obtain rfl : k = 3 := by omega
      exact gt266_3
    · skip
      rcases Nat.lt_or_ge k 5 with h4_6 | h4_6
      · skip
        obtain rfl : k = 4 := by omega
        exact gt266_4
      · skip
        obtain rfl : k = 5 := by omega
        exact gt266_5
theorem gt267_0 : (List.range 40).all (fun j => match gc267 (40 * 0 + j) with | some op => gck 267 (40 * 0 + j) op (gp267 (40 * 0 + j)) | none => true) = true := by decide +kernel
theorem gk267 : ∀ (pc : Nat) (op : gOp), gpr 267 pc = some op → gOk 267 pc op := gprk (len := 30) (nc := 1) (c := gc267) (q := gp267) (fun _ => rfl) (by decide) fun k hk => by
  obtain rfl : k = 0 := by omega
  exact gt267_0
theorem gt268_0 : (List.range 40).all (fun j => match gc268 (40 * 0 + j) with | some op => gck 268 (40 * 0 + j) op (gp268 (40 * 0 + j)) | none => true) = true := by decide +kernel
theorem gt268_1 : (List.range 40).all (fun j => match gc268 (40 * 1 + j) with | some op => gck 268 (40 * 1 + j) op (gp268 (40 * 1 + j)) | none => true) = true := by decide +kernel
theorem gk268 : ∀ (pc : Nat) (op : gOp), gpr 268 pc = some op → gOk 268 pc op := gprk (len := 56) (nc := 2) (c := gc268) (q := gp268) (fun _ => rfl) (by decide) fun k hk => by
  rcases Nat.lt_or_ge k 1 with h0_2 | h0_2
  · skip
    obtain rfl : k = 0 := by omega
    exact gt268_0
  · skip
    obtain rfl : k = 1 := by omega
    exact gt268_1
theorem gt269_0 : (List.range 40).all (fun j => match gc269 (40 * 0 + j) with | some op => gck 269 (40 * 0 + j) op (gp269 (40 * 0 + j)) | none => true) = true := by decide +kernel
theorem gk269 : ∀ (pc : Nat) (op : gOp), gpr 269 pc = some op → gOk 269 pc op := gprk (len := 21) (nc := 1) (c := gc269) (q := gp269) (fun _ => rfl) (by decide) fun k hk => by
  obtain rfl : k = 0 := by omega
  exact gt269_0
theorem gt270_0 : (List.range 40).all (fun j => match gc270 (40 * 0 + j) with | some op => gck 270 (40 * 0 + j) op (gp270 (40 * 0 + j)) | none => true) = true := by decide +kernel
theorem gt270_1 : (List.range 40).all (fun j => match gc270 (40 * 1 + j) with | some op => gck 270 (40 * 1 + j) op (gp270 (40 * 1 + j)) | none => true) = true := by decide +kernel
theorem gt270_2 : (List.range 40).all (fun j => match gc270 (40 * 2 + j) with | some op => gck 270 (40 * 2 + j) op (gp270 (40 * 2 + j)) | none => true) = true := by decide +kernel
theorem gt270_3 : (List.range 40).all (fun j => match gc270 (40 * 3 + j) with | some op => gck 270 (40 * 3 + j) op (gp270 (40 * 3 + j)) | none => true) = true := by decide +kernel
theorem gt270_4 : (List.range 40).all (fun j => match gc270 (40 * 4 + j) with | some op => gck 270 (40 * 4 + j) op (gp270 (40 * 4 + j)) | none => true) = true := by decide +kernel
theorem gt270_5 : (List.range 40).all (fun j => match gc270 (40 * 5 + j) with | some op => gck 270 (40 * 5 + j) op (gp270 (40 * 5 + j)) | none => true) = true := by decide +kernel
theorem gt270_6 : (List.range 40).all (fun j => match gc270 (40 * 6 + j) with | some op => gck 270 (40 * 6 + j) op (gp270 (40 * 6 + j)) | none => true) = true := by decide +kernel
theorem gk270 : ∀ (pc : Nat) (op : gOp), gpr 270 pc = some op → gOk 270 pc op := gprk (len := 274) (nc := 7) (c := gc270) (q := gp270) (fun _ => rfl) (by decide) fun k hk => by
  rcases Nat.lt_or_ge k 3 with h0_7 | h0_7
  · skip
    rcases Nat.lt_or_ge k 1 with h0_3 | h0_3
    · skip
      obtain rfl : k = 0 := by omega
      exact gt270_0
    · skip
      rcases Nat.lt_or_ge k 2 with h1_3 | h1_3
      · skip
        obtain rfl : k = 1 := by omega
        exact gt270_1
      · skip
        obtain rfl : k = 2 := by omega
        exact gt270_2
  · skip
    rcases Nat.lt_or_ge k 5 with h3_7 | h3_7
    · skip
      rcases Nat.lt_or_ge k 4 with h3_5 | h3_5
      · skip
        obtain rfl : k = 3 := by omega
        exact gt270_3
      · skip
        obtain rfl : k = 4 := by omega
        exact gt270_4
    · skip
      rcases Nat.lt_or_ge k 6 with h5_7 | h5_7
      · skip
        obtain rfl : k = 5 := by omega
        exact gt270_5
      · skip
        obtain rfl : k = 6 := by omega
        exact gt270_6
theorem gt271_0 : (List.range 40).all (fun j => match gc271 (40 * 0 + j) with | some op => gck 271 (40 * 0 + j) op (gp271 (40 * 0 + j)) | none => true) = true := by decide +kernel
theorem gt271_1 : (List.range 40).all (fun j => match gc271 (40 * 1 + j) with | some op => gck 271 (40 * 1 + j) op (gp271 (40 * 1 + j)) | none => true) = true := by decide +kernel
theorem gt271_2 : (List.range 40).all (fun j => match gc271 (40 * 2 + j) with | some op => gck 271 (40 * 2 + j) op (gp271 (40 * 2 + j)) | none => true) = true := by decide +kernel
theorem gt271_3 : (List.range 40).all (fun j => match gc271 (40 * 3 + j) with | some op => gck 271 (40 * 3 + j) op (gp271 (40 * 3 + j)) | none => true) = true := by decide +kernel
theorem gk271 : ∀ (pc : Nat) (op : gOp), gpr 271 pc = some op → gOk 271 pc op := gprk (len := 140) (nc := 4) (c := gc271) (q := gp271) (fun _ => rfl) (by decide) fun k hk => by
  rcases Nat.lt_or_ge k 2 with h0_4 | h0_4
  · skip
    rcases Nat.lt_or_ge k 1 with h0_2 | h0_2
    · skip
      obtain rfl : k = 0 := by omega
      exact gt271_0
    · skip
      obtain rfl : k = 1 := by omega
      exact gt271_1
  · skip
    rcases Nat.lt_or_ge k 3 with h2_4 | h2_4
    · skip
      obtain rfl : k = 2 := by omega
      exact gt271_2
    · skip
      obtain rfl : k = 3 := by omega
      exact gt271_3
theorem gt272_0 : (List.range 40).all (fun j => match gc272 (40 * 0 + j) with | some op => gck 272 (40 * 0 + j) op (gp272 (40 * 0 + j)) | none => true) = true := by decide +kernel
theorem gt272_1 : (List.range 40).all (fun j => match gc272 (40 * 1 + j) with | some op => gck 272 (40 * 1 + j) op (gp272 (40 * 1 + j)) | none => true) = true := by decide +kernel
theorem gt272_2 : (List.range 40).all (fun j => match gc272 (40 * 2 + j) with | some op => gck 272 (40 * 2 + j) op (gp272 (40 * 2 + j)) | none => true) = true := by decide +kernel
theorem gk272 : ∀ (pc : Nat) (op : gOp), gpr 272 pc = some op → gOk 272 pc op := gprk (len := 87) (nc := 3) (c := gc272) (q := gp272) (fun _ => rfl) (by decide) fun k hk => by
  rcases Nat.lt_or_ge k 1 with h0_3 | h0_3
  · skip
    obtain rfl : k = 0 := by omega
    exact gt272_0
  · skip
    rcases Nat.lt_or_ge k 2 with h1_3 | h1_3
    · skip
      obtain rfl : k = 1 := by omega
      exact gt272_1
    · skip
      obtain rfl : k = 2 := by omega
      exact gt272_2
theorem gt273_0 : (List.range 40).all (fun j => match gc273 (40 * 0 + j) with | some op => gck 273 (40 * 0 + j) op (gp273 (40 * 0 + j)) | none => true) = true := by decide +kernel
theorem gt273_1 : (List.range 40).all (fun j => match gc273 (40 * 1 + j) with | some op => gck 273 (40 * 1 + j) op (gp273 (40 * 1 + j)) | none => true) = true := by decide +kernel
theorem gt273_2 : (List.range 40).all (fun j => match gc273 (40 * 2 + j) with | some op => gck 273 (40 * 2 + j) op (gp273 (40 * 2 + j)) | none => true) = true := by decide +kernel
theorem gt273_3 : (List.range 40).all (fun j => match gc273 (40 * 3 + j) with | some op => gck 273 (40 * 3 + j) op (gp273 (40 * 3 + j)) | none => true) = true := by decide +kernel
theorem gt273_4 : (List.range 40).all (fun j => match gc273 (40 * 4 + j) with | some op => gck 273 (40 * 4 + j) op (gp273 (40 * 4 + j)) | none => true) = true := by decide +kernel
theorem gk273 : ∀ (pc : Nat) (op : gOp), gpr 273 pc = some op → gOk 273 pc op := gprk (len := 175) (nc := 5) (c := gc273) (q := gp273) (fun _ => rfl) (by decide) fun k hk => by
  rcases Nat.lt_or_ge k 2 with h0_5 | h0_5
  · skip
    rcases Nat.lt_or_ge k 1 with h0_2 | h0_2
    · skip
      obtain rfl : k = 0 := by omega
      exact gt273_0
    · skip
      obtain rfl : k = 1 := by omega
      exact gt273_1
  · skip
    rcases Nat.lt_or_ge k 3 with h2_5 | h2_5
    · skip
      obtain rfl : k = 2 := by omega
      exact gt273_2
    · skip
      rcases Nat.lt_or_ge k 4 with h3_5 | h3_5
      · skip
        obtain rfl : k = 3 := by omega
        exact gt273_3
      · skip
        obtain rfl : k = 4 := by omega
        exact gt273_4
theorem gt274_0 : (List.range 40).all (fun j => match gc274 (40 * 0 + j) with | some op => gck 274 (40 * 0 + j) op (gp274 (40 * 0 + j)) | none => true) = true := by decide +kernel
theorem gt274_1 : (List.range 40).all (fun j => match gc274 (40 * 1 + j) with | some op => gck 274 (40 * 1 + j) op (gp274 (40 * 1 + j)) | none => true) = true := by decide +kernel
theorem gt274_2 : (List.range 40).all (fun j => match gc274 (40 * 2 + j) with | some op => gck 274 (40 * 2 + j) op (gp274 (40 * 2 + j)) | none => true) = true := by decide +kernel
theorem gk274 : ∀ (pc : Nat) (op : gOp), gpr 274 pc = some op → gOk 274 pc op := gprk (len := 92) (nc := 3) (c := gc274) (q := gp274) (fun _ => rfl) (by decide) fun k hk => by
  rcases Nat.lt_or_ge k 1 with h0_3 | h0_3
  · skip
    obtain rfl : k = 0 := by omega
    exact gt274_0
  · skip
    rcases Nat.lt_or_ge k 2 with h1_3 | h1_3
    · skip
      obtain rfl : k = 1 := by omega
      exact gt274_1
    · skip
      obtain rfl : k = 2 := by omega
      exact gt274_2
theorem gt275_0 : (List.range 40).all (fun j => match gc275 (40 * 0 + j) with | some op => gck 275 (40 * 0 + j) op (gp275 (40 * 0 + j)) | none => true) = true := by decide +kernel
theorem gt275_1 : (List.range 40).all (fun j => match gc275 (40 * 1 + j) with | some op => gck 275 (40 * 1 + j) op (gp275 (40 * 1 + j)) | none => true) = true := by decide +kernel
theorem gt275_2 : (List.range 40).all (fun j => match gc275 (40 * 2 + j) with | some op => gck 275 (40 * 2 + j) op (gp275 (40 * 2 + j)) | none => true) = true := by decide +kernel
theorem gt275_3 : (List.range 40).all (fun j => match gc275 (40 * 3 + j) with | some op => gck 275 (40 * 3 + j) op (gp275 (40 * 3 + j)) | none => true) = true := by decide +kernel
theorem gk275 : ∀ (pc : Nat) (op : gOp), gpr 275 pc = some op → gOk 275 pc op := gprk (len := 139) (nc := 4) (c := gc275) (q := gp275) (fun _ => rfl) (by decide) fun k hk => by
  rcases Nat.lt_or_ge k 2 with h0_4 | h0_4
  · skip
    rcases Nat.lt_or_ge k 1 with h0_2 | h0_2
    · skip
      obtain rfl : k = 0 := by omega
      exact gt275_0
    · skip
      obtain rfl : k = 1 := by omega
      exact gt275_1
  · skip
    rcases Nat.lt_or_ge k 3 with h2_4 | h2_4
    · skip
      obtain rfl : k = 2 := by omega
      exact gt275_2
    · skip
      obtain rfl : k = 3 := by omega
      exact gt275_3
theorem gt276_0 : (List.range 40).all (fun j => match gc276 (40 * 0 + j) with | some op => gck 276 (40 * 0 + j) op (gp276 (40 * 0 + j)) | none => true) = true := by decide +kernel
theorem gt276_1 : (List.range 40).all (fun j => match gc276 (40 * 1 + j) with | some op => gck 276 (40 * 1 + j) op (gp276 (40 * 1 + j)) | none => true) = true := by decide +kernel
theorem gt276_2 : (List.range 40).all (fun j => match gc276 (40 * 2 + j) with | some op => gck 276 (40 * 2 + j) op (gp276 (40 * 2 + j)) | none => true) = true := by decide +kernel
theorem gt276_3 : (List.range 40).all (fun j => match gc276 (40 * 3 + j) with | some op => gck 276 (40 * 3 + j) op (gp276 (40 * 3 + j)) | none => true) = true := by decide +kernel
theorem gt276_4 : (List.range 40).all (fun j => match gc276 (40 * 4 + j) with | some op => gck 276 (40 * 4 + j) op (gp276 (40 * 4 + j)) | none => true) = true := by decide +kernel
theorem gt276_5 : (List.range 40).all (fun j => match gc276 (40 * 5 + j) with | some op => gck 276 (40 * 5 + j) op (gp276 (40 * 5 + j)) | none => true) = true := by decide +kernel
theorem gt276_6 : (List.range 40).all (fun j => match gc276 (40 * 6 + j) with | some op => gck 276 (40 * 6 + j) op (gp276 (40 * 6 + j)) | none => true) = true := by decide +kernel
theorem gk276 : ∀ (pc : Nat) (op : gOp), gpr 276 pc = some op → gOk 276 pc op := gprk (len := 273) (nc := 7) (c := gc276) (q := gp276) (fun _ => rfl) (by decide) fun k hk => by
  rcases Nat.lt_or_ge k 3 with h0_7 | h0_7
  · skip
    rcases Nat.lt_or_ge k 1 with h0_3 | h0_3
    · skip
      obtain rfl : k = 0 := by omega
      exact gt276_0
    · skip
      rcases Nat.lt_or_ge k 2 with h1_3 | h1_3
      · skip
        obtain rfl : k = 1 := by omega
        exact gt276_1
      · skip
        obtain rfl : k = 2 := by omega
        exact gt276_2
  · skip
    rcases Nat.lt_or_ge k 5 with h3_7 | h3_7
    · skip
      rcases Nat.lt_or_ge k 4 with h3_5 | h3_5
      · skip
        obtain rfl : k = 3 := by omega
        exact gt276_3
      · skip
        obtain rfl : k = 4 := by omega
        exact gt276_4
    · skip
      rcases Nat.lt_or_ge k 6 with h5_7 | h5_7
      · skip
        obtain rfl : k = 5 := by omega
        exact gt276_5
      · skip
        obtain rfl : k = 6 := by omega
        exact gt276_6
theorem gt277_0 : (List.range 40).all (fun j => match gc277 (40 * 0 + j) with | some op => gck 277 (40 * 0 + j) op (gp277 (40 * 0 + j)) | none => true) = true := by decide +kernel
theorem gk277 : ∀ (pc : Nat) (op : gOp), gpr 277 pc = some op → gOk 277 pc op := gprk (len := 31) (nc := 1) (c := gc277) (q := gp277) (fun _ => rfl) (by decide) fun k hk => by
  obtain rfl : k = 0 := by omega
  exact gt277_0
theorem gt278_0 : (List.range 40).all (fun j => match gc278 (40 * 0 + j) with | some op => gck 278 (40 * 0 + j) op (gp278 (40 * 0 + j)) | none => true) = true := by decide +kernel
theorem gk278 : ∀ (pc : Nat) (op : gOp), gpr 278 pc = some op → gOk 278 pc op := gprk (len := 21) (nc := 1) (c := gc278) (q := gp278) (fun _ => rfl) (by decide) fun k hk => by
  obtain rfl : k = 0 := by omega
  exact gt278_0
theorem gt279_0 : (List.range 40).all (fun j => match gc279 (40 * 0 + j) with | some op => gck 279 (40 * 0 + j) op (gp279 (40 * 0 + j)) | none => true) = true := by decide +kernel
theorem gt279_1 : (List.range 40).all (fun j => match gc279 (40 * 1 + j) with | some op => gck 279 (40 * 1 + j) op (gp279 (40 * 1 + j)) | none => true) = true := by decide +kernel
theorem gt279_2 : (List.range 40).all (fun j => match gc279 (40 * 2 + j) with | some op => gck 279 (40 * 2 + j) op (gp279 (40 * 2 + j)) | none => true) = true := by decide +kernel
theorem gt279_3 : (List.range 40).all (fun j => match gc279 (40 * 3 + j) with | some op => gck 279 (40 * 3 + j) op (gp279 (40 * 3 + j)) | none => true) = true := by decide +kernel
theorem gt279_4 : (List.range 40).all (fun j => match gc279 (40 * 4 + j) with | some op => gck 279 (40 * 4 + j) op (gp279 (40 * 4 + j)) | none => true) = true := by decide +kernel
theorem gk279 : ∀ (pc : Nat) (op : gOp), gpr 279 pc = some op → gOk 279 pc op := gprk (len := 165) (nc := 5) (c := gc279) (q := gp279) (fun _ => rfl) (by decide) fun k hk => by
  rcases Nat.lt_or_ge k 2 with h0_5 | h0_5
  · skip
    rcases Nat.lt_or_ge k 1 with h0_2 | h0_2
    · skip
      obtain rfl : k = 0 := by omega
      exact gt279_0
    · skip
      obtain rfl : k = 1 := by omega
      exact gt279_1
  · skip
    rcases Nat.lt_or_ge k 3 with h2_5 | h2_5
    · skip
      obtain rfl : k = 2 := by omega
      exact gt279_2
    · skip
      rcases Nat.lt_or_ge k 4 with h3_5 | h3_5
      · skip
        obtain rfl : k = 3 := by omega
        exact gt279_3
      · skip
        obtain rfl : k = 4 := by omega
        exact gt279_4
theorem gt280_0 : (List.range 40).all (fun j => match gc280 (40 * 0 + j) with | some op => gck 280 (40 * 0 + j) op (gp280 (40 * 0 + j)) | none => true) = true := by decide +kernel
theorem gk280 : ∀ (pc : Nat) (op : gOp), gpr 280 pc = some op → gOk 280 pc op := gprk (len := 23) (nc := 1) (c := gc280) (q := gp280) (fun _ => rfl) (by decide) fun k hk => by
  obtain rfl : k = 0 := by omega
  exact gt280_0
theorem gt281_0 : (List.range 40).all (fun j => match gc281 (40 * 0 + j) with | some op => gck 281 (40 * 0 + j) op (gp281 (40 * 0 + j)) | none => true) = true := by decide +kernel
theorem gt281_1 : (List.range 40).all (fun j => match gc281 (40 * 1 + j) with | some op => gck 281 (40 * 1 + j) op (gp281 (40 * 1 + j)) | none => true) = true := by decide +kernel
theorem gk281 : ∀ (pc : Nat) (op : gOp), gpr 281 pc = some op → gOk 281 pc op := gprk (len := 75) (nc := 2) (c := gc281) (q := gp281) (fun _ => rfl) (by decide) fun k hk => by
  rcases Nat.lt_or_ge k 1 with h0_2 | h0_2
  · skip
    obtain rfl : k = 0 := by omega
    exact gt281_0
  · skip
    obtain rfl : k = 1 := by omega
    exact gt281_1
theorem gt282_0 : (List.range 40).all (fun j => match gc282 (40 * 0 + j) with | some op => gck 282 (40 * 0 + j) op (gp282 (40 * 0 + j)) | none => true) = true := by decide +kernel
theorem gt282_1 : (List.range 40).all (fun j => match gc282 (40 * 1 + j) with | some op => gck 282 (40 * 1 + j) op (gp282 (40 * 1 + j)) | none => true) = true := by decide +kernel
theorem gt282_2 : (List.range 40).all (fun j => match gc282 (40 * 2 + j) with | some op => gck 282 (40 * 2 + j) op (gp282 (40 * 2 + j)) | none => true) = true := by decide +kernel
theorem gt282_3 : (List.range 40).all (fun j => match gc282 (40 * 3 + j) with | some op => gck 282 (40 * 3 + j) op (gp282 (40 * 3 + j)) | none => true) = true := by decide +kernel
theorem gt282_4 : (List.range 40).all (fun j => match gc282 (40 * 4 + j) with | some op => gck 282 (40 * 4 + j) op (gp282 (40 * 4 + j)) | none => true) = true := by decide +kernel
theorem gk282 : ∀ (pc : Nat) (op : gOp), gpr 282 pc = some op → gOk 282 pc op := gprk (len := 176) (nc := 5) (c := gc282) (q := gp282) (fun _ => rfl) (by decide) fun k hk => by
  rcases Nat.lt_or_ge k 2 with h0_5 | h0_5
  · skip
    rcases Nat.lt_or_ge k 1 with h0_2 | h0_2
    · skip
      obtain rfl : k = 0 := by omega
      exact gt282_0
    · skip
      obtain rfl : k = 1 := by omega
      exact gt282_1
  · skip
    rcases Nat.lt_or_ge k 3 with h2_5 | h2_5
    · skip
      obtain rfl : k = 2 := by omega
      exact gt282_2
    · skip
      rcases Nat.lt_or_ge k 4 with h3_5 | h3_5
      · skip
        obtain rfl : k = 3 := by omega
        exact gt282_3
      · skip
        obtain rfl : k = 4 := by omega
        exact gt282_4
theorem gt283_0 : (List.range 40).all (fun j => match gc283 (40 * 0 + j) with | some op => gck 283 (40 * 0 + j) op (gp283 (40 * 0 + j)) | none => true) = true := by decide +kernel
theorem gt283_1 : (List.range 40).all (fun j => match gc283 (40 * 1 + j) with | some op => gck 283 (40 * 1 + j) op (gp283 (40 * 1 + j)) | none => true) = true := by decide +kernel
theorem gt283_2 : (List.range 40).all (fun j => match gc283 (40 * 2 + j) with | some op => gck 283 (40 * 2 + j) op (gp283 (40 * 2 + j)) | none => true) = true := by decide +kernel
theorem gt283_3 : (List.range 40).all (fun j => match gc283 (40 * 3 + j) with | some op => gck 283 (40 * 3 + j) op (gp283 (40 * 3 + j)) | none => true) = true := by decide +kernel
theorem gt283_4 : (List.range 40).all (fun j => match gc283 (40 * 4 + j) with | some op => gck 283 (40 * 4 + j) op (gp283 (40 * 4 + j)) | none => true) = true := by decide +kernel
theorem gk283 : ∀ (pc : Nat) (op : gOp), gpr 283 pc = some op → gOk 283 pc op := gprk (len := 194) (nc := 5) (c := gc283) (q := gp283) (fun _ => rfl) (by decide) fun k hk => by
  rcases Nat.lt_or_ge k 2 with h0_5 | h0_5
  · skip
    rcases Nat.lt_or_ge k 1 with h0_2 | h0_2
    · skip
      obtain rfl : k = 0 := by omega
      exact gt283_0
    · skip
      obtain rfl : k = 1 := by omega
      exact gt283_1
  · skip
    rcases Nat.lt_or_ge k 3 with h2_5 | h2_5
    · skip
      obtain rfl : k = 2 := by omega
      exact gt283_2
    · skip
      rcases Nat.lt_or_ge k 4 with h3_5 | h3_5
      · skip
        obtain rfl : k = 3 := by omega
        exact gt283_3
      · skip
        obtain rfl : k = 4 := by omega
        exact gt283_4
theorem gt284_0 : (List.range 40).all (fun j => match gc284 (40 * 0 + j) with | some op => gck 284 (40 * 0 + j) op (gp284 (40 * 0 + j)) | none => true) = true := by decide +kernel
theorem gk284 : ∀ (pc : Nat) (op : gOp), gpr 284 pc = some op → gOk 284 pc op := gprk (len := 23) (nc := 1) (c := gc284) (q := gp284) (fun _ => rfl) (by decide) fun k hk => by
  obtain rfl : k = 0 := by omega
  exact gt284_0
theorem gt285_0 : (List.range 40).all (fun j => match gc285 (40 * 0 + j) with | some op => gck 285 (40 * 0 + j) op (gp285 (40 * 0 + j)) | none => true) = true := by decide +kernel
theorem gt285_1 : (List.range 40).all (fun j => match gc285 (40 * 1 + j) with | some op => gck 285 (40 * 1 + j) op (gp285 (40 * 1 + j)) | none => true) = true := by decide +kernel
theorem gk285 : ∀ (pc : Nat) (op : gOp), gpr 285 pc = some op → gOk 285 pc op := gprk (len := 53) (nc := 2) (c := gc285) (q := gp285) (fun _ => rfl) (by decide) fun k hk => by
  rcases Nat.lt_or_ge k 1 with h0_2 | h0_2
  · skip
    obtain rfl : k = 0 := by omega
    exact gt285_0
  · skip
    obtain rfl : k = 1 := by omega
    exact gt285_1
theorem gt286_0 : (List.range 40).all (fun j => match gc286 (40 * 0 + j) with | some op => gck 286 (40 * 0 + j) op (gp286 (40 * 0 + j)) | none => true) = true := by decide +kernel
theorem gk286 : ∀ (pc : Nat) (op : gOp), gpr 286 pc = some op → gOk 286 pc op := gprk (len := 23) (nc := 1) (c := gc286) (q := gp286) (fun _ => rfl) (by decide) fun k hk => by
  obtain rfl : k = 0 := by omega
  exact gt286_0
theorem gt287_0 : (List.range 40).all (fun j => match gc287 (40 * 0 + j) with | some op => gck 287 (40 * 0 + j) op (gp287 (40 * 0 + j)) | none => true) = true := by decide +kernel
theorem gk287 : ∀ (pc : Nat) (op : gOp), gpr 287 pc = some op → gOk 287 pc op := gprk (len := 11) (nc := 1) (c := gc287) (q := gp287) (fun _ => rfl) (by decide) fun k hk => by
  obtain rfl : k = 0 := by omega
  exact gt287_0
theorem gt288_0 : (List.range 40).all (fun j => match gc288 (40 * 0 + j) with | some op => gck 288 (40 * 0 + j) op (gp288 (40 * 0 + j)) | none => true) = true := by decide +kernel
theorem gk288 : ∀ (pc : Nat) (op : gOp), gpr 288 pc = some op → gOk 288 pc op := gprk (len := 11) (nc := 1) (c := gc288) (q := gp288) (fun _ => rfl) (by decide) fun k hk => by
  obtain rfl : k = 0 := by omega
  exact gt288_0
theorem gt289_0 : (List.range 40).all (fun j => match gc289 (40 * 0 + j) with | some op => gck 289 (40 * 0 + j) op (gp289 (40 * 0 + j)) | none => true) = true := by decide +kernel
theorem gk289 : ∀ (pc : Nat) (op : gOp), gpr 289 pc = some op → gOk 289 pc op := gprk (len := 12) (nc := 1) (c := gc289) (q := gp289) (fun _ => rfl) (by decide) fun k hk => by
  obtain rfl : k = 0 := by omega
  exact gt289_0
theorem gt290_0 : (List.range 40).all (fun j => match gc290 (40 * 0 + j) with | some op => gck 290 (40 * 0 + j) op (gp290 (40 * 0 + j)) | none => true) = true := by decide +kernel
theorem gk290 : ∀ (pc : Nat) (op : gOp), gpr 290 pc = some op → gOk 290 pc op := gprk (len := 11) (nc := 1) (c := gc290) (q := gp290) (fun _ => rfl) (by decide) fun k hk => by
  obtain rfl : k = 0 := by omega
  exact gt290_0
theorem gt291_0 : (List.range 40).all (fun j => match gc291 (40 * 0 + j) with | some op => gck 291 (40 * 0 + j) op (gp291 (40 * 0 + j)) | none => true) = true := by decide +kernel
theorem gk291 : ∀ (pc : Nat) (op : gOp), gpr 291 pc = some op → gOk 291 pc op := gprk (len := 12) (nc := 1) (c := gc291) (q := gp291) (fun _ => rfl) (by decide) fun k hk => by
  obtain rfl : k = 0 := by omega
  exact gt291_0
theorem gt292_0 : (List.range 40).all (fun j => match gc292 (40 * 0 + j) with | some op => gck 292 (40 * 0 + j) op (gp292 (40 * 0 + j)) | none => true) = true := by decide +kernel
theorem gk292 : ∀ (pc : Nat) (op : gOp), gpr 292 pc = some op → gOk 292 pc op := gprk (len := 11) (nc := 1) (c := gc292) (q := gp292) (fun _ => rfl) (by decide) fun k hk => by
  obtain rfl : k = 0 := by omega
  exact gt292_0
theorem gt293_0 : (List.range 40).all (fun j => match gc293 (40 * 0 + j) with | some op => gck 293 (40 * 0 + j) op (gp293 (40 * 0 + j)) | none => true) = true := by decide +kernel
theorem gk293 : ∀ (pc : Nat) (op : gOp), gpr 293 pc = some op → gOk 293 pc op := gprk (len := 25) (nc := 1) (c := gc293) (q := gp293) (fun _ => rfl) (by decide) fun k hk => by
  obtain rfl : k = 0 := by omega
  exact gt293_0
theorem gt294_0 : (List.range 40).all (fun j => match gc294 (40 * 0 + j) with | some op => gck 294 (40 * 0 + j) op (gp294 (40 * 0 + j)) | none => true) = true := by decide +kernel
theorem gk294 : ∀ (pc : Nat) (op : gOp), gpr 294 pc = some op → gOk 294 pc op := gprk (len := 15) (nc := 1) (c := gc294) (q := gp294) (fun _ => rfl) (by decide) fun k hk => by
  obtain rfl : k = 0 := by omega
  exact gt294_0
theorem gt295_0 : (List.range 40).all (fun j => match gc295 (40 * 0 + j) with | some op => gck 295 (40 * 0 + j) op (gp295 (40 * 0 + j)) | none => true) = true := by decide +kernel
theorem gk295 : ∀ (pc : Nat) (op : gOp), gpr 295 pc = some op → gOk 295 pc op := gprk (len := 19) (nc := 1) (c := gc295) (q := gp295) (fun _ => rfl) (by decide) fun k hk => by
  obtain rfl : k = 0 := by omega
  exact gt295_0
theorem gt296_0 : (List.range 40).all (fun j => match gc296 (40 * 0 + j) with | some op => gck 296 (40 * 0 + j) op (gp296 (40 * 0 + j)) | none => true) = true := by decide +kernel
theorem gk296 : ∀ (pc : Nat) (op : gOp), gpr 296 pc = some op → gOk 296 pc op := gprk (len := 10) (nc := 1) (c := gc296) (q := gp296) (fun _ => rfl) (by decide) fun k hk => by
  obtain rfl : k = 0 := by omega
  exact gt296_0
theorem gt297_0 : (List.range 40).all (fun j => match gc297 (40 * 0 + j) with | some op => gck 297 (40 * 0 + j) op (gp297 (40 * 0 + j)) | none => true) = true := by decide +kernel
theorem gk297 : ∀ (pc : Nat) (op : gOp), gpr 297 pc = some op → gOk 297 pc op := gprk (len := 15) (nc := 1) (c := gc297) (q := gp297) (fun _ => rfl) (by decide) fun k hk => by
  obtain rfl : k = 0 := by omega
  exact gt297_0
theorem gt298_0 : (List.range 40).all (fun j => match gc298 (40 * 0 + j) with | some op => gck 298 (40 * 0 + j) op (gp298 (40 * 0 + j)) | none => true) = true := by decide +kernel
theorem gt298_1 : (List.range 40).all (fun j => match gc298 (40 * 1 + j) with | some op => gck 298 (40 * 1 + j) op (gp298 (40 * 1 + j)) | none => true) = true := by decide +kernel
theorem gk298 : ∀ (pc : Nat) (op : gOp), gpr 298 pc = some op → gOk 298 pc op := gprk (len := 60) (nc := 2) (c := gc298) (q := gp298) (fun _ => rfl) (by decide) fun k hk => by
  rcases Nat.lt_or_ge k 1 with h0_2 | h0_2
  · skip
    obtain rfl : k = 0 := by omega
    exact gt298_0
  · skip
    obtain rfl : k = 1 := by omega
    exact gt298_1
theorem gt299_0 : (List.range 40).all (fun j => match gc299 (40 * 0 + j) with | some op => gck 299 (40 * 0 + j) op (gp299 (40 * 0 + j)) | none => true) = true := by decide +kernel
theorem gk299 : ∀ (pc : Nat) (op : gOp), gpr 299 pc = some op → gOk 299 pc op := gprk (len := 5) (nc := 1) (c := gc299) (q := gp299) (fun _ => rfl) (by decide) fun k hk => by
  obtain rfl : k = 0 := by omega
  exact gt299_0
theorem gt300_0 : (List.range 40).all (fun j => match gc300 (40 * 0 + j) with | some op => gck 300 (40 * 0 + j) op (gp300 (40 * 0 + j)) | none => true) = true := by decide +kernel
theorem gk300 : ∀ (pc : Nat) (op : gOp), gpr 300 pc = some op → gOk 300 pc op := gprk (len := 11) (nc := 1) (c := gc300) (q := gp300) (fun _ => rfl) (by decide) fun k hk => by
  obtain rfl : k = 0 := by omega
  exact gt300_0
theorem gt301_0 : (List.range 40).all (fun j => match gc301 (40 * 0 + j) with | some op => gck 301 (40 * 0 + j) op (gp301 (40 * 0 + j)) | none => true) = true := by decide +kernel
theorem gk301 : ∀ (pc : Nat) (op : gOp), gpr 301 pc = some op → gOk 301 pc op := gprk (len := 9) (nc := 1) (c := gc301) (q := gp301) (fun _ => rfl) (by decide) fun k hk => by
  obtain rfl : k = 0 := by omega
  exact gt301_0
theorem gt302_0 : (List.range 40).all (fun j => match gc302 (40 * 0 + j) with | some op => gck 302 (40 * 0 + j) op (gp302 (40 * 0 + j)) | none => true) = true := by decide +kernel
theorem gk302 : ∀ (pc : Nat) (op : gOp), gpr 302 pc = some op → gOk 302 pc op := gprk (len := 18) (nc := 1) (c := gc302) (q := gp302) (fun _ => rfl) (by decide) fun k hk => by
  obtain rfl : k = 0 := by omega
  exact gt302_0
