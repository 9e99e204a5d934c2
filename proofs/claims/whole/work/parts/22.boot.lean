def gI1 (xs : Nat → Int32) (n i j : Nat) : Int32 := cond (Nat.ble 20 n) (cond (Nat.ble 34 n) (cond (Nat.ble 53 n) (cond (Nat.ble 58 n) (cond (Nat.beq n 58) ((([[(-1), (-1), (-1), (-1), (-1), (-1)]] : List (List Int32)).getD i []).getD j 0) (0)) (cond (Nat.beq n 53) ((([[99, 111, 117, 114, 115, 101], [98, 101, 97, 114, 101, 114], [97, 116], [112, 97, 99, 101], [104, 111, 117, 115, 101], [99, 97, 114, 101], [100, 97, 114, 107], [108, 105, 103, 104, 116], [119, 97, 110, 101, 115], [116, 97, 107, 101, 115], [116, 114, 105, 112], [115, 116, 114, 101, 110, 103, 116, 104], [104, 111, 117, 114], [109, 105, 108, 101], [104, 97, 110, 100, 101, 100], [114, 117, 110], [102, 97, 114], [110, 117, 109, 98, 101, 114], [112, 97, 115, 115, 101, 100], [108, 105, 116], [102, 114, 111, 109], [111, 114], [97, 110, 100], [110, 111, 116], [97, 108, 108], [109, 105, 110], [109, 97, 120], [102, 105, 114, 115, 116], [108, 97, 115, 116], [111, 102, 116, 101, 110], [116, 111, 116, 97, 108], [109, 111, 115, 116], [108, 101, 97, 115, 116], [110, 111, 116], [97, 110, 100], [111, 114], [97, 108, 108], [109, 105, 110], [109, 97, 120], [104, 111, 117, 114], [109, 105, 108, 101], [115, 116, 114, 101, 110, 103, 116, 104], [108, 105, 103, 104, 116], [112, 97, 99, 101], [104, 97, 110, 100, 101, 100], [114, 117, 110], [102, 97, 114], [110, 117, 109, 98, 101, 114], [99, 97, 114, 101], [112, 97, 115, 115, 101, 100], [108, 105, 116], [102, 114, 111, 109]] : List (List Int32)).getD i []).getD j 0) (0))) (cond (Nat.ble 50 n) (cond (Nat.beq n 50) ((([[0, 0, 0, 0, 0, 0, 0, 0, (-1)]] : List (List Int32)).getD i []).getD j 0) (0)) (cond (Nat.beq n 34) ((([[0, 0, 0, 0, 0, 0], [0, 0, 0, 0, 0, 0]] : List (List Int32)).getD i []).getD j 0) (0)))) (cond (Nat.ble 28 n) (cond (Nat.ble 31 n) (cond (Nat.beq n 31) ((([[0, 0]] : List (List Int32)).getD i []).getD j 0) (0)) (cond (Nat.beq n 28) ((([[0, 0, 0, 0, 0]] : List (List Int32)).getD i []).getD j 0) (0))) (cond (Nat.ble 21 n) (cond (Nat.beq n 21) ((([[0, 0, 0, (-1), 0, 0], [0, 0, 0, (-1), 0, 0], [0, 0, 0, (-1), 0, 0]] : List (List Int32)).getD i []).getD j 0) (0)) (cond (Nat.beq n 20) ((([[0, 0, 0, 0, 0, 0, 0, 0, 0]] : List (List Int32)).getD i []).getD j 0) (0))))) (cond (Nat.ble 11 n) (cond (Nat.ble 14 n) (cond (Nat.ble 17 n) (cond (Nat.beq n 17) ((([[0, 0, 0, 0], [0, 0, 0, 0], [0, 0, 0, 0]] : List (List Int32)).getD i []).getD j 0) (0)) (cond (Nat.beq n 14) ((([[0, 0, 0, 0, 0, 0, (-1)], [0, 0, 0, 0, 0, 0, (-1)], [0, 0, 0, 0, 0, 0, (-1)]] : List (List Int32)).getD i []).getD j 0) (0))) (cond (Nat.ble 13 n) (cond (Nat.beq n 13) ((([[0, 0, 0, 0, (-1)]] : List (List Int32)).getD i []).getD j 0) (0)) (cond (Nat.beq n 11) ((([[0, 0, (-1), 0, 0, 0, 0, (-1)]] : List (List Int32)).getD i []).getD j 0) (0)))) (cond (Nat.ble 3 n) (cond (Nat.ble 10 n) (cond (Nat.beq n 10) ((([[0, 0, 0, 0, 0, 0, 0, 0, 0, 0, 0, 0, 0, (-1)]] : List (List Int32)).getD i []).getD j 0) (0)) (cond (Nat.beq n 3) (gwI0.getD j 0) (0))) (cond (Nat.ble 1 n) (cond (Nat.beq n 1) (([3, 125, 157] : List Int32).getD j 0) (0)) (cond (Nat.beq n 0) (xs j) (0)))))
def gJ1 (n i j : Nat) : Int64 := cond (Nat.ble 50 n) (cond (Nat.beq n 50) (cond (Nat.beq j 72) (1) (0)) (0)) (cond (Nat.beq n 10) (cond (Nat.beq j 11) (1) (0)) (0))
theorem gSwap {d y pc : Nat} {L : List (Option gV)} {st : List gV} {w1 w2 w' : gW} {rv : Option gV} (h1 : w2.1 = w1.1) (h2 : w2.2.1 = w1.2.1) (hg : ∀ dA ad, gws dA ad w2 = gws dA ad w1) (hI : ∀ k i j, k < 10 → w2.2.2.1 k i j = w1.2.2.1 k i j ∧ w2.2.2.2.2 k i j = w1.2.2.2.2 k i j) (hWF : gWF w2) (k : gFine d y pc L st w2 rv w') : gFine d y pc L st w1 rv w' := by
  obtain ⟨k1, k2, k0, k4, k3⟩ := k
  have hz := gsz_same h1 h2
  refine ⟨by omega, by omega, k0.trans h2, fun a b j ha => ⟨(k4 a b j ha).1.trans (hI a b j ha).1, (k4 a b j ha).2.trans (hI a b j ha).2⟩, fun Cx D dA A ad ls H locs cells slots Q hl hL hs hv hin hf hr hc hz1 kk => ?_⟩
  obtain ⟨hK, hP, hD, hE, hW, hS, hA⟩ := hin
  refine k3 Cx D dA A ad ls H locs cells slots Q hl hL (hs.mono (by omega)) (hv.mono (by omega)) ⟨hK, by rw [hg]; exact hP, by rw [hg]; exact hD, hE.to h2 hI (fun _ _ _ => rfl), hWF, hS, hA⟩ hf hr (by omega) (by omega) fun ad' H' locs' pc' ls' ins ha hrv hI' hdd hret => ?_
  have := kk ad' H' locs' pc' ls' ins (fun r hr => ha r (hr.mono (by omega))) hrv hI' hdd hret
  rw [h1, hz]
  exact this
theorem gcd' {b : Bool} {x y : Option gNm} {P : gNm → Prop} (hx : ∀ r, x = some r → P r) (hy : ∀ r, y = some r → P r) : ∀ r, cond b x y = some r → P r := by
  cases b
  · exact hy
  · exact hx
theorem gcd0 {P : gNm → Prop} : ∀ r, (none : Option gNm) = some r → P r := fun r h => by cases h
theorem gwf_0 (fm : Option gNm) : ∀ (j : Nat) (r : gNm), gR10 (0, fm) 0 j = some r → r ∈ gnmL := fun j => (gcd' (gcd' (gcd' (gcd' (gcd' (fun r h => by cases h; first | exact (by decide : ((34, 0) : gNm) ∈ gnmL) | exact (by decide : ((34, 1) : gNm) ∈ gnmL) | decide) gcd0) (gcd' (fun r h => by cases h; first | exact (by decide : ((34, 0) : gNm) ∈ gnmL) | exact (by decide : ((34, 1) : gNm) ∈ gnmL) | decide) gcd0)) (gcd' (fun r h => by cases h; first | exact (by decide : ((34, 0) : gNm) ∈ gnmL) | exact (by decide : ((34, 1) : gNm) ∈ gnmL) | decide) gcd0)) (gcd' (gcd' (fun r h => by cases h; first | exact (by decide : ((34, 0) : gNm) ∈ gnmL) | exact (by decide : ((34, 1) : gNm) ∈ gnmL) | decide) gcd0) (gcd' (fun r h => by cases h; first | exact (by decide : ((34, 0) : gNm) ∈ gnmL) | exact (by decide : ((34, 1) : gNm) ∈ gnmL) | decide) gcd0))) (gcd' (gcd' (gcd' (gcd' (fun r h => by cases h; first | exact (by decide : ((34, 0) : gNm) ∈ gnmL) | exact (by decide : ((34, 1) : gNm) ∈ gnmL) | decide) gcd0) (gcd' (fun r h => by cases h; first | exact (by decide : ((34, 0) : gNm) ∈ gnmL) | exact (by decide : ((34, 1) : gNm) ∈ gnmL) | decide) gcd0)) (gcd' (fun r h => by cases h; first | exact (by decide : ((34, 0) : gNm) ∈ gnmL) | exact (by decide : ((34, 1) : gNm) ∈ gnmL) | decide) gcd0)) (gcd' (gcd' (fun r h => by cases h; first | exact (by decide : ((34, 0) : gNm) ∈ gnmL) | exact (by decide : ((34, 1) : gNm) ∈ gnmL) | decide) gcd0) (gcd' (fun r h => by cases h; first | exact (by decide : ((34, 0) : gNm) ∈ gnmL) | exact (by decide : ((34, 1) : gNm) ∈ gnmL) | decide) gcd0))))
theorem gwg_0 (fm : Option gNm) : ∀ (j : Nat) (r : gNm), gRT (0, fm) 10 0 j = some r → r ∈ gnmL := gwf_0 fm
set_option maxRecDepth 100000 in
theorem gct_0 (dA : Nat → ClassId) (ad : gNm → Nat) (S : Nat) (xs : Nat → Int32) (fm : Option gNm) : gcont dA ad (gwd S (gI1 xs) gJ1 (0, fm)) (10, 0) = gcont dA ad (gK92 S xs fm) (10, 0) := rfl
theorem gwf_1 (fm : Option gNm) : ∀ (j : Nat) (r : gNm), gR11 (0, fm) 0 j = some r → r ∈ gnmL := fun j => (gcd' (fun r h => by cases h; first | exact (by decide : ((34, 0) : gNm) ∈ gnmL) | exact (by decide : ((34, 1) : gNm) ∈ gnmL) | decide) gcd0)
theorem gwg_1 (fm : Option gNm) : ∀ (j : Nat) (r : gNm), gRT (0, fm) 11 0 j = some r → r ∈ gnmL := gwf_1 fm
set_option maxRecDepth 100000 in
theorem gct_1 (dA : Nat → ClassId) (ad : gNm → Nat) (S : Nat) (xs : Nat → Int32) (fm : Option gNm) : gcont dA ad (gwd S (gI1 xs) gJ1 (0, fm)) (11, 0) = gcont dA ad (gK92 S xs fm) (11, 0) := rfl
theorem gwg_2 (fm : Option gNm) : ∀ (j : Nat) (r : gNm), gRT (0, fm) 12 0 j = some r → r ∈ gnmL := fun j r h => by cases h
set_option maxRecDepth 100000 in
theorem gct_2 (dA : Nat → ClassId) (ad : gNm → Nat) (S : Nat) (xs : Nat → Int32) (fm : Option gNm) : gcont dA ad (gwd S (gI1 xs) gJ1 (0, fm)) (12, 0) = gcont dA ad (gK92 S xs fm) (12, 0) := rfl
theorem gwf_3 (fm : Option gNm) : ∀ (j : Nat) (r : gNm), gR13 (0, fm) 0 j = some r → r ∈ gnmL := fun j => (gcd' (gcd' (gcd' (fun r h => by cases h; first | exact (by decide : ((34, 0) : gNm) ∈ gnmL) | exact (by decide : ((34, 1) : gNm) ∈ gnmL) | decide) gcd0) (gcd' (fun r h => by cases h; first | exact (by decide : ((34, 0) : gNm) ∈ gnmL) | exact (by decide : ((34, 1) : gNm) ∈ gnmL) | decide) gcd0)) (gcd' (gcd' (fun r h => by cases h; first | exact (by decide : ((34, 0) : gNm) ∈ gnmL) | exact (by decide : ((34, 1) : gNm) ∈ gnmL) | decide) gcd0) (gcd' (fun r h => by cases h; first | exact (by decide : ((34, 0) : gNm) ∈ gnmL) | exact (by decide : ((34, 1) : gNm) ∈ gnmL) | decide) gcd0)))
theorem gwg_3 (fm : Option gNm) : ∀ (j : Nat) (r : gNm), gRT (0, fm) 13 0 j = some r → r ∈ gnmL := gwf_3 fm
set_option maxRecDepth 100000 in
theorem gct_3 (dA : Nat → ClassId) (ad : gNm → Nat) (S : Nat) (xs : Nat → Int32) (fm : Option gNm) : gcont dA ad (gwd S (gI1 xs) gJ1 (0, fm)) (13, 0) = gcont dA ad (gK92 S xs fm) (13, 0) := rfl
theorem gwf_4 (fm : Option gNm) : ∀ (j : Nat) (r : gNm), gR14 (0, fm) 2 j = some r → r ∈ gnmL := fun j => (gcd' (gcd' (fun r h => by cases h; first | exact (by decide : ((34, 0) : gNm) ∈ gnmL) | exact (by decide : ((34, 1) : gNm) ∈ gnmL) | decide) gcd0) (gcd' (fun r h => by cases h; first | exact (by decide : ((34, 0) : gNm) ∈ gnmL) | exact (by decide : ((34, 1) : gNm) ∈ gnmL) | decide) gcd0))
theorem gwg_4 (fm : Option gNm) : ∀ (j : Nat) (r : gNm), gRT (0, fm) 14 2 j = some r → r ∈ gnmL := gwf_4 fm
set_option maxRecDepth 100000 in
theorem gct_4 (dA : Nat → ClassId) (ad : gNm → Nat) (S : Nat) (xs : Nat → Int32) (fm : Option gNm) : gcont dA ad (gwd S (gI1 xs) gJ1 (0, fm)) (14, 2) = gcont dA ad (gK92 S xs fm) (14, 2) := rfl
theorem gwg_5 (fm : Option gNm) : ∀ (j : Nat) (r : gNm), gRT (0, fm) 15 2 j = some r → r ∈ gnmL := fun j r h => by cases h
set_option maxRecDepth 100000 in
theorem gct_5 (dA : Nat → ClassId) (ad : gNm → Nat) (S : Nat) (xs : Nat → Int32) (fm : Option gNm) : gcont dA ad (gwd S (gI1 xs) gJ1 (0, fm)) (15, 2) = gcont dA ad (gK92 S xs fm) (15, 2) := rfl
theorem gwg_6 (fm : Option gNm) : ∀ (j : Nat) (r : gNm), gRT (0, fm) 16 2 j = some r → r ∈ gnmL := fun j r h => by cases h
set_option maxRecDepth 100000 in
theorem gct_6 (dA : Nat → ClassId) (ad : gNm → Nat) (S : Nat) (xs : Nat → Int32) (fm : Option gNm) : gcont dA ad (gwd S (gI1 xs) gJ1 (0, fm)) (16, 2) = gcont dA ad (gK92 S xs fm) (16, 2) := rfl
theorem gwg_7 (fm : Option gNm) : ∀ (j : Nat) (r : gNm), gRT (0, fm) 18 2 j = some r → r ∈ gnmL := fun j r h => by cases h
set_option maxRecDepth 100000 in
theorem gct_7 (dA : Nat → ClassId) (ad : gNm → Nat) (S : Nat) (xs : Nat → Int32) (fm : Option gNm) : gcont dA ad (gwd S (gI1 xs) gJ1 (0, fm)) (18, 2) = gcont dA ad (gK92 S xs fm) (18, 2) := rfl
theorem gwf_8 (fm : Option gNm) : ∀ (j : Nat) (r : gNm), gR17 (0, fm) 2 j = some r → r ∈ gnmL := fun j => (gcd' (gcd' (fun r h => by cases h; first | exact (by decide : ((34, 0) : gNm) ∈ gnmL) | exact (by decide : ((34, 1) : gNm) ∈ gnmL) | decide) gcd0) (gcd' (fun r h => by cases h; first | exact (by decide : ((34, 0) : gNm) ∈ gnmL) | exact (by decide : ((34, 1) : gNm) ∈ gnmL) | decide) gcd0))
theorem gwg_8 (fm : Option gNm) : ∀ (j : Nat) (r : gNm), gRT (0, fm) 17 2 j = some r → r ∈ gnmL := gwf_8 fm
set_option maxRecDepth 100000 in
theorem gct_8 (dA : Nat → ClassId) (ad : gNm → Nat) (S : Nat) (xs : Nat → Int32) (fm : Option gNm) : gcont dA ad (gwd S (gI1 xs) gJ1 (0, fm)) (17, 2) = gcont dA ad (gK92 S xs fm) (17, 2) := rfl
theorem gwg_9 (fm : Option gNm) : ∀ (j : Nat) (r : gNm), gRT (0, fm) 19 0 j = some r → r ∈ gnmL := fun j r h => by cases h
set_option maxRecDepth 100000 in
theorem gct_9 (dA : Nat → ClassId) (ad : gNm → Nat) (S : Nat) (xs : Nat → Int32) (fm : Option gNm) : gcont dA ad (gwd S (gI1 xs) gJ1 (0, fm)) (19, 0) = gcont dA ad (gK92 S xs fm) (19, 0) := rfl
theorem gwf_10 (fm : Option gNm) : ∀ (j : Nat) (r : gNm), gR20 (0, fm) 0 j = some r → r ∈ gnmL := fun j => (gcd' (gcd' (gcd' (gcd' (fun r h => by cases h; first | exact (by decide : ((34, 0) : gNm) ∈ gnmL) | exact (by decide : ((34, 1) : gNm) ∈ gnmL) | decide) gcd0) (gcd' (fun r h => by cases h; first | exact (by decide : ((34, 0) : gNm) ∈ gnmL) | exact (by decide : ((34, 1) : gNm) ∈ gnmL) | decide) gcd0)) (gcd' (gcd' (fun r h => by cases h; first | exact (by decide : ((34, 0) : gNm) ∈ gnmL) | exact (by decide : ((34, 1) : gNm) ∈ gnmL) | decide) gcd0) (gcd' (fun r h => by cases h; first | exact (by decide : ((34, 0) : gNm) ∈ gnmL) | exact (by decide : ((34, 1) : gNm) ∈ gnmL) | decide) gcd0))) (gcd' (gcd' (gcd' (fun r h => by cases h; first | exact (by decide : ((34, 0) : gNm) ∈ gnmL) | exact (by decide : ((34, 1) : gNm) ∈ gnmL) | decide) gcd0) (gcd' (fun r h => by cases h; first | exact (by decide : ((34, 0) : gNm) ∈ gnmL) | exact (by decide : ((34, 1) : gNm) ∈ gnmL) | decide) gcd0)) (gcd' (gcd' (fun r h => by cases h; first | exact (by decide : ((34, 0) : gNm) ∈ gnmL) | exact (by decide : ((34, 1) : gNm) ∈ gnmL) | decide) gcd0) (gcd' (fun r h => by cases h; first | exact (by decide : ((34, 0) : gNm) ∈ gnmL) | exact (by decide : ((34, 1) : gNm) ∈ gnmL) | decide) gcd0))))
theorem gwg_10 (fm : Option gNm) : ∀ (j : Nat) (r : gNm), gRT (0, fm) 20 0 j = some r → r ∈ gnmL := gwf_10 fm
set_option maxRecDepth 100000 in
theorem gct_10 (dA : Nat → ClassId) (ad : gNm → Nat) (S : Nat) (xs : Nat → Int32) (fm : Option gNm) : gcont dA ad (gwd S (gI1 xs) gJ1 (0, fm)) (20, 0) = gcont dA ad (gK92 S xs fm) (20, 0) := rfl
theorem gwf_11 (fm : Option gNm) : ∀ (j : Nat) (r : gNm), gR21 (0, fm) 1 j = some r → r ∈ gnmL := fun j => (gcd' (fun r h => by cases h; first | exact (by decide : ((34, 0) : gNm) ∈ gnmL) | exact (by decide : ((34, 1) : gNm) ∈ gnmL) | decide) gcd0)
theorem gwg_11 (fm : Option gNm) : ∀ (j : Nat) (r : gNm), gRT (0, fm) 21 1 j = some r → r ∈ gnmL := gwf_11 fm
set_option maxRecDepth 100000 in
theorem gct_11 (dA : Nat → ClassId) (ad : gNm → Nat) (S : Nat) (xs : Nat → Int32) (fm : Option gNm) : gcont dA ad (gwd S (gI1 xs) gJ1 (0, fm)) (21, 1) = gcont dA ad (gK92 S xs fm) (21, 1) := rfl
theorem gwg_12 (fm : Option gNm) : ∀ (j : Nat) (r : gNm), gRT (0, fm) 22 1 j = some r → r ∈ gnmL := fun j r h => by cases h
set_option maxRecDepth 100000 in
theorem gct_12 (dA : Nat → ClassId) (ad : gNm → Nat) (S : Nat) (xs : Nat → Int32) (fm : Option gNm) : gcont dA ad (gwd S (gI1 xs) gJ1 (0, fm)) (22, 1) = gcont dA ad (gK92 S xs fm) (22, 1) := rfl
theorem gwf_13 (fm : Option gNm) : ∀ (j : Nat) (r : gNm), gR21 (0, fm) 2 j = some r → r ∈ gnmL := fun j => (gcd' (fun r h => by cases h; first | exact (by decide : ((34, 0) : gNm) ∈ gnmL) | exact (by decide : ((34, 1) : gNm) ∈ gnmL) | decide) gcd0)
theorem gwg_13 (fm : Option gNm) : ∀ (j : Nat) (r : gNm), gRT (0, fm) 21 2 j = some r → r ∈ gnmL := gwf_13 fm
set_option maxRecDepth 100000 in
theorem gct_13 (dA : Nat → ClassId) (ad : gNm → Nat) (S : Nat) (xs : Nat → Int32) (fm : Option gNm) : gcont dA ad (gwd S (gI1 xs) gJ1 (0, fm)) (21, 2) = gcont dA ad (gK92 S xs fm) (21, 2) := rfl
theorem gwg_14 (fm : Option gNm) : ∀ (j : Nat) (r : gNm), gRT (0, fm) 22 2 j = some r → r ∈ gnmL := fun j r h => by cases h
set_option maxRecDepth 100000 in
theorem gct_14 (dA : Nat → ClassId) (ad : gNm → Nat) (S : Nat) (xs : Nat → Int32) (fm : Option gNm) : gcont dA ad (gwd S (gI1 xs) gJ1 (0, fm)) (22, 2) = gcont dA ad (gK92 S xs fm) (22, 2) := rfl
theorem gwg_15 (fm : Option gNm) : ∀ (j : Nat) (r : gNm), gRT (0, fm) 23 0 j = some r → r ∈ gnmL := fun j r h => by cases h
set_option maxRecDepth 100000 in
theorem gct_15 (dA : Nat → ClassId) (ad : gNm → Nat) (S : Nat) (xs : Nat → Int32) (fm : Option gNm) : gcont dA ad (gwd S (gI1 xs) gJ1 (0, fm)) (23, 0) = gcont dA ad (gK92 S xs fm) (23, 0) := rfl
theorem gwg_16 (fm : Option gNm) : ∀ (j : Nat) (r : gNm), gRT (0, fm) 24 0 j = some r → r ∈ gnmL := fun j r h => by cases h
set_option maxRecDepth 100000 in
theorem gct_16 (dA : Nat → ClassId) (ad : gNm → Nat) (S : Nat) (xs : Nat → Int32) (fm : Option gNm) : gcont dA ad (gwd S (gI1 xs) gJ1 (0, fm)) (24, 0) = gcont dA ad (gK92 S xs fm) (24, 0) := rfl
theorem gwg_17 (fm : Option gNm) : ∀ (j : Nat) (r : gNm), gRT (0, fm) 25 0 j = some r → r ∈ gnmL := fun j r h => by cases h
set_option maxRecDepth 100000 in
theorem gct_17 (dA : Nat → ClassId) (ad : gNm → Nat) (S : Nat) (xs : Nat → Int32) (fm : Option gNm) : gcont dA ad (gwd S (gI1 xs) gJ1 (0, fm)) (25, 0) = gcont dA ad (gK92 S xs fm) (25, 0) := rfl
theorem gwg_18 (fm : Option gNm) : ∀ (j : Nat) (r : gNm), gRT (0, fm) 26 0 j = some r → r ∈ gnmL := fun j r h => by cases h
set_option maxRecDepth 100000 in
theorem gct_18 (dA : Nat → ClassId) (ad : gNm → Nat) (S : Nat) (xs : Nat → Int32) (fm : Option gNm) : gcont dA ad (gwd S (gI1 xs) gJ1 (0, fm)) (26, 0) = gcont dA ad (gK92 S xs fm) (26, 0) := rfl
theorem gwg_19 (fm : Option gNm) : ∀ (j : Nat) (r : gNm), gRT (0, fm) 27 0 j = some r → r ∈ gnmL := fun j r h => by cases h
set_option maxRecDepth 100000 in
theorem gct_19 (dA : Nat → ClassId) (ad : gNm → Nat) (S : Nat) (xs : Nat → Int32) (fm : Option gNm) : gcont dA ad (gwd S (gI1 xs) gJ1 (0, fm)) (27, 0) = gcont dA ad (gK92 S xs fm) (27, 0) := rfl
theorem gwf_20 (fm : Option gNm) : ∀ (j : Nat) (r : gNm), gR28 (0, fm) 0 j = some r → r ∈ gnmL := fun j => (gcd' (gcd' (fun r h => by cases h; first | exact (by decide : ((34, 0) : gNm) ∈ gnmL) | exact (by decide : ((34, 1) : gNm) ∈ gnmL) | decide) gcd0) (gcd' (fun r h => by cases h; first | exact (by decide : ((34, 0) : gNm) ∈ gnmL) | exact (by decide : ((34, 1) : gNm) ∈ gnmL) | decide) gcd0))
theorem gwg_20 (fm : Option gNm) : ∀ (j : Nat) (r : gNm), gRT (0, fm) 28 0 j = some r → r ∈ gnmL := gwf_20 fm
set_option maxRecDepth 100000 in
theorem gct_20 (dA : Nat → ClassId) (ad : gNm → Nat) (S : Nat) (xs : Nat → Int32) (fm : Option gNm) : gcont dA ad (gwd S (gI1 xs) gJ1 (0, fm)) (28, 0) = gcont dA ad (gK92 S xs fm) (28, 0) := rfl
theorem gwg_21 (fm : Option gNm) : ∀ (j : Nat) (r : gNm), gRT (0, fm) 29 0 j = some r → r ∈ gnmL := fun j r h => by cases h
set_option maxRecDepth 100000 in
theorem gct_21 (dA : Nat → ClassId) (ad : gNm → Nat) (S : Nat) (xs : Nat → Int32) (fm : Option gNm) : gcont dA ad (gwd S (gI1 xs) gJ1 (0, fm)) (29, 0) = gcont dA ad (gK92 S xs fm) (29, 0) := rfl
theorem gwg_22 (fm : Option gNm) : ∀ (j : Nat) (r : gNm), gRT (0, fm) 30 0 j = some r → r ∈ gnmL := fun j r h => by cases h
set_option maxRecDepth 100000 in
theorem gct_22 (dA : Nat → ClassId) (ad : gNm → Nat) (S : Nat) (xs : Nat → Int32) (fm : Option gNm) : gcont dA ad (gwd S (gI1 xs) gJ1 (0, fm)) (30, 0) = gcont dA ad (gK92 S xs fm) (30, 0) := rfl
theorem gwf_23 (fm : Option gNm) : ∀ (j : Nat) (r : gNm), gR31 (0, fm) 0 j = some r → r ∈ gnmL := fun j => (gcd' (fun r h => by cases h; first | exact (by decide : ((34, 0) : gNm) ∈ gnmL) | exact (by decide : ((34, 1) : gNm) ∈ gnmL) | decide) gcd0)
theorem gwg_23 (fm : Option gNm) : ∀ (j : Nat) (r : gNm), gRT (0, fm) 31 0 j = some r → r ∈ gnmL := gwf_23 fm
set_option maxRecDepth 100000 in
theorem gct_23 (dA : Nat → ClassId) (ad : gNm → Nat) (S : Nat) (xs : Nat → Int32) (fm : Option gNm) : gcont dA ad (gwd S (gI1 xs) gJ1 (0, fm)) (31, 0) = gcont dA ad (gK92 S xs fm) (31, 0) := rfl
theorem gwg_24 (fm : Option gNm) : ∀ (j : Nat) (r : gNm), gRT (0, fm) 32 0 j = some r → r ∈ gnmL := fun j r h => by cases h
set_option maxRecDepth 100000 in
theorem gct_24 (dA : Nat → ClassId) (ad : gNm → Nat) (S : Nat) (xs : Nat → Int32) (fm : Option gNm) : gcont dA ad (gwd S (gI1 xs) gJ1 (0, fm)) (32, 0) = gcont dA ad (gK92 S xs fm) (32, 0) := rfl
theorem gwf_25 (fm : Option gNm) : ∀ (j : Nat) (r : gNm), gR21 (0, fm) 0 j = some r → r ∈ gnmL := fun j => (gcd' (fun r h => by cases h; first | exact (by decide : ((34, 0) : gNm) ∈ gnmL) | exact (by decide : ((34, 1) : gNm) ∈ gnmL) | decide) gcd0)
theorem gwg_25 (fm : Option gNm) : ∀ (j : Nat) (r : gNm), gRT (0, fm) 21 0 j = some r → r ∈ gnmL := gwf_25 fm
set_option maxRecDepth 100000 in
theorem gct_25 (dA : Nat → ClassId) (ad : gNm → Nat) (S : Nat) (xs : Nat → Int32) (fm : Option gNm) : gcont dA ad (gwd S (gI1 xs) gJ1 (0, fm)) (21, 0) = gcont dA ad (gK92 S xs fm) (21, 0) := rfl
theorem gwg_26 (fm : Option gNm) : ∀ (j : Nat) (r : gNm), gRT (0, fm) 22 0 j = some r → r ∈ gnmL := fun j r h => by cases h
set_option maxRecDepth 100000 in
theorem gct_26 (dA : Nat → ClassId) (ad : gNm → Nat) (S : Nat) (xs : Nat → Int32) (fm : Option gNm) : gcont dA ad (gwd S (gI1 xs) gJ1 (0, fm)) (22, 0) = gcont dA ad (gK92 S xs fm) (22, 0) := rfl
theorem gwg_27 (fm : Option gNm) : ∀ (j : Nat) (r : gNm), gRT (0, fm) 33 0 j = some r → r ∈ gnmL := fun j r h => by cases h
set_option maxRecDepth 100000 in
theorem gct_27 (dA : Nat → ClassId) (ad : gNm → Nat) (S : Nat) (xs : Nat → Int32) (fm : Option gNm) : gcont dA ad (gwd S (gI1 xs) gJ1 (0, fm)) (33, 0) = gcont dA ad (gK92 S xs fm) (33, 0) := rfl
theorem gwf_28 (fm : Option gNm) : ∀ (j : Nat) (r : gNm), gR34 (0, fm) 0 j = some r → r ∈ gnmL := fun j => (gcd' (gcd' (gcd' (gcd' (gcd' (fun r h => by cases h; first | exact (by decide : ((34, 0) : gNm) ∈ gnmL) | exact (by decide : ((34, 1) : gNm) ∈ gnmL) | decide) gcd0) (gcd' (fun r h => by cases h; first | exact (by decide : ((34, 0) : gNm) ∈ gnmL) | exact (by decide : ((34, 1) : gNm) ∈ gnmL) | decide) gcd0)) (gcd' (fun r h => by cases h; first | exact (by decide : ((34, 0) : gNm) ∈ gnmL) | exact (by decide : ((34, 1) : gNm) ∈ gnmL) | decide) gcd0)) (gcd' (gcd' (gcd' (fun r h => by cases h; first | exact (by decide : ((34, 0) : gNm) ∈ gnmL) | exact (by decide : ((34, 1) : gNm) ∈ gnmL) | decide) gcd0) (gcd' (fun r h => by cases h; first | exact (by decide : ((34, 0) : gNm) ∈ gnmL) | exact (by decide : ((34, 1) : gNm) ∈ gnmL) | decide) gcd0)) (gcd' (fun r h => by cases h; first | exact (by decide : ((34, 0) : gNm) ∈ gnmL) | exact (by decide : ((34, 1) : gNm) ∈ gnmL) | decide) gcd0))) (gcd' (gcd' (gcd' (gcd' (fun r h => by cases h; first | exact (by decide : ((34, 0) : gNm) ∈ gnmL) | exact (by decide : ((34, 1) : gNm) ∈ gnmL) | decide) gcd0) (gcd' (fun r h => by cases h; first | exact (by decide : ((34, 0) : gNm) ∈ gnmL) | exact (by decide : ((34, 1) : gNm) ∈ gnmL) | decide) gcd0)) (gcd' (fun r h => by cases h; first | exact (by decide : ((34, 0) : gNm) ∈ gnmL) | exact (by decide : ((34, 1) : gNm) ∈ gnmL) | decide) gcd0)) (gcd' (gcd' (fun r h => by cases h; first | exact (by decide : ((34, 0) : gNm) ∈ gnmL) | exact (by decide : ((34, 1) : gNm) ∈ gnmL) | decide) gcd0) (gcd' (fun r h => by cases h; first | exact (by decide : ((34, 0) : gNm) ∈ gnmL) | exact (by decide : ((34, 1) : gNm) ∈ gnmL) | decide) gcd0))))
theorem gwg_28 (fm : Option gNm) : ∀ (j : Nat) (r : gNm), gRT (0, fm) 34 0 j = some r → r ∈ gnmL := gwf_28 fm
set_option maxRecDepth 100000 in
theorem gct_28 (dA : Nat → ClassId) (ad : gNm → Nat) (S : Nat) (xs : Nat → Int32) (fm : Option gNm) : gcont dA ad (gwd S (gI1 xs) gJ1 (0, fm)) (34, 0) = gcont dA ad (gK92 S xs fm) (34, 0) := rfl
theorem gwg_29 (fm : Option gNm) : ∀ (j : Nat) (r : gNm), gRT (0, fm) 35 0 j = some r → r ∈ gnmL := fun j r h => by cases h
set_option maxRecDepth 100000 in
theorem gct_29 (dA : Nat → ClassId) (ad : gNm → Nat) (S : Nat) (xs : Nat → Int32) (fm : Option gNm) : gcont dA ad (gwd S (gI1 xs) gJ1 (0, fm)) (35, 0) = gcont dA ad (gK92 S xs fm) (35, 0) := rfl
theorem gwg_30 (fm : Option gNm) : ∀ (j : Nat) (r : gNm), gRT (0, fm) 36 0 j = some r → r ∈ gnmL := fun j r h => by cases h
set_option maxRecDepth 100000 in
theorem gct_30 (dA : Nat → ClassId) (ad : gNm → Nat) (S : Nat) (xs : Nat → Int32) (fm : Option gNm) : gcont dA ad (gwd S (gI1 xs) gJ1 (0, fm)) (36, 0) = gcont dA ad (gK92 S xs fm) (36, 0) := rfl
theorem gwg_31 (fm : Option gNm) : ∀ (j : Nat) (r : gNm), gRT (0, fm) 37 0 j = some r → r ∈ gnmL := fun j r h => by cases h
set_option maxRecDepth 100000 in
theorem gct_31 (dA : Nat → ClassId) (ad : gNm → Nat) (S : Nat) (xs : Nat → Int32) (fm : Option gNm) : gcont dA ad (gwd S (gI1 xs) gJ1 (0, fm)) (37, 0) = gcont dA ad (gK92 S xs fm) (37, 0) := rfl
theorem gwg_32 (fm : Option gNm) : ∀ (j : Nat) (r : gNm), gRT (0, fm) 38 0 j = some r → r ∈ gnmL := fun j r h => by cases h
set_option maxRecDepth 100000 in
theorem gct_32 (dA : Nat → ClassId) (ad : gNm → Nat) (S : Nat) (xs : Nat → Int32) (fm : Option gNm) : gcont dA ad (gwd S (gI1 xs) gJ1 (0, fm)) (38, 0) = gcont dA ad (gK92 S xs fm) (38, 0) := rfl
theorem gwg_33 (fm : Option gNm) : ∀ (j : Nat) (r : gNm), gRT (0, fm) 18 0 j = some r → r ∈ gnmL := fun j r h => by cases h
set_option maxRecDepth 100000 in
theorem gct_33 (dA : Nat → ClassId) (ad : gNm → Nat) (S : Nat) (xs : Nat → Int32) (fm : Option gNm) : gcont dA ad (gwd S (gI1 xs) gJ1 (0, fm)) (18, 0) = gcont dA ad (gK92 S xs fm) (18, 0) := rfl
theorem gwg_34 (fm : Option gNm) : ∀ (j : Nat) (r : gNm), gRT (0, fm) 39 0 j = some r → r ∈ gnmL := fun j r h => by cases h
set_option maxRecDepth 100000 in
theorem gct_34 (dA : Nat → ClassId) (ad : gNm → Nat) (S : Nat) (xs : Nat → Int32) (fm : Option gNm) : gcont dA ad (gwd S (gI1 xs) gJ1 (0, fm)) (39, 0) = gcont dA ad (gK92 S xs fm) (39, 0) := rfl
theorem gwf_35 (fm : Option gNm) : ∀ (j : Nat) (r : gNm), gR14 (0, fm) 0 j = some r → r ∈ gnmL := fun j => (gcd' (gcd' (fun r h => by cases h; first | exact (by decide : ((34, 0) : gNm) ∈ gnmL) | exact (by decide : ((34, 1) : gNm) ∈ gnmL) | decide) gcd0) (gcd' (fun r h => by cases h; first | exact (by decide : ((34, 0) : gNm) ∈ gnmL) | exact (by decide : ((34, 1) : gNm) ∈ gnmL) | decide) gcd0))
theorem gwg_35 (fm : Option gNm) : ∀ (j : Nat) (r : gNm), gRT (0, fm) 14 0 j = some r → r ∈ gnmL := gwf_35 fm
set_option maxRecDepth 100000 in
theorem gct_35 (dA : Nat → ClassId) (ad : gNm → Nat) (S : Nat) (xs : Nat → Int32) (fm : Option gNm) : gcont dA ad (gwd S (gI1 xs) gJ1 (0, fm)) (14, 0) = gcont dA ad (gK92 S xs fm) (14, 0) := rfl
theorem gwg_36 (fm : Option gNm) : ∀ (j : Nat) (r : gNm), gRT (0, fm) 15 0 j = some r → r ∈ gnmL := fun j r h => by cases h
set_option maxRecDepth 100000 in
theorem gct_36 (dA : Nat → ClassId) (ad : gNm → Nat) (S : Nat) (xs : Nat → Int32) (fm : Option gNm) : gcont dA ad (gwd S (gI1 xs) gJ1 (0, fm)) (15, 0) = gcont dA ad (gK92 S xs fm) (15, 0) := rfl
theorem gwg_37 (fm : Option gNm) : ∀ (j : Nat) (r : gNm), gRT (0, fm) 16 0 j = some r → r ∈ gnmL := fun j r h => by cases h
set_option maxRecDepth 100000 in
theorem gct_37 (dA : Nat → ClassId) (ad : gNm → Nat) (S : Nat) (xs : Nat → Int32) (fm : Option gNm) : gcont dA ad (gwd S (gI1 xs) gJ1 (0, fm)) (16, 0) = gcont dA ad (gK92 S xs fm) (16, 0) := rfl
theorem gwg_38 (fm : Option gNm) : ∀ (j : Nat) (r : gNm), gRT (0, fm) 40 0 j = some r → r ∈ gnmL := fun j r h => by cases h
set_option maxRecDepth 100000 in
theorem gct_38 (dA : Nat → ClassId) (ad : gNm → Nat) (S : Nat) (xs : Nat → Int32) (fm : Option gNm) : gcont dA ad (gwd S (gI1 xs) gJ1 (0, fm)) (40, 0) = gcont dA ad (gK92 S xs fm) (40, 0) := rfl
theorem gwg_39 (fm : Option gNm) : ∀ (j : Nat) (r : gNm), gRT (0, fm) 41 0 j = some r → r ∈ gnmL := fun j r h => by cases h
set_option maxRecDepth 100000 in
theorem gct_39 (dA : Nat → ClassId) (ad : gNm → Nat) (S : Nat) (xs : Nat → Int32) (fm : Option gNm) : gcont dA ad (gwd S (gI1 xs) gJ1 (0, fm)) (41, 0) = gcont dA ad (gK92 S xs fm) (41, 0) := rfl
theorem gwf_40 (fm : Option gNm) : ∀ (j : Nat) (r : gNm), gR17 (0, fm) 0 j = some r → r ∈ gnmL := fun j => (gcd' (gcd' (fun r h => by cases h; first | exact (by decide : ((34, 0) : gNm) ∈ gnmL) | exact (by decide : ((34, 1) : gNm) ∈ gnmL) | decide) gcd0) (gcd' (fun r h => by cases h; first | exact (by decide : ((34, 0) : gNm) ∈ gnmL) | exact (by decide : ((34, 1) : gNm) ∈ gnmL) | decide) gcd0))
theorem gwg_40 (fm : Option gNm) : ∀ (j : Nat) (r : gNm), gRT (0, fm) 17 0 j = some r → r ∈ gnmL := gwf_40 fm
set_option maxRecDepth 100000 in
theorem gct_40 (dA : Nat → ClassId) (ad : gNm → Nat) (S : Nat) (xs : Nat → Int32) (fm : Option gNm) : gcont dA ad (gwd S (gI1 xs) gJ1 (0, fm)) (17, 0) = gcont dA ad (gK92 S xs fm) (17, 0) := rfl
theorem gwf_41 (fm : Option gNm) : ∀ (j : Nat) (r : gNm), gR34 (0, fm) 1 j = some r → r ∈ gnmL := fun j => (gcd' (gcd' (gcd' (gcd' (gcd' (fun r h => by cases h; first | exact (by decide : ((34, 0) : gNm) ∈ gnmL) | exact (by decide : ((34, 1) : gNm) ∈ gnmL) | decide) gcd0) (gcd' (fun r h => by cases h; first | exact (by decide : ((34, 0) : gNm) ∈ gnmL) | exact (by decide : ((34, 1) : gNm) ∈ gnmL) | decide) gcd0)) (gcd' (fun r h => by cases h; first | exact (by decide : ((34, 0) : gNm) ∈ gnmL) | exact (by decide : ((34, 1) : gNm) ∈ gnmL) | decide) gcd0)) (gcd' (gcd' (gcd' (fun r h => by cases h; first | exact (by decide : ((34, 0) : gNm) ∈ gnmL) | exact (by decide : ((34, 1) : gNm) ∈ gnmL) | decide) gcd0) (gcd' (fun r h => by cases h; first | exact (by decide : ((34, 0) : gNm) ∈ gnmL) | exact (by decide : ((34, 1) : gNm) ∈ gnmL) | decide) gcd0)) (gcd' (fun r h => by cases h; first | exact (by decide : ((34, 0) : gNm) ∈ gnmL) | exact (by decide : ((34, 1) : gNm) ∈ gnmL) | decide) gcd0))) (gcd' (gcd' (gcd' (gcd' (fun r h => by cases h; first | exact (by decide : ((34, 0) : gNm) ∈ gnmL) | exact (by decide : ((34, 1) : gNm) ∈ gnmL) | decide) gcd0) (gcd' (fun r h => by cases h; first | exact (by decide : ((34, 0) : gNm) ∈ gnmL) | exact (by decide : ((34, 1) : gNm) ∈ gnmL) | decide) gcd0)) (gcd' (fun r h => by cases h; first | exact (by decide : ((34, 0) : gNm) ∈ gnmL) | exact (by decide : ((34, 1) : gNm) ∈ gnmL) | decide) gcd0)) (gcd' (gcd' (fun r h => by cases h; first | exact (by decide : ((34, 0) : gNm) ∈ gnmL) | exact (by decide : ((34, 1) : gNm) ∈ gnmL) | decide) gcd0) (gcd' (fun r h => by cases h; first | exact (by decide : ((34, 0) : gNm) ∈ gnmL) | exact (by decide : ((34, 1) : gNm) ∈ gnmL) | decide) gcd0))))
theorem gwg_41 (fm : Option gNm) : ∀ (j : Nat) (r : gNm), gRT (0, fm) 34 1 j = some r → r ∈ gnmL := gwf_41 fm
set_option maxRecDepth 100000 in
theorem gct_41 (dA : Nat → ClassId) (ad : gNm → Nat) (S : Nat) (xs : Nat → Int32) (fm : Option gNm) : gcont dA ad (gwd S (gI1 xs) gJ1 (0, fm)) (34, 1) = gcont dA ad (gK92 S xs fm) (34, 1) := rfl
theorem gwg_42 (fm : Option gNm) : ∀ (j : Nat) (r : gNm), gRT (0, fm) 35 1 j = some r → r ∈ gnmL := fun j r h => by cases h
set_option maxRecDepth 100000 in
theorem gct_42 (dA : Nat → ClassId) (ad : gNm → Nat) (S : Nat) (xs : Nat → Int32) (fm : Option gNm) : gcont dA ad (gwd S (gI1 xs) gJ1 (0, fm)) (35, 1) = gcont dA ad (gK92 S xs fm) (35, 1) := rfl
theorem gwg_43 (fm : Option gNm) : ∀ (j : Nat) (r : gNm), gRT (0, fm) 36 1 j = some r → r ∈ gnmL := fun j r h => by cases h
set_option maxRecDepth 100000 in
theorem gct_43 (dA : Nat → ClassId) (ad : gNm → Nat) (S : Nat) (xs : Nat → Int32) (fm : Option gNm) : gcont dA ad (gwd S (gI1 xs) gJ1 (0, fm)) (36, 1) = gcont dA ad (gK92 S xs fm) (36, 1) := rfl
theorem gwg_44 (fm : Option gNm) : ∀ (j : Nat) (r : gNm), gRT (0, fm) 37 1 j = some r → r ∈ gnmL := fun j r h => by cases h
set_option maxRecDepth 100000 in
theorem gct_44 (dA : Nat → ClassId) (ad : gNm → Nat) (S : Nat) (xs : Nat → Int32) (fm : Option gNm) : gcont dA ad (gwd S (gI1 xs) gJ1 (0, fm)) (37, 1) = gcont dA ad (gK92 S xs fm) (37, 1) := rfl
theorem gwg_45 (fm : Option gNm) : ∀ (j : Nat) (r : gNm), gRT (0, fm) 38 1 j = some r → r ∈ gnmL := fun j r h => by cases h
set_option maxRecDepth 100000 in
theorem gct_45 (dA : Nat → ClassId) (ad : gNm → Nat) (S : Nat) (xs : Nat → Int32) (fm : Option gNm) : gcont dA ad (gwd S (gI1 xs) gJ1 (0, fm)) (38, 1) = gcont dA ad (gK92 S xs fm) (38, 1) := rfl
theorem gwg_46 (fm : Option gNm) : ∀ (j : Nat) (r : gNm), gRT (0, fm) 18 1 j = some r → r ∈ gnmL := fun j r h => by cases h
set_option maxRecDepth 100000 in
theorem gct_46 (dA : Nat → ClassId) (ad : gNm → Nat) (S : Nat) (xs : Nat → Int32) (fm : Option gNm) : gcont dA ad (gwd S (gI1 xs) gJ1 (0, fm)) (18, 1) = gcont dA ad (gK92 S xs fm) (18, 1) := rfl
theorem gwg_47 (fm : Option gNm) : ∀ (j : Nat) (r : gNm), gRT (0, fm) 39 1 j = some r → r ∈ gnmL := fun j r h => by cases h
set_option maxRecDepth 100000 in
theorem gct_47 (dA : Nat → ClassId) (ad : gNm → Nat) (S : Nat) (xs : Nat → Int32) (fm : Option gNm) : gcont dA ad (gwd S (gI1 xs) gJ1 (0, fm)) (39, 1) = gcont dA ad (gK92 S xs fm) (39, 1) := rfl
theorem gwf_48 (fm : Option gNm) : ∀ (j : Nat) (r : gNm), gR14 (0, fm) 1 j = some r → r ∈ gnmL := fun j => (gcd' (gcd' (fun r h => by cases h; first | exact (by decide : ((34, 0) : gNm) ∈ gnmL) | exact (by decide : ((34, 1) : gNm) ∈ gnmL) | decide) gcd0) (gcd' (fun r h => by cases h; first | exact (by decide : ((34, 0) : gNm) ∈ gnmL) | exact (by decide : ((34, 1) : gNm) ∈ gnmL) | decide) gcd0))
theorem gwg_48 (fm : Option gNm) : ∀ (j : Nat) (r : gNm), gRT (0, fm) 14 1 j = some r → r ∈ gnmL := gwf_48 fm
set_option maxRecDepth 100000 in
theorem gct_48 (dA : Nat → ClassId) (ad : gNm → Nat) (S : Nat) (xs : Nat → Int32) (fm : Option gNm) : gcont dA ad (gwd S (gI1 xs) gJ1 (0, fm)) (14, 1) = gcont dA ad (gK92 S xs fm) (14, 1) := rfl
theorem gwg_49 (fm : Option gNm) : ∀ (j : Nat) (r : gNm), gRT (0, fm) 15 1 j = some r → r ∈ gnmL := fun j r h => by cases h
set_option maxRecDepth 100000 in
theorem gct_49 (dA : Nat → ClassId) (ad : gNm → Nat) (S : Nat) (xs : Nat → Int32) (fm : Option gNm) : gcont dA ad (gwd S (gI1 xs) gJ1 (0, fm)) (15, 1) = gcont dA ad (gK92 S xs fm) (15, 1) := rfl
theorem gwg_50 (fm : Option gNm) : ∀ (j : Nat) (r : gNm), gRT (0, fm) 16 1 j = some r → r ∈ gnmL := fun j r h => by cases h
set_option maxRecDepth 100000 in
theorem gct_50 (dA : Nat → ClassId) (ad : gNm → Nat) (S : Nat) (xs : Nat → Int32) (fm : Option gNm) : gcont dA ad (gwd S (gI1 xs) gJ1 (0, fm)) (16, 1) = gcont dA ad (gK92 S xs fm) (16, 1) := rfl
theorem gwg_51 (fm : Option gNm) : ∀ (j : Nat) (r : gNm), gRT (0, fm) 40 1 j = some r → r ∈ gnmL := fun j r h => by cases h
set_option maxRecDepth 100000 in
theorem gct_51 (dA : Nat → ClassId) (ad : gNm → Nat) (S : Nat) (xs : Nat → Int32) (fm : Option gNm) : gcont dA ad (gwd S (gI1 xs) gJ1 (0, fm)) (40, 1) = gcont dA ad (gK92 S xs fm) (40, 1) := rfl
theorem gwg_52 (fm : Option gNm) : ∀ (j : Nat) (r : gNm), gRT (0, fm) 41 1 j = some r → r ∈ gnmL := fun j r h => by cases h
set_option maxRecDepth 100000 in
theorem gct_52 (dA : Nat → ClassId) (ad : gNm → Nat) (S : Nat) (xs : Nat → Int32) (fm : Option gNm) : gcont dA ad (gwd S (gI1 xs) gJ1 (0, fm)) (41, 1) = gcont dA ad (gK92 S xs fm) (41, 1) := rfl
theorem gwf_53 (fm : Option gNm) : ∀ (j : Nat) (r : gNm), gR17 (0, fm) 1 j = some r → r ∈ gnmL := fun j => (gcd' (gcd' (fun r h => by cases h; first | exact (by decide : ((34, 0) : gNm) ∈ gnmL) | exact (by decide : ((34, 1) : gNm) ∈ gnmL) | decide) gcd0) (gcd' (fun r h => by cases h; first | exact (by decide : ((34, 0) : gNm) ∈ gnmL) | exact (by decide : ((34, 1) : gNm) ∈ gnmL) | decide) gcd0))
theorem gwg_53 (fm : Option gNm) : ∀ (j : Nat) (r : gNm), gRT (0, fm) 17 1 j = some r → r ∈ gnmL := gwf_53 fm
set_option maxRecDepth 100000 in
theorem gct_53 (dA : Nat → ClassId) (ad : gNm → Nat) (S : Nat) (xs : Nat → Int32) (fm : Option gNm) : gcont dA ad (gwd S (gI1 xs) gJ1 (0, fm)) (17, 1) = gcont dA ad (gK92 S xs fm) (17, 1) := rfl
theorem gwf_54 (fm : Option gNm) : ∀ (j : Nat) (r : gNm), gR50 (0, fm) 0 j = some r → r ∈ gnmL := fun j => (gcd' (gcd' (gcd' (gcd' (gcd' (gcd' (gcd' (gcd' (fun r h => by cases h; first | exact (by decide : ((34, 0) : gNm) ∈ gnmL) | exact (by decide : ((34, 1) : gNm) ∈ gnmL) | decide) gcd0) (gcd' (fun r h => by cases h; first | exact (by decide : ((34, 0) : gNm) ∈ gnmL) | exact (by decide : ((34, 1) : gNm) ∈ gnmL) | decide) gcd0)) (gcd' (fun r h => by cases h; first | exact (by decide : ((34, 0) : gNm) ∈ gnmL) | exact (by decide : ((34, 1) : gNm) ∈ gnmL) | decide) gcd0)) (gcd' (gcd' (fun r h => by cases h; first | exact (by decide : ((34, 0) : gNm) ∈ gnmL) | exact (by decide : ((34, 1) : gNm) ∈ gnmL) | decide) gcd0) (gcd' (fun r h => by cases h; first | exact (by decide : ((34, 0) : gNm) ∈ gnmL) | exact (by decide : ((34, 1) : gNm) ∈ gnmL) | decide) gcd0))) (gcd' (gcd' (gcd' (fun r h => by cases h; first | exact (by decide : ((34, 0) : gNm) ∈ gnmL) | exact (by decide : ((34, 1) : gNm) ∈ gnmL) | decide) gcd0) (gcd' (fun r h => by cases h; first | exact (by decide : ((34, 0) : gNm) ∈ gnmL) | exact (by decide : ((34, 1) : gNm) ∈ gnmL) | decide) gcd0)) (gcd' (gcd' (fun r h => by cases h; first | exact (by decide : ((34, 0) : gNm) ∈ gnmL) | exact (by decide : ((34, 1) : gNm) ∈ gnmL) | decide) gcd0) (gcd' (fun r h => by cases h; first | exact (by decide : ((34, 0) : gNm) ∈ gnmL) | exact (by decide : ((34, 1) : gNm) ∈ gnmL) | decide) gcd0)))) (gcd' (gcd' (gcd' (gcd' (gcd' (fun r h => by cases h; first | exact (by decide : ((34, 0) : gNm) ∈ gnmL) | exact (by decide : ((34, 1) : gNm) ∈ gnmL) | decide) gcd0) (gcd' (fun r h => by cases h; first | exact (by decide : ((34, 0) : gNm) ∈ gnmL) | exact (by decide : ((34, 1) : gNm) ∈ gnmL) | decide) gcd0)) (gcd' (fun r h => by cases h; first | exact (by decide : ((34, 0) : gNm) ∈ gnmL) | exact (by decide : ((34, 1) : gNm) ∈ gnmL) | decide) gcd0)) (gcd' (gcd' (fun r h => by cases h; first | exact (by decide : ((34, 0) : gNm) ∈ gnmL) | exact (by decide : ((34, 1) : gNm) ∈ gnmL) | decide) gcd0) (gcd' (fun r h => by cases h; first | exact (by decide : ((34, 0) : gNm) ∈ gnmL) | exact (by decide : ((34, 1) : gNm) ∈ gnmL) | decide) gcd0))) (gcd' (gcd' (gcd' (fun r h => by cases h; first | exact (by decide : ((34, 0) : gNm) ∈ gnmL) | exact (by decide : ((34, 1) : gNm) ∈ gnmL) | decide) gcd0) (gcd' (fun r h => by cases h; first | exact (by decide : ((34, 0) : gNm) ∈ gnmL) | exact (by decide : ((34, 1) : gNm) ∈ gnmL) | decide) gcd0)) (gcd' (gcd' (fun r h => by cases h; first | exact (by decide : ((34, 0) : gNm) ∈ gnmL) | exact (by decide : ((34, 1) : gNm) ∈ gnmL) | decide) gcd0) (gcd' (fun r h => by cases h; first | exact (by decide : ((34, 0) : gNm) ∈ gnmL) | exact (by decide : ((34, 1) : gNm) ∈ gnmL) | decide) gcd0))))) (gcd' (gcd' (gcd' (gcd' (gcd' (gcd' (fun r h => by cases h; first | exact (by decide : ((34, 0) : gNm) ∈ gnmL) | exact (by decide : ((34, 1) : gNm) ∈ gnmL) | decide) gcd0) (gcd' (fun r h => by cases h; first | exact (by decide : ((34, 0) : gNm) ∈ gnmL) | exact (by decide : ((34, 1) : gNm) ∈ gnmL) | decide) gcd0)) (gcd' (fun r h => by cases h; first | exact (by decide : ((34, 0) : gNm) ∈ gnmL) | exact (by decide : ((34, 1) : gNm) ∈ gnmL) | decide) gcd0)) (gcd' (gcd' (fun r h => by cases h; first | exact (by decide : ((34, 0) : gNm) ∈ gnmL) | exact (by decide : ((34, 1) : gNm) ∈ gnmL) | decide) gcd0) (gcd' (fun r h => by cases h; first | exact (by decide : ((34, 0) : gNm) ∈ gnmL) | exact (by decide : ((34, 1) : gNm) ∈ gnmL) | decide) gcd0))) (gcd' (gcd' (gcd' (fun r h => by cases h; first | exact (by decide : ((34, 0) : gNm) ∈ gnmL) | exact (by decide : ((34, 1) : gNm) ∈ gnmL) | decide) gcd0) (gcd' (fun r h => by cases h; first | exact (by decide : ((34, 0) : gNm) ∈ gnmL) | exact (by decide : ((34, 1) : gNm) ∈ gnmL) | decide) gcd0)) (gcd' (gcd' (fun r h => by cases h; first | exact (by decide : ((34, 0) : gNm) ∈ gnmL) | exact (by decide : ((34, 1) : gNm) ∈ gnmL) | decide) gcd0) (gcd' (fun r h => by cases h; first | exact (by decide : ((34, 0) : gNm) ∈ gnmL) | exact (by decide : ((34, 1) : gNm) ∈ gnmL) | decide) gcd0)))) (gcd' (gcd' (gcd' (gcd' (gcd' (fun r h => by cases h; first | exact (by decide : ((34, 0) : gNm) ∈ gnmL) | exact (by decide : ((34, 1) : gNm) ∈ gnmL) | decide) gcd0) (gcd' (fun r h => by cases h; first | exact (by decide : ((34, 0) : gNm) ∈ gnmL) | exact (by decide : ((34, 1) : gNm) ∈ gnmL) | decide) gcd0)) (gcd' (fun r h => by cases h; first | exact (by decide : ((34, 0) : gNm) ∈ gnmL) | exact (by decide : ((34, 1) : gNm) ∈ gnmL) | decide) gcd0)) (gcd' (gcd' (fun r h => by cases h; first | exact (by decide : ((34, 0) : gNm) ∈ gnmL) | exact (by decide : ((34, 1) : gNm) ∈ gnmL) | decide) gcd0) (gcd' (fun r h => by cases h; first | exact (by decide : ((34, 0) : gNm) ∈ gnmL) | exact (by decide : ((34, 1) : gNm) ∈ gnmL) | decide) gcd0))) (gcd' (gcd' (gcd' (fun r h => by cases h; first | exact (by decide : ((34, 0) : gNm) ∈ gnmL) | exact (by decide : ((34, 1) : gNm) ∈ gnmL) | decide) gcd0) (gcd' (fun r h => by cases h; first | exact (by decide : ((34, 0) : gNm) ∈ gnmL) | exact (by decide : ((34, 1) : gNm) ∈ gnmL) | decide) gcd0)) (gcd' (gcd' (fun r h => by cases h; first | exact (by decide : ((34, 0) : gNm) ∈ gnmL) | exact (by decide : ((34, 1) : gNm) ∈ gnmL) | decide) gcd0) (gcd' (fun r h => by cases h; first | exact (by decide : ((34, 0) : gNm) ∈ gnmL) | exact (by decide : ((34, 1) : gNm) ∈ gnmL) | decide) gcd0)))))) (gcd' (gcd' (gcd' (gcd' (gcd' (gcd' (gcd' (fun r h => by cases h; first | exact (by decide : ((34, 0) : gNm) ∈ gnmL) | exact (by decide : ((34, 1) : gNm) ∈ gnmL) | decide) gcd0) (gcd' (fun r h => by cases h; first | exact (by decide : ((34, 0) : gNm) ∈ gnmL) | exact (by decide : ((34, 1) : gNm) ∈ gnmL) | decide) gcd0)) (gcd' (fun r h => by cases h; first | exact (by decide : ((34, 0) : gNm) ∈ gnmL) | exact (by decide : ((34, 1) : gNm) ∈ gnmL) | decide) gcd0)) (gcd' (gcd' (fun r h => by cases h; first | exact (by decide : ((34, 0) : gNm) ∈ gnmL) | exact (by decide : ((34, 1) : gNm) ∈ gnmL) | decide) gcd0) (gcd' (fun r h => by cases h; first | exact (by decide : ((34, 0) : gNm) ∈ gnmL) | exact (by decide : ((34, 1) : gNm) ∈ gnmL) | decide) gcd0))) (gcd' (gcd' (gcd' (fun r h => by cases h; first | exact (by decide : ((34, 0) : gNm) ∈ gnmL) | exact (by decide : ((34, 1) : gNm) ∈ gnmL) | decide) gcd0) (gcd' (fun r h => by cases h; first | exact (by decide : ((34, 0) : gNm) ∈ gnmL) | exact (by decide : ((34, 1) : gNm) ∈ gnmL) | decide) gcd0)) (gcd' (gcd' (fun r h => by cases h; first | exact (by decide : ((34, 0) : gNm) ∈ gnmL) | exact (by decide : ((34, 1) : gNm) ∈ gnmL) | decide) gcd0) (gcd' (fun r h => by cases h; first | exact (by decide : ((34, 0) : gNm) ∈ gnmL) | exact (by decide : ((34, 1) : gNm) ∈ gnmL) | decide) gcd0)))) (gcd' (gcd' (gcd' (gcd' (gcd' (fun r h => by cases h; first | exact (by decide : ((34, 0) : gNm) ∈ gnmL) | exact (by decide : ((34, 1) : gNm) ∈ gnmL) | decide) gcd0) (gcd' (fun r h => by cases h; first | exact (by decide : ((34, 0) : gNm) ∈ gnmL) | exact (by decide : ((34, 1) : gNm) ∈ gnmL) | decide) gcd0)) (gcd' (fun r h => by cases h; first | exact (by decide : ((34, 0) : gNm) ∈ gnmL) | exact (by decide : ((34, 1) : gNm) ∈ gnmL) | decide) gcd0)) (gcd' (gcd' (fun r h => by cases h; first | exact (by decide : ((34, 0) : gNm) ∈ gnmL) | exact (by decide : ((34, 1) : gNm) ∈ gnmL) | decide) gcd0) (gcd' (fun r h => by cases h; first | exact (by decide : ((34, 0) : gNm) ∈ gnmL) | exact (by decide : ((34, 1) : gNm) ∈ gnmL) | decide) gcd0))) (gcd' (gcd' (gcd' (fun r h => by cases h; first | exact (by decide : ((34, 0) : gNm) ∈ gnmL) | exact (by decide : ((34, 1) : gNm) ∈ gnmL) | decide) gcd0) (gcd' (fun r h => by cases h; first | exact (by decide : ((34, 0) : gNm) ∈ gnmL) | exact (by decide : ((34, 1) : gNm) ∈ gnmL) | decide) gcd0)) (gcd' (gcd' (fun r h => by cases h; first | exact (by decide : ((34, 0) : gNm) ∈ gnmL) | exact (by decide : ((34, 1) : gNm) ∈ gnmL) | decide) gcd0) (gcd' (fun r h => by cases h; first | exact (by decide : ((34, 0) : gNm) ∈ gnmL) | exact (by decide : ((34, 1) : gNm) ∈ gnmL) | decide) gcd0))))) (gcd' (gcd' (gcd' (gcd' (gcd' (gcd' (fun r h => by cases h; first | exact (by decide : ((34, 0) : gNm) ∈ gnmL) | exact (by decide : ((34, 1) : gNm) ∈ gnmL) | decide) gcd0) (gcd' (fun r h => by cases h; first | exact (by decide : ((34, 0) : gNm) ∈ gnmL) | exact (by decide : ((34, 1) : gNm) ∈ gnmL) | decide) gcd0)) (gcd' (fun r h => by cases h; first | exact (by decide : ((34, 0) : gNm) ∈ gnmL) | exact (by decide : ((34, 1) : gNm) ∈ gnmL) | decide) gcd0)) (gcd' (gcd' (fun r h => by cases h; first | exact (by decide : ((34, 0) : gNm) ∈ gnmL) | exact (by decide : ((34, 1) : gNm) ∈ gnmL) | decide) gcd0) (gcd' (fun r h => by cases h; first | exact (by decide : ((34, 0) : gNm) ∈ gnmL) | exact (by decide : ((34, 1) : gNm) ∈ gnmL) | decide) gcd0))) (gcd' (gcd' (gcd' (fun r h => by cases h; first | exact (by decide : ((34, 0) : gNm) ∈ gnmL) | exact (by decide : ((34, 1) : gNm) ∈ gnmL) | decide) gcd0) (gcd' (fun r h => by cases h; first | exact (by decide : ((34, 0) : gNm) ∈ gnmL) | exact (by decide : ((34, 1) : gNm) ∈ gnmL) | decide) gcd0)) (gcd' (gcd' (fun r h => by cases h; first | exact (by decide : ((34, 0) : gNm) ∈ gnmL) | exact (by decide : ((34, 1) : gNm) ∈ gnmL) | decide) gcd0) (gcd' (fun r h => by cases h; first | exact (by decide : ((34, 0) : gNm) ∈ gnmL) | exact (by decide : ((34, 1) : gNm) ∈ gnmL) | decide) gcd0)))) (gcd' (gcd' (gcd' (gcd' (gcd' (fun r h => by cases h; first | exact (by decide : ((34, 0) : gNm) ∈ gnmL) | exact (by decide : ((34, 1) : gNm) ∈ gnmL) | decide) gcd0) (gcd' (fun r h => by cases h; first | exact (by decide : ((34, 0) : gNm) ∈ gnmL) | exact (by decide : ((34, 1) : gNm) ∈ gnmL) | decide) gcd0)) (gcd' (fun r h => by cases h; first | exact (by decide : ((34, 0) : gNm) ∈ gnmL) | exact (by decide : ((34, 1) : gNm) ∈ gnmL) | decide) gcd0)) (gcd' (gcd' (fun r h => by cases h; first | exact (by decide : ((34, 0) : gNm) ∈ gnmL) | exact (by decide : ((34, 1) : gNm) ∈ gnmL) | decide) gcd0) (gcd' (fun r h => by cases h; first | exact (by decide : ((34, 0) : gNm) ∈ gnmL) | exact (by decide : ((34, 1) : gNm) ∈ gnmL) | decide) gcd0))) (gcd' (gcd' (gcd' (fun r h => by cases h; first | exact (by decide : ((34, 0) : gNm) ∈ gnmL) | exact (by decide : ((34, 1) : gNm) ∈ gnmL) | decide) gcd0) (gcd' (fun r h => by cases h; first | exact (by decide : ((34, 0) : gNm) ∈ gnmL) | exact (by decide : ((34, 1) : gNm) ∈ gnmL) | decide) gcd0)) (gcd' (gcd' (fun r h => by cases h; first | exact (by decide : ((34, 0) : gNm) ∈ gnmL) | exact (by decide : ((34, 1) : gNm) ∈ gnmL) | decide) gcd0) (gcd' (fun r h => by cases h; first | exact (by decide : ((34, 0) : gNm) ∈ gnmL) | exact (by decide : ((34, 1) : gNm) ∈ gnmL) | decide) gcd0)))))))
theorem gwg_54 (fm : Option gNm) : ∀ (j : Nat) (r : gNm), gRT (0, fm) 50 0 j = some r → r ∈ gnmL := gwf_54 fm
set_option maxRecDepth 100000 in
theorem gct_54 (dA : Nat → ClassId) (ad : gNm → Nat) (S : Nat) (xs : Nat → Int32) (fm : Option gNm) : gcont dA ad (gwd S (gI1 xs) gJ1 (0, fm)) (50, 0) = gcont dA ad (gK92 S xs fm) (50, 0) := rfl
theorem gwg_55 (fm : Option gNm) : ∀ (j : Nat) (r : gNm), gRT (0, fm) 51 0 j = some r → r ∈ gnmL := fun j r h => by cases h
set_option maxRecDepth 100000 in
theorem gct_55 (dA : Nat → ClassId) (ad : gNm → Nat) (S : Nat) (xs : Nat → Int32) (fm : Option gNm) : gcont dA ad (gwd S (gI1 xs) gJ1 (0, fm)) (51, 0) = gcont dA ad (gK92 S xs fm) (51, 0) := rfl
theorem gwg_56 (fm : Option gNm) : ∀ (j : Nat) (r : gNm), gRT (0, fm) 52 0 j = some r → r ∈ gnmL := fun j r h => by cases h
set_option maxRecDepth 100000 in
theorem gct_56 (dA : Nat → ClassId) (ad : gNm → Nat) (S : Nat) (xs : Nat → Int32) (fm : Option gNm) : gcont dA ad (gwd S (gI1 xs) gJ1 (0, fm)) (52, 0) = gcont dA ad (gK92 S xs fm) (52, 0) := rfl
theorem gwg_57 (fm : Option gNm) : ∀ (j : Nat) (r : gNm), gRT (0, fm) 53 0 j = some r → r ∈ gnmL := fun j r h => by cases h
set_option maxRecDepth 100000 in
theorem gct_57 (dA : Nat → ClassId) (ad : gNm → Nat) (S : Nat) (xs : Nat → Int32) (fm : Option gNm) : gcont dA ad (gwd S (gI1 xs) gJ1 (0, fm)) (53, 0) = gcont dA ad (gK92 S xs fm) (53, 0) := by
  refine congrArg (fun f : Nat → Int32 => (Sum.inl (dA 4, 6, .inl f) : va_E)) (funext fun j => ?_)
  match j with
  | 0 => rfl
  | 1 => rfl
  | 2 => rfl
  | 3 => rfl
  | 4 => rfl
  | 5 => rfl
  | _ + 6 => rfl
theorem gwg_58 (fm : Option gNm) : ∀ (j : Nat) (r : gNm), gRT (0, fm) 53 1 j = some r → r ∈ gnmL := fun j r h => by cases h
set_option maxRecDepth 100000 in
theorem gct_58 (dA : Nat → ClassId) (ad : gNm → Nat) (S : Nat) (xs : Nat → Int32) (fm : Option gNm) : gcont dA ad (gwd S (gI1 xs) gJ1 (0, fm)) (53, 1) = gcont dA ad (gK92 S xs fm) (53, 1) := by
  refine congrArg (fun f : Nat → Int32 => (Sum.inl (dA 4, 6, .inl f) : va_E)) (funext fun j => ?_)
  match j with
  | 0 => rfl
  | 1 => rfl
  | 2 => rfl
  | 3 => rfl
  | 4 => rfl
  | 5 => rfl
  | _ + 6 => rfl
theorem gwg_59 (fm : Option gNm) : ∀ (j : Nat) (r : gNm), gRT (0, fm) 53 2 j = some r → r ∈ gnmL := fun j r h => by cases h
set_option maxRecDepth 100000 in
theorem gct_59 (dA : Nat → ClassId) (ad : gNm → Nat) (S : Nat) (xs : Nat → Int32) (fm : Option gNm) : gcont dA ad (gwd S (gI1 xs) gJ1 (0, fm)) (53, 2) = gcont dA ad (gK92 S xs fm) (53, 2) := by
  refine congrArg (fun f : Nat → Int32 => (Sum.inl (dA 4, 2, .inl f) : va_E)) (funext fun j => ?_)
  match j with
  | 0 => rfl
  | 1 => rfl
  | _ + 2 => rfl
theorem gwg_60 (fm : Option gNm) : ∀ (j : Nat) (r : gNm), gRT (0, fm) 53 3 j = some r → r ∈ gnmL := fun j r h => by cases h
set_option maxRecDepth 100000 in
theorem gct_60 (dA : Nat → ClassId) (ad : gNm → Nat) (S : Nat) (xs : Nat → Int32) (fm : Option gNm) : gcont dA ad (gwd S (gI1 xs) gJ1 (0, fm)) (53, 3) = gcont dA ad (gK92 S xs fm) (53, 3) := by
  refine congrArg (fun f : Nat → Int32 => (Sum.inl (dA 4, 4, .inl f) : va_E)) (funext fun j => ?_)
  match j with
  | 0 => rfl
  | 1 => rfl
  | 2 => rfl
  | 3 => rfl
  | _ + 4 => rfl
theorem gwg_61 (fm : Option gNm) : ∀ (j : Nat) (r : gNm), gRT (0, fm) 53 4 j = some r → r ∈ gnmL := fun j r h => by cases h
set_option maxRecDepth 100000 in
theorem gct_61 (dA : Nat → ClassId) (ad : gNm → Nat) (S : Nat) (xs : Nat → Int32) (fm : Option gNm) : gcont dA ad (gwd S (gI1 xs) gJ1 (0, fm)) (53, 4) = gcont dA ad (gK92 S xs fm) (53, 4) := by
  refine congrArg (fun f : Nat → Int32 => (Sum.inl (dA 4, 5, .inl f) : va_E)) (funext fun j => ?_)
  match j with
  | 0 => rfl
  | 1 => rfl
  | 2 => rfl
  | 3 => rfl
  | 4 => rfl
  | _ + 5 => rfl
theorem gwg_62 (fm : Option gNm) : ∀ (j : Nat) (r : gNm), gRT (0, fm) 53 5 j = some r → r ∈ gnmL := fun j r h => by cases h
set_option maxRecDepth 100000 in
theorem gct_62 (dA : Nat → ClassId) (ad : gNm → Nat) (S : Nat) (xs : Nat → Int32) (fm : Option gNm) : gcont dA ad (gwd S (gI1 xs) gJ1 (0, fm)) (53, 5) = gcont dA ad (gK92 S xs fm) (53, 5) := by
  refine congrArg (fun f : Nat → Int32 => (Sum.inl (dA 4, 4, .inl f) : va_E)) (funext fun j => ?_)
  match j with
  | 0 => rfl
  | 1 => rfl
  | 2 => rfl
  | 3 => rfl
  | _ + 4 => rfl
theorem gwg_63 (fm : Option gNm) : ∀ (j : Nat) (r : gNm), gRT (0, fm) 53 6 j = some r → r ∈ gnmL := fun j r h => by cases h
set_option maxRecDepth 100000 in
theorem gct_63 (dA : Nat → ClassId) (ad : gNm → Nat) (S : Nat) (xs : Nat → Int32) (fm : Option gNm) : gcont dA ad (gwd S (gI1 xs) gJ1 (0, fm)) (53, 6) = gcont dA ad (gK92 S xs fm) (53, 6) := by
  refine congrArg (fun f : Nat → Int32 => (Sum.inl (dA 4, 4, .inl f) : va_E)) (funext fun j => ?_)
  match j with
  | 0 => rfl
  | 1 => rfl
  | 2 => rfl
  | 3 => rfl
  | _ + 4 => rfl
theorem gwg_64 (fm : Option gNm) : ∀ (j : Nat) (r : gNm), gRT (0, fm) 53 7 j = some r → r ∈ gnmL := fun j r h => by cases h
set_option maxRecDepth 100000 in
theorem gct_64 (dA : Nat → ClassId) (ad : gNm → Nat) (S : Nat) (xs : Nat → Int32) (fm : Option gNm) : gcont dA ad (gwd S (gI1 xs) gJ1 (0, fm)) (53, 7) = gcont dA ad (gK92 S xs fm) (53, 7) := by
  refine congrArg (fun f : Nat → Int32 => (Sum.inl (dA 4, 5, .inl f) : va_E)) (funext fun j => ?_)
  match j with
  | 0 => rfl
  | 1 => rfl
  | 2 => rfl
  | 3 => rfl
  | 4 => rfl
  | _ + 5 => rfl
theorem gwg_65 (fm : Option gNm) : ∀ (j : Nat) (r : gNm), gRT (0, fm) 53 8 j = some r → r ∈ gnmL := fun j r h => by cases h
set_option maxRecDepth 100000 in
theorem gct_65 (dA : Nat → ClassId) (ad : gNm → Nat) (S : Nat) (xs : Nat → Int32) (fm : Option gNm) : gcont dA ad (gwd S (gI1 xs) gJ1 (0, fm)) (53, 8) = gcont dA ad (gK92 S xs fm) (53, 8) := by
  refine congrArg (fun f : Nat → Int32 => (Sum.inl (dA 4, 5, .inl f) : va_E)) (funext fun j => ?_)
  match j with
  | 0 => rfl
  | 1 => rfl
  | 2 => rfl
  | 3 => rfl
  | 4 => rfl
  | _ + 5 => rfl
theorem gwg_66 (fm : Option gNm) : ∀ (j : Nat) (r : gNm), gRT (0, fm) 53 9 j = some r → r ∈ gnmL := fun j r h => by cases h
set_option maxRecDepth 100000 in
theorem gct_66 (dA : Nat → ClassId) (ad : gNm → Nat) (S : Nat) (xs : Nat → Int32) (fm : Option gNm) : gcont dA ad (gwd S (gI1 xs) gJ1 (0, fm)) (53, 9) = gcont dA ad (gK92 S xs fm) (53, 9) := by
  refine congrArg (fun f : Nat → Int32 => (Sum.inl (dA 4, 5, .inl f) : va_E)) (funext fun j => ?_)
  match j with
  | 0 => rfl
  | 1 => rfl
  | 2 => rfl
  | 3 => rfl
  | 4 => rfl
  | _ + 5 => rfl
theorem gwg_67 (fm : Option gNm) : ∀ (j : Nat) (r : gNm), gRT (0, fm) 53 10 j = some r → r ∈ gnmL := fun j r h => by cases h
set_option maxRecDepth 100000 in
theorem gct_67 (dA : Nat → ClassId) (ad : gNm → Nat) (S : Nat) (xs : Nat → Int32) (fm : Option gNm) : gcont dA ad (gwd S (gI1 xs) gJ1 (0, fm)) (53, 10) = gcont dA ad (gK92 S xs fm) (53, 10) := by
  refine congrArg (fun f : Nat → Int32 => (Sum.inl (dA 4, 4, .inl f) : va_E)) (funext fun j => ?_)
  match j with
  | 0 => rfl
  | 1 => rfl
  | 2 => rfl
  | 3 => rfl
  | _ + 4 => rfl
theorem gwg_68 (fm : Option gNm) : ∀ (j : Nat) (r : gNm), gRT (0, fm) 53 11 j = some r → r ∈ gnmL := fun j r h => by cases h
set_option maxRecDepth 100000 in
theorem gct_68 (dA : Nat → ClassId) (ad : gNm → Nat) (S : Nat) (xs : Nat → Int32) (fm : Option gNm) : gcont dA ad (gwd S (gI1 xs) gJ1 (0, fm)) (53, 11) = gcont dA ad (gK92 S xs fm) (53, 11) := by
  refine congrArg (fun f : Nat → Int32 => (Sum.inl (dA 4, 8, .inl f) : va_E)) (funext fun j => ?_)
  match j with
  | 0 => rfl
  | 1 => rfl
  | 2 => rfl
  | 3 => rfl
  | 4 => rfl
  | 5 => rfl
  | 6 => rfl
  | 7 => rfl
  | _ + 8 => rfl
theorem gwg_69 (fm : Option gNm) : ∀ (j : Nat) (r : gNm), gRT (0, fm) 53 12 j = some r → r ∈ gnmL := fun j r h => by cases h
set_option maxRecDepth 100000 in
theorem gct_69 (dA : Nat → ClassId) (ad : gNm → Nat) (S : Nat) (xs : Nat → Int32) (fm : Option gNm) : gcont dA ad (gwd S (gI1 xs) gJ1 (0, fm)) (53, 12) = gcont dA ad (gK92 S xs fm) (53, 12) := by
  refine congrArg (fun f : Nat → Int32 => (Sum.inl (dA 4, 4, .inl f) : va_E)) (funext fun j => ?_)
  match j with
  | 0 => rfl
  | 1 => rfl
  | 2 => rfl
  | 3 => rfl
  | _ + 4 => rfl
theorem gwg_70 (fm : Option gNm) : ∀ (j : Nat) (r : gNm), gRT (0, fm) 53 13 j = some r → r ∈ gnmL := fun j r h => by cases h
set_option maxRecDepth 100000 in
theorem gct_70 (dA : Nat → ClassId) (ad : gNm → Nat) (S : Nat) (xs : Nat → Int32) (fm : Option gNm) : gcont dA ad (gwd S (gI1 xs) gJ1 (0, fm)) (53, 13) = gcont dA ad (gK92 S xs fm) (53, 13) := by
  refine congrArg (fun f : Nat → Int32 => (Sum.inl (dA 4, 4, .inl f) : va_E)) (funext fun j => ?_)
  match j with
  | 0 => rfl
  | 1 => rfl
  | 2 => rfl
  | 3 => rfl
  | _ + 4 => rfl
theorem gwg_71 (fm : Option gNm) : ∀ (j : Nat) (r : gNm), gRT (0, fm) 53 14 j = some r → r ∈ gnmL := fun j r h => by cases h
set_option maxRecDepth 100000 in
theorem gct_71 (dA : Nat → ClassId) (ad : gNm → Nat) (S : Nat) (xs : Nat → Int32) (fm : Option gNm) : gcont dA ad (gwd S (gI1 xs) gJ1 (0, fm)) (53, 14) = gcont dA ad (gK92 S xs fm) (53, 14) := by
  refine congrArg (fun f : Nat → Int32 => (Sum.inl (dA 4, 6, .inl f) : va_E)) (funext fun j => ?_)
  match j with
  | 0 => rfl
  | 1 => rfl
  | 2 => rfl
  | 3 => rfl
  | 4 => rfl
  | 5 => rfl
  | _ + 6 => rfl
theorem gwg_72 (fm : Option gNm) : ∀ (j : Nat) (r : gNm), gRT (0, fm) 53 15 j = some r → r ∈ gnmL := fun j r h => by cases h
set_option maxRecDepth 100000 in
theorem gct_72 (dA : Nat → ClassId) (ad : gNm → Nat) (S : Nat) (xs : Nat → Int32) (fm : Option gNm) : gcont dA ad (gwd S (gI1 xs) gJ1 (0, fm)) (53, 15) = gcont dA ad (gK92 S xs fm) (53, 15) := by
  refine congrArg (fun f : Nat → Int32 => (Sum.inl (dA 4, 3, .inl f) : va_E)) (funext fun j => ?_)
  match j with
  | 0 => rfl
  | 1 => rfl
  | 2 => rfl
  | _ + 3 => rfl
theorem gwg_73 (fm : Option gNm) : ∀ (j : Nat) (r : gNm), gRT (0, fm) 53 16 j = some r → r ∈ gnmL := fun j r h => by cases h
set_option maxRecDepth 100000 in
theorem gct_73 (dA : Nat → ClassId) (ad : gNm → Nat) (S : Nat) (xs : Nat → Int32) (fm : Option gNm) : gcont dA ad (gwd S (gI1 xs) gJ1 (0, fm)) (53, 16) = gcont dA ad (gK92 S xs fm) (53, 16) := by
  refine congrArg (fun f : Nat → Int32 => (Sum.inl (dA 4, 3, .inl f) : va_E)) (funext fun j => ?_)
  match j with
  | 0 => rfl
  | 1 => rfl
  | 2 => rfl
  | _ + 3 => rfl
theorem gwg_74 (fm : Option gNm) : ∀ (j : Nat) (r : gNm), gRT (0, fm) 53 17 j = some r → r ∈ gnmL := fun j r h => by cases h
set_option maxRecDepth 100000 in
theorem gct_74 (dA : Nat → ClassId) (ad : gNm → Nat) (S : Nat) (xs : Nat → Int32) (fm : Option gNm) : gcont dA ad (gwd S (gI1 xs) gJ1 (0, fm)) (53, 17) = gcont dA ad (gK92 S xs fm) (53, 17) := by
  refine congrArg (fun f : Nat → Int32 => (Sum.inl (dA 4, 6, .inl f) : va_E)) (funext fun j => ?_)
  match j with
  | 0 => rfl
  | 1 => rfl
  | 2 => rfl
  | 3 => rfl
  | 4 => rfl
  | 5 => rfl
  | _ + 6 => rfl
theorem gwg_75 (fm : Option gNm) : ∀ (j : Nat) (r : gNm), gRT (0, fm) 53 18 j = some r → r ∈ gnmL := fun j r h => by cases h
set_option maxRecDepth 100000 in
theorem gct_75 (dA : Nat → ClassId) (ad : gNm → Nat) (S : Nat) (xs : Nat → Int32) (fm : Option gNm) : gcont dA ad (gwd S (gI1 xs) gJ1 (0, fm)) (53, 18) = gcont dA ad (gK92 S xs fm) (53, 18) := by
  refine congrArg (fun f : Nat → Int32 => (Sum.inl (dA 4, 6, .inl f) : va_E)) (funext fun j => ?_)
  match j with
  | 0 => rfl
  | 1 => rfl
  | 2 => rfl
  | 3 => rfl
  | 4 => rfl
  | 5 => rfl
  | _ + 6 => rfl
theorem gwg_76 (fm : Option gNm) : ∀ (j : Nat) (r : gNm), gRT (0, fm) 53 19 j = some r → r ∈ gnmL := fun j r h => by cases h
set_option maxRecDepth 100000 in
theorem gct_76 (dA : Nat → ClassId) (ad : gNm → Nat) (S : Nat) (xs : Nat → Int32) (fm : Option gNm) : gcont dA ad (gwd S (gI1 xs) gJ1 (0, fm)) (53, 19) = gcont dA ad (gK92 S xs fm) (53, 19) := by
  refine congrArg (fun f : Nat → Int32 => (Sum.inl (dA 4, 3, .inl f) : va_E)) (funext fun j => ?_)
  match j with
  | 0 => rfl
  | 1 => rfl
  | 2 => rfl
  | _ + 3 => rfl
theorem gwg_77 (fm : Option gNm) : ∀ (j : Nat) (r : gNm), gRT (0, fm) 53 20 j = some r → r ∈ gnmL := fun j r h => by cases h
set_option maxRecDepth 100000 in
theorem gct_77 (dA : Nat → ClassId) (ad : gNm → Nat) (S : Nat) (xs : Nat → Int32) (fm : Option gNm) : gcont dA ad (gwd S (gI1 xs) gJ1 (0, fm)) (53, 20) = gcont dA ad (gK92 S xs fm) (53, 20) := by
  refine congrArg (fun f : Nat → Int32 => (Sum.inl (dA 4, 4, .inl f) : va_E)) (funext fun j => ?_)
  match j with
  | 0 => rfl
  | 1 => rfl
  | 2 => rfl
  | 3 => rfl
  | _ + 4 => rfl
theorem gwg_78 (fm : Option gNm) : ∀ (j : Nat) (r : gNm), gRT (0, fm) 53 21 j = some r → r ∈ gnmL := fun j r h => by cases h
set_option maxRecDepth 100000 in
theorem gct_78 (dA : Nat → ClassId) (ad : gNm → Nat) (S : Nat) (xs : Nat → Int32) (fm : Option gNm) : gcont dA ad (gwd S (gI1 xs) gJ1 (0, fm)) (53, 21) = gcont dA ad (gK92 S xs fm) (53, 21) := by
  refine congrArg (fun f : Nat → Int32 => (Sum.inl (dA 4, 2, .inl f) : va_E)) (funext fun j => ?_)
  match j with
  | 0 => rfl
  | 1 => rfl
  | _ + 2 => rfl
theorem gwg_79 (fm : Option gNm) : ∀ (j : Nat) (r : gNm), gRT (0, fm) 53 22 j = some r → r ∈ gnmL := fun j r h => by cases h
set_option maxRecDepth 100000 in
theorem gct_79 (dA : Nat → ClassId) (ad : gNm → Nat) (S : Nat) (xs : Nat → Int32) (fm : Option gNm) : gcont dA ad (gwd S (gI1 xs) gJ1 (0, fm)) (53, 22) = gcont dA ad (gK92 S xs fm) (53, 22) := by
  refine congrArg (fun f : Nat → Int32 => (Sum.inl (dA 4, 3, .inl f) : va_E)) (funext fun j => ?_)
  match j with
  | 0 => rfl
  | 1 => rfl
  | 2 => rfl
  | _ + 3 => rfl
theorem gwg_80 (fm : Option gNm) : ∀ (j : Nat) (r : gNm), gRT (0, fm) 53 23 j = some r → r ∈ gnmL := fun j r h => by cases h
set_option maxRecDepth 100000 in
theorem gct_80 (dA : Nat → ClassId) (ad : gNm → Nat) (S : Nat) (xs : Nat → Int32) (fm : Option gNm) : gcont dA ad (gwd S (gI1 xs) gJ1 (0, fm)) (53, 23) = gcont dA ad (gK92 S xs fm) (53, 23) := by
  refine congrArg (fun f : Nat → Int32 => (Sum.inl (dA 4, 3, .inl f) : va_E)) (funext fun j => ?_)
  match j with
  | 0 => rfl
  | 1 => rfl
  | 2 => rfl
  | _ + 3 => rfl
theorem gwg_81 (fm : Option gNm) : ∀ (j : Nat) (r : gNm), gRT (0, fm) 53 24 j = some r → r ∈ gnmL := fun j r h => by cases h
set_option maxRecDepth 100000 in
theorem gct_81 (dA : Nat → ClassId) (ad : gNm → Nat) (S : Nat) (xs : Nat → Int32) (fm : Option gNm) : gcont dA ad (gwd S (gI1 xs) gJ1 (0, fm)) (53, 24) = gcont dA ad (gK92 S xs fm) (53, 24) := by
  refine congrArg (fun f : Nat → Int32 => (Sum.inl (dA 4, 3, .inl f) : va_E)) (funext fun j => ?_)
  match j with
  | 0 => rfl
  | 1 => rfl
  | 2 => rfl
  | _ + 3 => rfl
theorem gwg_82 (fm : Option gNm) : ∀ (j : Nat) (r : gNm), gRT (0, fm) 53 25 j = some r → r ∈ gnmL := fun j r h => by cases h
set_option maxRecDepth 100000 in
theorem gct_82 (dA : Nat → ClassId) (ad : gNm → Nat) (S : Nat) (xs : Nat → Int32) (fm : Option gNm) : gcont dA ad (gwd S (gI1 xs) gJ1 (0, fm)) (53, 25) = gcont dA ad (gK92 S xs fm) (53, 25) := by
  refine congrArg (fun f : Nat → Int32 => (Sum.inl (dA 4, 3, .inl f) : va_E)) (funext fun j => ?_)
  match j with
  | 0 => rfl
  | 1 => rfl
  | 2 => rfl
  | _ + 3 => rfl
theorem gwg_83 (fm : Option gNm) : ∀ (j : Nat) (r : gNm), gRT (0, fm) 53 26 j = some r → r ∈ gnmL := fun j r h => by cases h
set_option maxRecDepth 100000 in
theorem gct_83 (dA : Nat → ClassId) (ad : gNm → Nat) (S : Nat) (xs : Nat → Int32) (fm : Option gNm) : gcont dA ad (gwd S (gI1 xs) gJ1 (0, fm)) (53, 26) = gcont dA ad (gK92 S xs fm) (53, 26) := by
  refine congrArg (fun f : Nat → Int32 => (Sum.inl (dA 4, 3, .inl f) : va_E)) (funext fun j => ?_)
  match j with
  | 0 => rfl
  | 1 => rfl
  | 2 => rfl
  | _ + 3 => rfl
theorem gwg_84 (fm : Option gNm) : ∀ (j : Nat) (r : gNm), gRT (0, fm) 54 0 j = some r → r ∈ gnmL := fun j r h => by cases h
set_option maxRecDepth 100000 in
theorem gct_84 (dA : Nat → ClassId) (ad : gNm → Nat) (S : Nat) (xs : Nat → Int32) (fm : Option gNm) : gcont dA ad (gwd S (gI1 xs) gJ1 (0, fm)) (54, 0) = gcont dA ad (gK92 S xs fm) (54, 0) := rfl
theorem gwg_85 (fm : Option gNm) : ∀ (j : Nat) (r : gNm), gRT (0, fm) 55 0 j = some r → r ∈ gnmL := fun j r h => by cases h
set_option maxRecDepth 100000 in
theorem gct_85 (dA : Nat → ClassId) (ad : gNm → Nat) (S : Nat) (xs : Nat → Int32) (fm : Option gNm) : gcont dA ad (gwd S (gI1 xs) gJ1 (0, fm)) (55, 0) = gcont dA ad (gK92 S xs fm) (55, 0) := rfl
theorem gwg_86 (fm : Option gNm) : ∀ (j : Nat) (r : gNm), gRT (0, fm) 56 0 j = some r → r ∈ gnmL := fun j r h => by cases h
set_option maxRecDepth 100000 in
theorem gct_86 (dA : Nat → ClassId) (ad : gNm → Nat) (S : Nat) (xs : Nat → Int32) (fm : Option gNm) : gcont dA ad (gwd S (gI1 xs) gJ1 (0, fm)) (56, 0) = gcont dA ad (gK92 S xs fm) (56, 0) := rfl
theorem gwg_87 (fm : Option gNm) : ∀ (j : Nat) (r : gNm), gRT (0, fm) 57 0 j = some r → r ∈ gnmL := fun j r h => by cases h
set_option maxRecDepth 100000 in
theorem gct_87 (dA : Nat → ClassId) (ad : gNm → Nat) (S : Nat) (xs : Nat → Int32) (fm : Option gNm) : gcont dA ad (gwd S (gI1 xs) gJ1 (0, fm)) (57, 0) = gcont dA ad (gK92 S xs fm) (57, 0) := rfl
theorem gwg_88 (fm : Option gNm) : ∀ (j : Nat) (r : gNm), gRT (0, fm) 58 0 j = some r → r ∈ gnmL := fun j r h => by cases h
set_option maxRecDepth 100000 in
theorem gct_88 (dA : Nat → ClassId) (ad : gNm → Nat) (S : Nat) (xs : Nat → Int32) (fm : Option gNm) : gcont dA ad (gwd S (gI1 xs) gJ1 (0, fm)) (58, 0) = gcont dA ad (gK92 S xs fm) (58, 0) := by
  refine congrArg (fun f : Nat → Int32 => (Sum.inl (dA 0, 6, .inl f) : va_E)) (funext fun j => ?_)
  match j with
  | 0 => rfl
  | 1 => rfl
  | 2 => rfl
  | 3 => rfl
  | 4 => rfl
  | 5 => rfl
  | _ + 6 => rfl
theorem gwg_89 (fm : Option gNm) : ∀ (j : Nat) (r : gNm), gRT (0, fm) 59 0 j = some r → r ∈ gnmL := fun j r h => by cases h
set_option maxRecDepth 100000 in
theorem gct_89 (dA : Nat → ClassId) (ad : gNm → Nat) (S : Nat) (xs : Nat → Int32) (fm : Option gNm) : gcont dA ad (gwd S (gI1 xs) gJ1 (0, fm)) (59, 0) = gcont dA ad (gK92 S xs fm) (59, 0) := rfl
theorem gwg_90 (fm : Option gNm) : ∀ (j : Nat) (r : gNm), gRT (0, fm) 60 0 j = some r → r ∈ gnmL := fun j r h => by cases h
set_option maxRecDepth 100000 in
theorem gct_90 (dA : Nat → ClassId) (ad : gNm → Nat) (S : Nat) (xs : Nat → Int32) (fm : Option gNm) : gcont dA ad (gwd S (gI1 xs) gJ1 (0, fm)) (60, 0) = gcont dA ad (gK92 S xs fm) (60, 0) := rfl
theorem gwg_91 (fm : Option gNm) : ∀ (j : Nat) (r : gNm), gRT (0, fm) 61 0 j = some r → r ∈ gnmL := fun j r h => by cases h
set_option maxRecDepth 100000 in
theorem gct_91 (dA : Nat → ClassId) (ad : gNm → Nat) (S : Nat) (xs : Nat → Int32) (fm : Option gNm) : gcont dA ad (gwd S (gI1 xs) gJ1 (0, fm)) (61, 0) = gcont dA ad (gK92 S xs fm) (61, 0) := rfl
theorem gwg_92 (fm : Option gNm) : ∀ (j : Nat) (r : gNm), gRT (0, fm) 62 0 j = some r → r ∈ gnmL := fun j r h => by cases h
set_option maxRecDepth 100000 in
theorem gct_92 (dA : Nat → ClassId) (ad : gNm → Nat) (S : Nat) (xs : Nat → Int32) (fm : Option gNm) : gcont dA ad (gwd S (gI1 xs) gJ1 (0, fm)) (62, 0) = gcont dA ad (gK92 S xs fm) (62, 0) := rfl
theorem gwg_93 (fm : Option gNm) : ∀ (j : Nat) (r : gNm), gRT (0, fm) 63 0 j = some r → r ∈ gnmL := fun j r h => by cases h
set_option maxRecDepth 100000 in
theorem gct_93 (dA : Nat → ClassId) (ad : gNm → Nat) (S : Nat) (xs : Nat → Int32) (fm : Option gNm) : gcont dA ad (gwd S (gI1 xs) gJ1 (0, fm)) (63, 0) = gcont dA ad (gK92 S xs fm) (63, 0) := rfl
theorem gwg_94 (fm : Option gNm) : ∀ (j : Nat) (r : gNm), gRT (0, fm) 64 0 j = some r → r ∈ gnmL := fun j r h => by cases h
set_option maxRecDepth 100000 in
theorem gct_94 (dA : Nat → ClassId) (ad : gNm → Nat) (S : Nat) (xs : Nat → Int32) (fm : Option gNm) : gcont dA ad (gwd S (gI1 xs) gJ1 (0, fm)) (64, 0) = gcont dA ad (gK92 S xs fm) (64, 0) := rfl
theorem gwg_95 (fm : Option gNm) : ∀ (j : Nat) (r : gNm), gRT (0, fm) 65 0 j = some r → r ∈ gnmL := fun j r h => by cases h
set_option maxRecDepth 100000 in
theorem gct_95 (dA : Nat → ClassId) (ad : gNm → Nat) (S : Nat) (xs : Nat → Int32) (fm : Option gNm) : gcont dA ad (gwd S (gI1 xs) gJ1 (0, fm)) (65, 0) = gcont dA ad (gK92 S xs fm) (65, 0) := rfl
theorem gwg_96 (fm : Option gNm) : ∀ (j : Nat) (r : gNm), gRT (0, fm) 66 0 j = some r → r ∈ gnmL := fun j r h => by cases h
set_option maxRecDepth 100000 in
theorem gct_96 (dA : Nat → ClassId) (ad : gNm → Nat) (S : Nat) (xs : Nat → Int32) (fm : Option gNm) : gcont dA ad (gwd S (gI1 xs) gJ1 (0, fm)) (66, 0) = gcont dA ad (gK92 S xs fm) (66, 0) := rfl
theorem gwg_97 (fm : Option gNm) : ∀ (j : Nat) (r : gNm), gRT (0, fm) 67 0 j = some r → r ∈ gnmL := fun j r h => by cases h
set_option maxRecDepth 100000 in
theorem gct_97 (dA : Nat → ClassId) (ad : gNm → Nat) (S : Nat) (xs : Nat → Int32) (fm : Option gNm) : gcont dA ad (gwd S (gI1 xs) gJ1 (0, fm)) (67, 0) = gcont dA ad (gK92 S xs fm) (67, 0) := rfl
theorem gwg_98 (fm : Option gNm) : ∀ (j : Nat) (r : gNm), gRT (0, fm) 53 27 j = some r → r ∈ gnmL := fun j r h => by cases h
set_option maxRecDepth 100000 in
theorem gct_98 (dA : Nat → ClassId) (ad : gNm → Nat) (S : Nat) (xs : Nat → Int32) (fm : Option gNm) : gcont dA ad (gwd S (gI1 xs) gJ1 (0, fm)) (53, 27) = gcont dA ad (gK92 S xs fm) (53, 27) := by
  refine congrArg (fun f : Nat → Int32 => (Sum.inl (dA 4, 5, .inl f) : va_E)) (funext fun j => ?_)
  match j with
  | 0 => rfl
  | 1 => rfl
  | 2 => rfl
  | 3 => rfl
  | 4 => rfl
  | _ + 5 => rfl
theorem gwg_99 (fm : Option gNm) : ∀ (j : Nat) (r : gNm), gRT (0, fm) 53 28 j = some r → r ∈ gnmL := fun j r h => by cases h
set_option maxRecDepth 100000 in
theorem gct_99 (dA : Nat → ClassId) (ad : gNm → Nat) (S : Nat) (xs : Nat → Int32) (fm : Option gNm) : gcont dA ad (gwd S (gI1 xs) gJ1 (0, fm)) (53, 28) = gcont dA ad (gK92 S xs fm) (53, 28) := by
  refine congrArg (fun f : Nat → Int32 => (Sum.inl (dA 4, 4, .inl f) : va_E)) (funext fun j => ?_)
  match j with
  | 0 => rfl
  | 1 => rfl
  | 2 => rfl
  | 3 => rfl
  | _ + 4 => rfl
theorem gwg_100 (fm : Option gNm) : ∀ (j : Nat) (r : gNm), gRT (0, fm) 53 29 j = some r → r ∈ gnmL := fun j r h => by cases h
set_option maxRecDepth 100000 in
theorem gct_100 (dA : Nat → ClassId) (ad : gNm → Nat) (S : Nat) (xs : Nat → Int32) (fm : Option gNm) : gcont dA ad (gwd S (gI1 xs) gJ1 (0, fm)) (53, 29) = gcont dA ad (gK92 S xs fm) (53, 29) := by
  refine congrArg (fun f : Nat → Int32 => (Sum.inl (dA 4, 5, .inl f) : va_E)) (funext fun j => ?_)
  match j with
  | 0 => rfl
  | 1 => rfl
  | 2 => rfl
  | 3 => rfl
  | 4 => rfl
  | _ + 5 => rfl
theorem gwg_101 (fm : Option gNm) : ∀ (j : Nat) (r : gNm), gRT (0, fm) 53 30 j = some r → r ∈ gnmL := fun j r h => by cases h
set_option maxRecDepth 100000 in
theorem gct_101 (dA : Nat → ClassId) (ad : gNm → Nat) (S : Nat) (xs : Nat → Int32) (fm : Option gNm) : gcont dA ad (gwd S (gI1 xs) gJ1 (0, fm)) (53, 30) = gcont dA ad (gK92 S xs fm) (53, 30) := by
  refine congrArg (fun f : Nat → Int32 => (Sum.inl (dA 4, 5, .inl f) : va_E)) (funext fun j => ?_)
  match j with
  | 0 => rfl
  | 1 => rfl
  | 2 => rfl
  | 3 => rfl
  | 4 => rfl
  | _ + 5 => rfl
theorem gwg_102 (fm : Option gNm) : ∀ (j : Nat) (r : gNm), gRT (0, fm) 53 31 j = some r → r ∈ gnmL := fun j r h => by cases h
set_option maxRecDepth 100000 in
theorem gct_102 (dA : Nat → ClassId) (ad : gNm → Nat) (S : Nat) (xs : Nat → Int32) (fm : Option gNm) : gcont dA ad (gwd S (gI1 xs) gJ1 (0, fm)) (53, 31) = gcont dA ad (gK92 S xs fm) (53, 31) := by
  refine congrArg (fun f : Nat → Int32 => (Sum.inl (dA 4, 4, .inl f) : va_E)) (funext fun j => ?_)
  match j with
  | 0 => rfl
  | 1 => rfl
  | 2 => rfl
  | 3 => rfl
  | _ + 4 => rfl
theorem gwg_103 (fm : Option gNm) : ∀ (j : Nat) (r : gNm), gRT (0, fm) 53 32 j = some r → r ∈ gnmL := fun j r h => by cases h
set_option maxRecDepth 100000 in
theorem gct_103 (dA : Nat → ClassId) (ad : gNm → Nat) (S : Nat) (xs : Nat → Int32) (fm : Option gNm) : gcont dA ad (gwd S (gI1 xs) gJ1 (0, fm)) (53, 32) = gcont dA ad (gK92 S xs fm) (53, 32) := by
  refine congrArg (fun f : Nat → Int32 => (Sum.inl (dA 4, 5, .inl f) : va_E)) (funext fun j => ?_)
  match j with
  | 0 => rfl
  | 1 => rfl
  | 2 => rfl
  | 3 => rfl
  | 4 => rfl
  | _ + 5 => rfl
theorem gwg_104 (fm : Option gNm) : ∀ (j : Nat) (r : gNm), gRT (0, fm) 53 33 j = some r → r ∈ gnmL := fun j r h => by cases h
set_option maxRecDepth 100000 in
theorem gct_104 (dA : Nat → ClassId) (ad : gNm → Nat) (S : Nat) (xs : Nat → Int32) (fm : Option gNm) : gcont dA ad (gwd S (gI1 xs) gJ1 (0, fm)) (53, 33) = gcont dA ad (gK92 S xs fm) (53, 33) := by
  refine congrArg (fun f : Nat → Int32 => (Sum.inl (dA 4, 3, .inl f) : va_E)) (funext fun j => ?_)
  match j with
  | 0 => rfl
  | 1 => rfl
  | 2 => rfl
  | _ + 3 => rfl
theorem gwg_105 (fm : Option gNm) : ∀ (j : Nat) (r : gNm), gRT (0, fm) 53 34 j = some r → r ∈ gnmL := fun j r h => by cases h
set_option maxRecDepth 100000 in
theorem gct_105 (dA : Nat → ClassId) (ad : gNm → Nat) (S : Nat) (xs : Nat → Int32) (fm : Option gNm) : gcont dA ad (gwd S (gI1 xs) gJ1 (0, fm)) (53, 34) = gcont dA ad (gK92 S xs fm) (53, 34) := by
  refine congrArg (fun f : Nat → Int32 => (Sum.inl (dA 4, 3, .inl f) : va_E)) (funext fun j => ?_)
  match j with
  | 0 => rfl
  | 1 => rfl
  | 2 => rfl
  | _ + 3 => rfl
theorem gwg_106 (fm : Option gNm) : ∀ (j : Nat) (r : gNm), gRT (0, fm) 53 35 j = some r → r ∈ gnmL := fun j r h => by cases h
set_option maxRecDepth 100000 in
theorem gct_106 (dA : Nat → ClassId) (ad : gNm → Nat) (S : Nat) (xs : Nat → Int32) (fm : Option gNm) : gcont dA ad (gwd S (gI1 xs) gJ1 (0, fm)) (53, 35) = gcont dA ad (gK92 S xs fm) (53, 35) := by
  refine congrArg (fun f : Nat → Int32 => (Sum.inl (dA 4, 2, .inl f) : va_E)) (funext fun j => ?_)
  match j with
  | 0 => rfl
  | 1 => rfl
  | _ + 2 => rfl
theorem gwg_107 (fm : Option gNm) : ∀ (j : Nat) (r : gNm), gRT (0, fm) 53 36 j = some r → r ∈ gnmL := fun j r h => by cases h
set_option maxRecDepth 100000 in
theorem gct_107 (dA : Nat → ClassId) (ad : gNm → Nat) (S : Nat) (xs : Nat → Int32) (fm : Option gNm) : gcont dA ad (gwd S (gI1 xs) gJ1 (0, fm)) (53, 36) = gcont dA ad (gK92 S xs fm) (53, 36) := by
  refine congrArg (fun f : Nat → Int32 => (Sum.inl (dA 4, 3, .inl f) : va_E)) (funext fun j => ?_)
  match j with
  | 0 => rfl
  | 1 => rfl
  | 2 => rfl
  | _ + 3 => rfl
theorem gwg_108 (fm : Option gNm) : ∀ (j : Nat) (r : gNm), gRT (0, fm) 53 37 j = some r → r ∈ gnmL := fun j r h => by cases h
set_option maxRecDepth 100000 in
theorem gct_108 (dA : Nat → ClassId) (ad : gNm → Nat) (S : Nat) (xs : Nat → Int32) (fm : Option gNm) : gcont dA ad (gwd S (gI1 xs) gJ1 (0, fm)) (53, 37) = gcont dA ad (gK92 S xs fm) (53, 37) := by
  refine congrArg (fun f : Nat → Int32 => (Sum.inl (dA 4, 3, .inl f) : va_E)) (funext fun j => ?_)
  match j with
  | 0 => rfl
  | 1 => rfl
  | 2 => rfl
  | _ + 3 => rfl
theorem gwg_109 (fm : Option gNm) : ∀ (j : Nat) (r : gNm), gRT (0, fm) 53 38 j = some r → r ∈ gnmL := fun j r h => by cases h
set_option maxRecDepth 100000 in
theorem gct_109 (dA : Nat → ClassId) (ad : gNm → Nat) (S : Nat) (xs : Nat → Int32) (fm : Option gNm) : gcont dA ad (gwd S (gI1 xs) gJ1 (0, fm)) (53, 38) = gcont dA ad (gK92 S xs fm) (53, 38) := by
  refine congrArg (fun f : Nat → Int32 => (Sum.inl (dA 4, 3, .inl f) : va_E)) (funext fun j => ?_)
  match j with
  | 0 => rfl
  | 1 => rfl
  | 2 => rfl
  | _ + 3 => rfl
theorem gwg_110 (fm : Option gNm) : ∀ (j : Nat) (r : gNm), gRT (0, fm) 53 39 j = some r → r ∈ gnmL := fun j r h => by cases h
set_option maxRecDepth 100000 in
theorem gct_110 (dA : Nat → ClassId) (ad : gNm → Nat) (S : Nat) (xs : Nat → Int32) (fm : Option gNm) : gcont dA ad (gwd S (gI1 xs) gJ1 (0, fm)) (53, 39) = gcont dA ad (gK92 S xs fm) (53, 39) := by
  refine congrArg (fun f : Nat → Int32 => (Sum.inl (dA 4, 4, .inl f) : va_E)) (funext fun j => ?_)
  match j with
  | 0 => rfl
  | 1 => rfl
  | 2 => rfl
  | 3 => rfl
  | _ + 4 => rfl
theorem gwg_111 (fm : Option gNm) : ∀ (j : Nat) (r : gNm), gRT (0, fm) 53 40 j = some r → r ∈ gnmL := fun j r h => by cases h
set_option maxRecDepth 100000 in
theorem gct_111 (dA : Nat → ClassId) (ad : gNm → Nat) (S : Nat) (xs : Nat → Int32) (fm : Option gNm) : gcont dA ad (gwd S (gI1 xs) gJ1 (0, fm)) (53, 40) = gcont dA ad (gK92 S xs fm) (53, 40) := by
  refine congrArg (fun f : Nat → Int32 => (Sum.inl (dA 4, 4, .inl f) : va_E)) (funext fun j => ?_)
  match j with
  | 0 => rfl
  | 1 => rfl
  | 2 => rfl
  | 3 => rfl
  | _ + 4 => rfl
theorem gwg_112 (fm : Option gNm) : ∀ (j : Nat) (r : gNm), gRT (0, fm) 53 41 j = some r → r ∈ gnmL := fun j r h => by cases h
set_option maxRecDepth 100000 in
theorem gct_112 (dA : Nat → ClassId) (ad : gNm → Nat) (S : Nat) (xs : Nat → Int32) (fm : Option gNm) : gcont dA ad (gwd S (gI1 xs) gJ1 (0, fm)) (53, 41) = gcont dA ad (gK92 S xs fm) (53, 41) := by
  refine congrArg (fun f : Nat → Int32 => (Sum.inl (dA 4, 8, .inl f) : va_E)) (funext fun j => ?_)
  match j with
  | 0 => rfl
  | 1 => rfl
  | 2 => rfl
  | 3 => rfl
  | 4 => rfl
  | 5 => rfl
  | 6 => rfl
  | 7 => rfl
  | _ + 8 => rfl
theorem gwg_113 (fm : Option gNm) : ∀ (j : Nat) (r : gNm), gRT (0, fm) 53 42 j = some r → r ∈ gnmL := fun j r h => by cases h
set_option maxRecDepth 100000 in
theorem gct_113 (dA : Nat → ClassId) (ad : gNm → Nat) (S : Nat) (xs : Nat → Int32) (fm : Option gNm) : gcont dA ad (gwd S (gI1 xs) gJ1 (0, fm)) (53, 42) = gcont dA ad (gK92 S xs fm) (53, 42) := by
  refine congrArg (fun f : Nat → Int32 => (Sum.inl (dA 4, 5, .inl f) : va_E)) (funext fun j => ?_)
  match j with
  | 0 => rfl
  | 1 => rfl
  | 2 => rfl
  | 3 => rfl
  | 4 => rfl
  | _ + 5 => rfl
theorem gwg_114 (fm : Option gNm) : ∀ (j : Nat) (r : gNm), gRT (0, fm) 53 43 j = some r → r ∈ gnmL := fun j r h => by cases h
set_option maxRecDepth 100000 in
theorem gct_114 (dA : Nat → ClassId) (ad : gNm → Nat) (S : Nat) (xs : Nat → Int32) (fm : Option gNm) : gcont dA ad (gwd S (gI1 xs) gJ1 (0, fm)) (53, 43) = gcont dA ad (gK92 S xs fm) (53, 43) := by
  refine congrArg (fun f : Nat → Int32 => (Sum.inl (dA 4, 4, .inl f) : va_E)) (funext fun j => ?_)
  match j with
  | 0 => rfl
  | 1 => rfl
  | 2 => rfl
  | 3 => rfl
  | _ + 4 => rfl
theorem gwg_115 (fm : Option gNm) : ∀ (j : Nat) (r : gNm), gRT (0, fm) 53 44 j = some r → r ∈ gnmL := fun j r h => by cases h
set_option maxRecDepth 100000 in
theorem gct_115 (dA : Nat → ClassId) (ad : gNm → Nat) (S : Nat) (xs : Nat → Int32) (fm : Option gNm) : gcont dA ad (gwd S (gI1 xs) gJ1 (0, fm)) (53, 44) = gcont dA ad (gK92 S xs fm) (53, 44) := by
  refine congrArg (fun f : Nat → Int32 => (Sum.inl (dA 4, 6, .inl f) : va_E)) (funext fun j => ?_)
  match j with
  | 0 => rfl
  | 1 => rfl
  | 2 => rfl
  | 3 => rfl
  | 4 => rfl
  | 5 => rfl
  | _ + 6 => rfl
theorem gwg_116 (fm : Option gNm) : ∀ (j : Nat) (r : gNm), gRT (0, fm) 53 45 j = some r → r ∈ gnmL := fun j r h => by cases h
set_option maxRecDepth 100000 in
theorem gct_116 (dA : Nat → ClassId) (ad : gNm → Nat) (S : Nat) (xs : Nat → Int32) (fm : Option gNm) : gcont dA ad (gwd S (gI1 xs) gJ1 (0, fm)) (53, 45) = gcont dA ad (gK92 S xs fm) (53, 45) := by
  refine congrArg (fun f : Nat → Int32 => (Sum.inl (dA 4, 3, .inl f) : va_E)) (funext fun j => ?_)
  match j with
  | 0 => rfl
  | 1 => rfl
  | 2 => rfl
  | _ + 3 => rfl
theorem gwg_117 (fm : Option gNm) : ∀ (j : Nat) (r : gNm), gRT (0, fm) 53 46 j = some r → r ∈ gnmL := fun j r h => by cases h
set_option maxRecDepth 100000 in
theorem gct_117 (dA : Nat → ClassId) (ad : gNm → Nat) (S : Nat) (xs : Nat → Int32) (fm : Option gNm) : gcont dA ad (gwd S (gI1 xs) gJ1 (0, fm)) (53, 46) = gcont dA ad (gK92 S xs fm) (53, 46) := by
  refine congrArg (fun f : Nat → Int32 => (Sum.inl (dA 4, 3, .inl f) : va_E)) (funext fun j => ?_)
  match j with
  | 0 => rfl
  | 1 => rfl
  | 2 => rfl
  | _ + 3 => rfl
theorem gwg_118 (fm : Option gNm) : ∀ (j : Nat) (r : gNm), gRT (0, fm) 53 47 j = some r → r ∈ gnmL := fun j r h => by cases h
set_option maxRecDepth 100000 in
theorem gct_118 (dA : Nat → ClassId) (ad : gNm → Nat) (S : Nat) (xs : Nat → Int32) (fm : Option gNm) : gcont dA ad (gwd S (gI1 xs) gJ1 (0, fm)) (53, 47) = gcont dA ad (gK92 S xs fm) (53, 47) := by
  refine congrArg (fun f : Nat → Int32 => (Sum.inl (dA 4, 6, .inl f) : va_E)) (funext fun j => ?_)
  match j with
  | 0 => rfl
  | 1 => rfl
  | 2 => rfl
  | 3 => rfl
  | 4 => rfl
  | 5 => rfl
  | _ + 6 => rfl
theorem gwg_119 (fm : Option gNm) : ∀ (j : Nat) (r : gNm), gRT (0, fm) 53 48 j = some r → r ∈ gnmL := fun j r h => by cases h
set_option maxRecDepth 100000 in
theorem gct_119 (dA : Nat → ClassId) (ad : gNm → Nat) (S : Nat) (xs : Nat → Int32) (fm : Option gNm) : gcont dA ad (gwd S (gI1 xs) gJ1 (0, fm)) (53, 48) = gcont dA ad (gK92 S xs fm) (53, 48) := by
  refine congrArg (fun f : Nat → Int32 => (Sum.inl (dA 4, 4, .inl f) : va_E)) (funext fun j => ?_)
  match j with
  | 0 => rfl
  | 1 => rfl
  | 2 => rfl
  | 3 => rfl
  | _ + 4 => rfl
theorem gwg_120 (fm : Option gNm) : ∀ (j : Nat) (r : gNm), gRT (0, fm) 53 49 j = some r → r ∈ gnmL := fun j r h => by cases h
set_option maxRecDepth 100000 in
theorem gct_120 (dA : Nat → ClassId) (ad : gNm → Nat) (S : Nat) (xs : Nat → Int32) (fm : Option gNm) : gcont dA ad (gwd S (gI1 xs) gJ1 (0, fm)) (53, 49) = gcont dA ad (gK92 S xs fm) (53, 49) := by
  refine congrArg (fun f : Nat → Int32 => (Sum.inl (dA 4, 6, .inl f) : va_E)) (funext fun j => ?_)
  match j with
  | 0 => rfl
  | 1 => rfl
  | 2 => rfl
  | 3 => rfl
  | 4 => rfl
  | 5 => rfl
  | _ + 6 => rfl
theorem gwg_121 (fm : Option gNm) : ∀ (j : Nat) (r : gNm), gRT (0, fm) 53 50 j = some r → r ∈ gnmL := fun j r h => by cases h
set_option maxRecDepth 100000 in
theorem gct_121 (dA : Nat → ClassId) (ad : gNm → Nat) (S : Nat) (xs : Nat → Int32) (fm : Option gNm) : gcont dA ad (gwd S (gI1 xs) gJ1 (0, fm)) (53, 50) = gcont dA ad (gK92 S xs fm) (53, 50) := by
  refine congrArg (fun f : Nat → Int32 => (Sum.inl (dA 4, 3, .inl f) : va_E)) (funext fun j => ?_)
  match j with
  | 0 => rfl
  | 1 => rfl
  | 2 => rfl
  | _ + 3 => rfl
theorem gwg_122 (fm : Option gNm) : ∀ (j : Nat) (r : gNm), gRT (0, fm) 53 51 j = some r → r ∈ gnmL := fun j r h => by cases h
set_option maxRecDepth 100000 in
theorem gct_122 (dA : Nat → ClassId) (ad : gNm → Nat) (S : Nat) (xs : Nat → Int32) (fm : Option gNm) : gcont dA ad (gwd S (gI1 xs) gJ1 (0, fm)) (53, 51) = gcont dA ad (gK92 S xs fm) (53, 51) := by
  refine congrArg (fun f : Nat → Int32 => (Sum.inl (dA 4, 4, .inl f) : va_E)) (funext fun j => ?_)
  match j with
  | 0 => rfl
  | 1 => rfl
  | 2 => rfl
  | 3 => rfl
  | _ + 4 => rfl
theorem gwg_123 (fm : Option gNm) : ∀ (j : Nat) (r : gNm), gRT (0, fm) 68 0 j = some r → r ∈ gnmL := fun j r h => by cases h
set_option maxRecDepth 100000 in
theorem gct_123 (dA : Nat → ClassId) (ad : gNm → Nat) (S : Nat) (xs : Nat → Int32) (fm : Option gNm) : gcont dA ad (gwd S (gI1 xs) gJ1 (0, fm)) (68, 0) = gcont dA ad (gK92 S xs fm) (68, 0) := rfl
theorem gwg_124 (fm : Option gNm) : ∀ (j : Nat) (r : gNm), gRT (0, fm) 69 0 j = some r → r ∈ gnmL := fun j r h => by cases h
set_option maxRecDepth 100000 in
theorem gct_124 (dA : Nat → ClassId) (ad : gNm → Nat) (S : Nat) (xs : Nat → Int32) (fm : Option gNm) : gcont dA ad (gwd S (gI1 xs) gJ1 (0, fm)) (69, 0) = gcont dA ad (gK92 S xs fm) (69, 0) := rfl
theorem gwg_125 (fm : Option gNm) : ∀ (j : Nat) (r : gNm), gRT (0, fm) 70 0 j = some r → r ∈ gnmL := fun j r h => by cases h
set_option maxRecDepth 100000 in
theorem gct_125 (dA : Nat → ClassId) (ad : gNm → Nat) (S : Nat) (xs : Nat → Int32) (fm : Option gNm) : gcont dA ad (gwd S (gI1 xs) gJ1 (0, fm)) (70, 0) = gcont dA ad (gK92 S xs fm) (70, 0) := rfl
theorem gwg_126 (fm : Option gNm) : ∀ (j : Nat) (r : gNm), gRT (0, fm) 71 0 j = some r → r ∈ gnmL := fun j r h => by cases h
set_option maxRecDepth 100000 in
theorem gct_126 (dA : Nat → ClassId) (ad : gNm → Nat) (S : Nat) (xs : Nat → Int32) (fm : Option gNm) : gcont dA ad (gwd S (gI1 xs) gJ1 (0, fm)) (71, 0) = gcont dA ad (gK92 S xs fm) (71, 0) := rfl
theorem gct (dA : Nat → ClassId) (ad : gNm → Nat) (S : Nat) (xs : Nat → Int32) (fm : Option gNm) : ∀ n ∈ gnmL, gcont dA ad (gwd S (gI1 xs) gJ1 (0, fm)) n = gcont dA ad (gK92 S xs fm) n := List.forall_mem_cons.mpr ⟨gct_0 dA ad S xs fm, List.forall_mem_cons.mpr ⟨gct_1 dA ad S xs fm, List.forall_mem_cons.mpr ⟨gct_2 dA ad S xs fm, List.forall_mem_cons.mpr ⟨gct_3 dA ad S xs fm, List.forall_mem_cons.mpr ⟨gct_4 dA ad S xs fm, List.forall_mem_cons.mpr ⟨gct_5 dA ad S xs fm, List.forall_mem_cons.mpr ⟨gct_6 dA ad S xs fm, List.forall_mem_cons.mpr ⟨gct_7 dA ad S xs fm, List.forall_mem_cons.mpr ⟨gct_8 dA ad S xs fm, List.forall_mem_cons.mpr ⟨gct_9 dA ad S xs fm, List.forall_mem_cons.mpr ⟨gct_10 dA ad S xs fm, List.forall_mem_cons.mpr ⟨gct_11 dA ad S xs fm, List.forall_mem_cons.mpr ⟨gct_12 dA ad S xs fm, List.forall_mem_cons.mpr ⟨gct_13 dA ad S xs fm, List.forall_mem_cons.mpr ⟨gct_14 dA ad S xs fm, List.forall_mem_cons.mpr ⟨gct_15 dA ad S xs fm, List.forall_mem_cons.mpr ⟨gct_16 dA ad S xs fm, List.forall_mem_cons.mpr ⟨gct_17 dA ad S xs fm, List.forall_mem_cons.mpr ⟨gct_18 dA ad S xs fm, List.forall_mem_cons.mpr ⟨gct_19 dA ad S xs fm, List.forall_mem_cons.mpr ⟨gct_20 dA ad S xs fm, List.forall_mem_cons.mpr ⟨gct_21 dA ad S xs fm, List.forall_mem_cons.mpr ⟨gct_22 dA ad S xs fm, List.forall_mem_cons.mpr ⟨gct_23 dA ad S xs fm, List.forall_mem_cons.mpr ⟨gct_24 dA ad S xs fm, List.forall_mem_cons.mpr ⟨gct_25 dA ad S xs fm, List.forall_mem_cons.mpr ⟨gct_26 dA ad S xs fm, List.forall_mem_cons.mpr ⟨gct_27 dA ad S xs fm, List.forall_mem_cons.mpr ⟨gct_28 dA ad S xs fm, List.forall_mem_cons.mpr ⟨gct_29 dA ad S xs fm, List.forall_mem_cons.mpr ⟨gct_30 dA ad S xs fm, List.forall_mem_cons.mpr ⟨gct_31 dA ad S xs fm, List.forall_mem_cons.mpr ⟨gct_32 dA ad S xs fm, List.forall_mem_cons.mpr ⟨gct_33 dA ad S xs fm, List.forall_mem_cons.mpr ⟨gct_34 dA ad S xs fm, List.forall_mem_cons.mpr ⟨gct_35 dA ad S xs fm, List.forall_mem_cons.mpr ⟨gct_36 dA ad S xs fm, List.forall_mem_cons.mpr ⟨gct_37 dA ad S xs fm, List.forall_mem_cons.mpr ⟨gct_38 dA ad S xs fm, List.forall_mem_cons.mpr ⟨gct_39 dA ad S xs fm, List.forall_mem_cons.mpr ⟨gct_40 dA ad S xs fm, List.forall_mem_cons.mpr ⟨gct_41 dA ad S xs fm, List.forall_mem_cons.mpr ⟨gct_42 dA ad S xs fm, List.forall_mem_cons.mpr ⟨gct_43 dA ad S xs fm, List.forall_mem_cons.mpr ⟨gct_44 dA ad S xs fm, List.forall_mem_cons.mpr ⟨gct_45 dA ad S xs fm, List.forall_mem_cons.mpr ⟨gct_46 dA ad S xs fm, List.forall_mem_cons.mpr ⟨gct_47 dA ad S xs fm, List.forall_mem_cons.mpr ⟨gct_48 dA ad S xs fm, List.forall_mem_cons.mpr ⟨gct_49 dA ad S xs fm, List.forall_mem_cons.mpr ⟨gct_50 dA ad S xs fm, List.forall_mem_cons.mpr ⟨gct_51 dA ad S xs fm, List.forall_mem_cons.mpr ⟨gct_52 dA ad S xs fm, List.forall_mem_cons.mpr ⟨gct_53 dA ad S xs fm, List.forall_mem_cons.mpr ⟨gct_54 dA ad S xs fm, List.forall_mem_cons.mpr ⟨gct_55 dA ad S xs fm, List.forall_mem_cons.mpr ⟨gct_56 dA ad S xs fm, List.forall_mem_cons.mpr ⟨gct_57 dA ad S xs fm, List.forall_mem_cons.mpr ⟨gct_58 dA ad S xs fm, List.forall_mem_cons.mpr ⟨gct_59 dA ad S xs fm, List.forall_mem_cons.mpr ⟨gct_60 dA ad S xs fm, List.forall_mem_cons.mpr ⟨gct_61 dA ad S xs fm, List.forall_mem_cons.mpr ⟨gct_62 dA ad S xs fm, List.forall_mem_cons.mpr ⟨gct_63 dA ad S xs fm, List.forall_mem_cons.mpr ⟨gct_64 dA ad S xs fm, List.forall_mem_cons.mpr ⟨gct_65 dA ad S xs fm, List.forall_mem_cons.mpr ⟨gct_66 dA ad S xs fm, List.forall_mem_cons.mpr ⟨gct_67 dA ad S xs fm, List.forall_mem_cons.mpr ⟨gct_68 dA ad S xs fm, List.forall_mem_cons.mpr ⟨gct_69 dA ad S xs fm, List.forall_mem_cons.mpr ⟨gct_70 dA ad S xs fm, List.forall_mem_cons.mpr ⟨gct_71 dA ad S xs fm, List.forall_mem_cons.mpr ⟨gct_72 dA ad S xs fm, List.forall_mem_cons.mpr ⟨gct_73 dA ad S xs fm, List.forall_mem_cons.mpr ⟨gct_74 dA ad S xs fm, List.forall_mem_cons.mpr ⟨gct_75 dA ad S xs fm, List.forall_mem_cons.mpr ⟨gct_76 dA ad S xs fm, List.forall_mem_cons.mpr ⟨gct_77 dA ad S xs fm, List.forall_mem_cons.mpr ⟨gct_78 dA ad S xs fm, List.forall_mem_cons.mpr ⟨gct_79 dA ad S xs fm, List.forall_mem_cons.mpr ⟨gct_80 dA ad S xs fm, List.forall_mem_cons.mpr ⟨gct_81 dA ad S xs fm, List.forall_mem_cons.mpr ⟨gct_82 dA ad S xs fm, List.forall_mem_cons.mpr ⟨gct_83 dA ad S xs fm, List.forall_mem_cons.mpr ⟨gct_84 dA ad S xs fm, List.forall_mem_cons.mpr ⟨gct_85 dA ad S xs fm, List.forall_mem_cons.mpr ⟨gct_86 dA ad S xs fm, List.forall_mem_cons.mpr ⟨gct_87 dA ad S xs fm, List.forall_mem_cons.mpr ⟨gct_88 dA ad S xs fm, List.forall_mem_cons.mpr ⟨gct_89 dA ad S xs fm, List.forall_mem_cons.mpr ⟨gct_90 dA ad S xs fm, List.forall_mem_cons.mpr ⟨gct_91 dA ad S xs fm, List.forall_mem_cons.mpr ⟨gct_92 dA ad S xs fm, List.forall_mem_cons.mpr ⟨gct_93 dA ad S xs fm, List.forall_mem_cons.mpr ⟨gct_94 dA ad S xs fm, List.forall_mem_cons.mpr ⟨gct_95 dA ad S xs fm, List.forall_mem_cons.mpr ⟨gct_96 dA ad S xs fm, List.forall_mem_cons.mpr ⟨gct_97 dA ad S xs fm, List.forall_mem_cons.mpr ⟨gct_98 dA ad S xs fm, List.forall_mem_cons.mpr ⟨gct_99 dA ad S xs fm, List.forall_mem_cons.mpr ⟨gct_100 dA ad S xs fm, List.forall_mem_cons.mpr ⟨gct_101 dA ad S xs fm, List.forall_mem_cons.mpr ⟨gct_102 dA ad S xs fm, List.forall_mem_cons.mpr ⟨gct_103 dA ad S xs fm, List.forall_mem_cons.mpr ⟨gct_104 dA ad S xs fm, List.forall_mem_cons.mpr ⟨gct_105 dA ad S xs fm, List.forall_mem_cons.mpr ⟨gct_106 dA ad S xs fm, List.forall_mem_cons.mpr ⟨gct_107 dA ad S xs fm, List.forall_mem_cons.mpr ⟨gct_108 dA ad S xs fm, List.forall_mem_cons.mpr ⟨gct_109 dA ad S xs fm, List.forall_mem_cons.mpr ⟨gct_110 dA ad S xs fm, List.forall_mem_cons.mpr ⟨gct_111 dA ad S xs fm, List.forall_mem_cons.mpr ⟨gct_112 dA ad S xs fm, List.forall_mem_cons.mpr ⟨gct_113 dA ad S xs fm, List.forall_mem_cons.mpr ⟨gct_114 dA ad S xs fm, List.forall_mem_cons.mpr ⟨gct_115 dA ad S xs fm, List.forall_mem_cons.mpr ⟨gct_116 dA ad S xs fm, List.forall_mem_cons.mpr ⟨gct_117 dA ad S xs fm, List.forall_mem_cons.mpr ⟨gct_118 dA ad S xs fm, List.forall_mem_cons.mpr ⟨gct_119 dA ad S xs fm, List.forall_mem_cons.mpr ⟨gct_120 dA ad S xs fm, List.forall_mem_cons.mpr ⟨gct_121 dA ad S xs fm, List.forall_mem_cons.mpr ⟨gct_122 dA ad S xs fm, List.forall_mem_cons.mpr ⟨gct_123 dA ad S xs fm, List.forall_mem_cons.mpr ⟨gct_124 dA ad S xs fm, List.forall_mem_cons.mpr ⟨gct_125 dA ad S xs fm, List.forall_mem_cons.mpr ⟨gct_126 dA ad S xs fm, fun _ h => absurd h List.not_mem_nil⟩⟩⟩⟩⟩⟩⟩⟩⟩⟩⟩⟩⟩⟩⟩⟩⟩⟩⟩⟩⟩⟩⟩⟩⟩⟩⟩⟩⟩⟩⟩⟩⟩⟩⟩⟩⟩⟩⟩⟩⟩⟩⟩⟩⟩⟩⟩⟩⟩⟩⟩⟩⟩⟩⟩⟩⟩⟩⟩⟩⟩⟩⟩⟩⟩⟩⟩⟩⟩⟩⟩⟩⟩⟩⟩⟩⟩⟩⟩⟩⟩⟩⟩⟩⟩⟩⟩⟩⟩⟩⟩⟩⟩⟩⟩⟩⟩⟩⟩⟩⟩⟩⟩⟩⟩⟩⟩⟩⟩⟩⟩⟩⟩⟩⟩⟩⟩⟩⟩⟩⟩⟩⟩⟩⟩⟩⟩
theorem gwfA (fm : Option gNm) : ∀ n ∈ gnmL, ∀ (j : Nat) (r : gNm), gRT (0, fm) n.1 n.2 j = some r → r ∈ gnmL := List.forall_mem_cons.mpr ⟨gwg_0 fm, List.forall_mem_cons.mpr ⟨gwg_1 fm, List.forall_mem_cons.mpr ⟨gwg_2 fm, List.forall_mem_cons.mpr ⟨gwg_3 fm, List.forall_mem_cons.mpr ⟨gwg_4 fm, List.forall_mem_cons.mpr ⟨gwg_5 fm, List.forall_mem_cons.mpr ⟨gwg_6 fm, List.forall_mem_cons.mpr ⟨gwg_7 fm, List.forall_mem_cons.mpr ⟨gwg_8 fm, List.forall_mem_cons.mpr ⟨gwg_9 fm, List.forall_mem_cons.mpr ⟨gwg_10 fm, List.forall_mem_cons.mpr ⟨gwg_11 fm, List.forall_mem_cons.mpr ⟨gwg_12 fm, List.forall_mem_cons.mpr ⟨gwg_13 fm, List.forall_mem_cons.mpr ⟨gwg_14 fm, List.forall_mem_cons.mpr ⟨gwg_15 fm, List.forall_mem_cons.mpr ⟨gwg_16 fm, List.forall_mem_cons.mpr ⟨gwg_17 fm, List.forall_mem_cons.mpr ⟨gwg_18 fm, List.forall_mem_cons.mpr ⟨gwg_19 fm, List.forall_mem_cons.mpr ⟨gwg_20 fm, List.forall_mem_cons.mpr ⟨gwg_21 fm, List.forall_mem_cons.mpr ⟨gwg_22 fm, List.forall_mem_cons.mpr ⟨gwg_23 fm, List.forall_mem_cons.mpr ⟨gwg_24 fm, List.forall_mem_cons.mpr ⟨gwg_25 fm, List.forall_mem_cons.mpr ⟨gwg_26 fm, List.forall_mem_cons.mpr ⟨gwg_27 fm, List.forall_mem_cons.mpr ⟨gwg_28 fm, List.forall_mem_cons.mpr ⟨gwg_29 fm, List.forall_mem_cons.mpr ⟨gwg_30 fm, List.forall_mem_cons.mpr ⟨gwg_31 fm, List.forall_mem_cons.mpr ⟨gwg_32 fm, List.forall_mem_cons.mpr ⟨gwg_33 fm, List.forall_mem_cons.mpr ⟨gwg_34 fm, List.forall_mem_cons.mpr ⟨gwg_35 fm, List.forall_mem_cons.mpr ⟨gwg_36 fm, List.forall_mem_cons.mpr ⟨gwg_37 fm, List.forall_mem_cons.mpr ⟨gwg_38 fm, List.forall_mem_cons.mpr ⟨gwg_39 fm, List.forall_mem_cons.mpr ⟨gwg_40 fm, List.forall_mem_cons.mpr ⟨gwg_41 fm, List.forall_mem_cons.mpr ⟨gwg_42 fm, List.forall_mem_cons.mpr ⟨gwg_43 fm, List.forall_mem_cons.mpr ⟨gwg_44 fm, List.forall_mem_cons.mpr ⟨gwg_45 fm, List.forall_mem_cons.mpr ⟨gwg_46 fm, List.forall_mem_cons.mpr ⟨gwg_47 fm, List.forall_mem_cons.mpr ⟨gwg_48 fm, List.forall_mem_cons.mpr ⟨gwg_49 fm, List.forall_mem_cons.mpr ⟨gwg_50 fm, List.forall_mem_cons.mpr ⟨gwg_51 fm, List.forall_mem_cons.mpr ⟨gwg_52 fm, List.forall_mem_cons.mpr ⟨gwg_53 fm, List.forall_mem_cons.mpr ⟨gwg_54 fm, List.forall_mem_cons.mpr ⟨gwg_55 fm, List.forall_mem_cons.mpr ⟨gwg_56 fm, List.forall_mem_cons.mpr ⟨gwg_57 fm, List.forall_mem_cons.mpr ⟨gwg_58 fm, List.forall_mem_cons.mpr ⟨gwg_59 fm, List.forall_mem_cons.mpr ⟨gwg_60 fm, List.forall_mem_cons.mpr ⟨gwg_61 fm, List.forall_mem_cons.mpr ⟨gwg_62 fm, List.forall_mem_cons.mpr ⟨gwg_63 fm, List.forall_mem_cons.mpr ⟨gwg_64 fm, List.forall_mem_cons.mpr ⟨gwg_65 fm, List.forall_mem_cons.mpr ⟨gwg_66 fm, List.forall_mem_cons.mpr ⟨gwg_67 fm, List.forall_mem_cons.mpr ⟨gwg_68 fm, List.forall_mem_cons.mpr ⟨gwg_69 fm, List.forall_mem_cons.mpr ⟨gwg_70 fm, List.forall_mem_cons.mpr ⟨gwg_71 fm, List.forall_mem_cons.mpr ⟨gwg_72 fm, List.forall_mem_cons.mpr ⟨gwg_73 fm, List.forall_mem_cons.mpr ⟨gwg_74 fm, List.forall_mem_cons.mpr ⟨gwg_75 fm, List.forall_mem_cons.mpr ⟨gwg_76 fm, List.forall_mem_cons.mpr ⟨gwg_77 fm, List.forall_mem_cons.mpr ⟨gwg_78 fm, List.forall_mem_cons.mpr ⟨gwg_79 fm, List.forall_mem_cons.mpr ⟨gwg_80 fm, List.forall_mem_cons.mpr ⟨gwg_81 fm, List.forall_mem_cons.mpr ⟨gwg_82 fm, List.forall_mem_cons.mpr ⟨gwg_83 fm, List.forall_mem_cons.mpr ⟨gwg_84 fm, List.forall_mem_cons.mpr ⟨gwg_85 fm, List.forall_mem_cons.mpr ⟨gwg_86 fm, List.forall_mem_cons.mpr ⟨gwg_87 fm, List.forall_mem_cons.mpr ⟨gwg_88 fm, List.forall_mem_cons.mpr ⟨gwg_89 fm, List.forall_mem_cons.mpr ⟨gwg_90 fm, List.forall_mem_cons.mpr ⟨gwg_91 fm, List.forall_mem_cons.mpr ⟨gwg_92 fm, List.forall_mem_cons.mpr ⟨gwg_93 fm, List.forall_mem_cons.mpr ⟨gwg_94 fm, List.forall_mem_cons.mpr ⟨gwg_95 fm, List.forall_mem_cons.mpr ⟨gwg_96 fm, List.forall_mem_cons.mpr ⟨gwg_97 fm, List.forall_mem_cons.mpr ⟨gwg_98 fm, List.forall_mem_cons.mpr ⟨gwg_99 fm, List.forall_mem_cons.mpr ⟨gwg_100 fm, List.forall_mem_cons.mpr ⟨gwg_101 fm, List.forall_mem_cons.mpr ⟨gwg_102 fm, List.forall_mem_cons.mpr ⟨gwg_103 fm, List.forall_mem_cons.mpr ⟨gwg_104 fm, List.forall_mem_cons.mpr ⟨gwg_105 fm, List.forall_mem_cons.mpr ⟨gwg_106 fm, List.forall_mem_cons.mpr ⟨gwg_107 fm, List.forall_mem_cons.mpr ⟨gwg_108 fm, List.forall_mem_cons.mpr ⟨gwg_109 fm, List.forall_mem_cons.mpr ⟨gwg_110 fm, List.forall_mem_cons.mpr ⟨gwg_111 fm, List.forall_mem_cons.mpr ⟨gwg_112 fm, List.forall_mem_cons.mpr ⟨gwg_113 fm, List.forall_mem_cons.mpr ⟨gwg_114 fm, List.forall_mem_cons.mpr ⟨gwg_115 fm, List.forall_mem_cons.mpr ⟨gwg_116 fm, List.forall_mem_cons.mpr ⟨gwg_117 fm, List.forall_mem_cons.mpr ⟨gwg_118 fm, List.forall_mem_cons.mpr ⟨gwg_119 fm, List.forall_mem_cons.mpr ⟨gwg_120 fm, List.forall_mem_cons.mpr ⟨gwg_121 fm, List.forall_mem_cons.mpr ⟨gwg_122 fm, List.forall_mem_cons.mpr ⟨gwg_123 fm, List.forall_mem_cons.mpr ⟨gwg_124 fm, List.forall_mem_cons.mpr ⟨gwg_125 fm, List.forall_mem_cons.mpr ⟨gwg_126 fm, fun _ h => absurd h List.not_mem_nil⟩⟩⟩⟩⟩⟩⟩⟩⟩⟩⟩⟩⟩⟩⟩⟩⟩⟩⟩⟩⟩⟩⟩⟩⟩⟩⟩⟩⟩⟩⟩⟩⟩⟩⟩⟩⟩⟩⟩⟩⟩⟩⟩⟩⟩⟩⟩⟩⟩⟩⟩⟩⟩⟩⟩⟩⟩⟩⟩⟩⟩⟩⟩⟩⟩⟩⟩⟩⟩⟩⟩⟩⟩⟩⟩⟩⟩⟩⟩⟩⟩⟩⟩⟩⟩⟩⟩⟩⟩⟩⟩⟩⟩⟩⟩⟩⟩⟩⟩⟩⟩⟩⟩⟩⟩⟩⟩⟩⟩⟩⟩⟩⟩⟩⟩⟩⟩⟩⟩⟩⟩⟩⟩⟩⟩⟩⟩
set_option maxRecDepth 100000 in
theorem gBoot {S : Nat} {xs : Nat → Int32} {fm : Option gNm} {rv : Option gV} {w' : gW} (k : gFine 1000 0 18 [some (.inr (.inr (some (0, 0)))), some (.inr (.inr (some (10, 0)))), some (.inr (.inr (some (50, 0)))), some (.inl 0)] [] (gwd S (gI1 xs) gJ1 (0, fm)) rv w') : gFine 1000 0 0 [some (.inr (.inr (some (0, 0)))), none, none, none] [] (gw0 S xs fm) rv w' := by
  have ok : ∀ (pc : Nat) (op : gOp), gpr 0 pc = some op → gOk 0 pc op := fun pc op h => gpr_ok 0 pc op h
  obtain ⟨n1, rv1, w1, e1, e2, e3⟩ := (gctor_x 990 S xs fm (fun rv w => rv = none ∧ w = gK41 S xs fm)).mpr ⟨rfl, rfl⟩
  subst e2; subst e3
  obtain ⟨n2, rv2, w2, e4, e5, e6⟩ := (gctor_m 999 S xs fm (fun rv w => rv = none ∧ w = gK92 S xs fm)).mpr ⟨rfl, rfl⟩
  subst e5; subst e6
  have f1 := gsound gpr_ok _ _ _ _ _ _ _ _ _ e1
  have f2 := gsound gpr_ok _ _ _ _ _ _ _ _ _ e4
  have h0 := ok 0 _ rfl
  have h3 := ok 3 _ rfl
  have h4 := ok 4 _ rfl
  have h7 := ok 7 _ rfl
  have h8 := ok 8 _ rfl
  have h11 := ok 11 _ rfl
  have h12 := ok 12 _ rfl
  have h15 := ok 15 _ rfl
  have h16 := ok 16 _ rfl
  have h17 := ok 17 _ rfl
  refine gf_new (n := (10, 0)) rfl h0.1 rfl h0.2 ?_
  refine (gp_dup h3.1 rfl).fine ?_
  refine gf_special (as := []) (rest := [.inr (.inr (some (10, 0)))]) (r := (10, 0)) h4.1 h4.2.1 rfl rfl (by decide) (by decide) h4.2.2.2.1 h4.2.2.2.2.1 h4.2.2.2.2.2.1 h4.2.2.2.2.2.2 f1 ?_
  refine (gp_astore_n (L1 := [some (.inr (.inr (some (0, 0)))), some (.inr (.inr (some (10, 0)))), none, none]) h7.1 rfl).fine ?_
  refine gf_new (n := (50, 0)) rfl h8.1 rfl h8.2 ?_
  refine (gp_dup h11.1 rfl).fine ?_
  refine gf_special (as := []) (rest := [.inr (.inr (some (50, 0)))]) (r := (50, 0)) h12.1 h12.2.1 rfl rfl (by decide) (by decide) h12.2.2.2.1 h12.2.2.2.2.1 h12.2.2.2.2.2.1 h12.2.2.2.2.2.2 f2 ?_
  refine (gp_astore_n (L1 := [some (.inr (.inr (some (0, 0)))), some (.inr (.inr (some (10, 0)))), some (.inr (.inr (some (50, 0)))), none]) h15.1 rfl).fine ?_
  refine (gp_iconst h16.1).fine ?_
  refine (gp_istore_n (L1 := [some (.inr (.inr (some (0, 0)))), some (.inr (.inr (some (10, 0)))), some (.inr (.inr (some (50, 0)))), some (.inl 0)]) h17.1 rfl).fine ?_
  refine gSwap (w2 := gwd S (gI1 xs) gJ1 (0, fm)) rfl rfl (fun dA ad => ?_) (fun a b j ha => ?_) (fun k1 n hk hn j r hr => ?_) k
  · exact List.map_congr_left fun n hn => congrArg (Prod.mk (ad n)) (gct dA ad S xs fm n (List.mem_of_mem_take hn))
  · have e : a = 0 ∨ a = 1 ∨ a = 2 ∨ a = 3 ∨ a = 4 ∨ a = 5 ∨ a = 6 ∨ a = 7 ∨ a = 8 ∨ a = 9 := by omega
    rcases e with rfl | rfl | rfl | rfl | rfl | rfl | rfl | rfl | rfl | rfl <;> exact ⟨rfl, rfl⟩
  · obtain ⟨k2, h2⟩ := List.getElem?_of_mem (gwfA fm n (List.mem_of_getElem? hn) j r hr)
    exact Or.inr ⟨k2, (List.getElem?_eq_some_iff.mp h2).1, h2⟩
