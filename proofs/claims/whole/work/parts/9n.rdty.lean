/-! What is read as a formula is one: its codes never find too few, and never too many. -/
variable {tp : Nat → Int} {n : Nat} {al : Nat → Bool}
theorem ty_cons {c : Int} {l : List Int} {T T' T'' : List Bool} (h1 : gTy1 al c T = some T') (h2 : T'.length ≤ 60) (h3 : gTy al l T' = some T'') : gTy al (c :: l) T = some T'' := by
  show (match gTy1 al c T with | some s' => if s'.length ≤ 60 then gTy al l s' else none | none => none) = some T''
  rw [h1]
  show (if T'.length ≤ 60 then gTy al l T' else none) = some T''
  rw [if_pos h2]; exact h3
theorem ty_app {l2 : List Int} {T' T'' : List Bool} (h2 : gTy al l2 T' = some T'') : ∀ {l1 : List Int} {T : List Bool}, gTy al l1 T = some T' → gTy al (l1 ++ l2) T = some T''
  | [], T, h => by
    have e : some T = some T' := h
    injection e with e
    rw [e]; exact h2
  | c :: l1, T, h => by
    have h' : (match gTy1 al c T with | some s' => if s'.length ≤ 60 then gTy al l1 s' else none | none => none) = some T' := h
    match hc : gTy1 al c T with
    | none => rw [hc] at h'; cases h'
    | some s' =>
      rw [hc] at h'
      have h'' : (if s'.length ≤ 60 then gTy al l1 s' else none) = some T' := h'
      by_cases w : s'.length ≤ 60
      · rw [if_pos w] at h''
        exact ty_cons hc w (ty_app h2 h'')
      · rw [if_neg w] at h''; cases h''
theorem ty_one {c : Int} {T T' : List Bool} (h1 : gTy1 al c T = some T') (h2 : T'.length ≤ 60) : gTy al [c] T = some T' := ty_cons h1 h2 rfl
theorem t1_n {v : Int} {T : List Bool} (h0 : 0 ≤ v) (h1 : v ≤ 9999) : gTy1 al v T = some (false :: T) := by unfold gTy1; rw [if_pos h0, if_pos h1]
theorem t1_w {w : Int} {T : List Bool} (h0 : 0 ≤ w) (h1 : w < 11) (ha : al w.toNat = true) : gTy1 al (-1 - w) T = some (false :: T) := by
  unfold gTy1
  rw [if_neg (by omega), if_pos (by omega), show -1 - (-1 - w) = w by omega, if_pos ha]
theorem t1_a {w : Int} {T : List Bool} (h : w = 11 ∨ w = 12) (ha : al w.toNat = true) : gTy1 al (-1 - w) (false :: T) = some (false :: T) := by
  unfold gTy1
  rw [if_neg (by omega), if_neg (by omega), if_pos (show gAsks (-1 - w) = true from decide_eq_true (by omega)), show -1 - (-1 - w) = w by omega, if_pos ha]
  rfl
theorem t1_N {w : Int} {T : List Bool} (h : w = 17 ∨ w = 18 ∨ w = 43 ∨ w = 45 ∨ w = 42 ∨ w = 47) : gTy1 al (-1 - w) (false :: false :: T) = some (false :: T) := by
  rcases h with rfl | rfl | rfl | rfl | rfl | rfl <;> rfl
theorem t1_B {w : Int} {T : List Bool} (h : w = 15 ∨ w = 16) : gTy1 al (-1 - w) (true :: true :: T) = some (true :: T) := by
  rcases h with rfl | rfl <;> rfl
theorem t1_C {w : Int} {T : List Bool} (h : w = 60 ∨ w = 62 ∨ w = 61) : gTy1 al (-1 - w) (false :: false :: T) = some (true :: T) := by
  rcases h with rfl | rfl | rfl <;> rfl
def rC (m : Nat) : Nat := if m = 0 then 1 else if m ≤ 2 then 2 else if m ≤ 4 then 3 else if m = 5 then 4 else if m ≤ 7 then 5 else 6
def rT (m : Nat) (T : List Bool) : List Bool := if m = 1 ∨ m = 3 then false :: T else if m = 6 ∨ m = 8 then true :: T else T
def rB (m : Nat) : Bool := decide (5 ≤ m)
theorem lOpc_t {m s : Nat} {g : Bool} {T : List Bool} (hm : m = 1 ∨ m = 3 ∨ m = 6 ∨ m = 8) (h : lOpc tp n m s g ≠ -1) : gTy1 al (-1 - lOpc tp n m s g) (rB m :: rB m :: T) = some (rB m :: T) := by
  unfold lOpc at h ⊢
  rcases hm with rfl | rfl | rfl | rfl
  · rw [if_pos rfl] at h ⊢
    split
    · rename_i w; exact t1_N (by omega)
    · rename_i w; rw [if_neg w] at h; exact absurd rfl h
  · rw [if_neg (by decide), if_pos rfl] at h ⊢
    split
    · rename_i w; exact t1_N (by omega)
    · rename_i w; rw [if_neg w] at h; exact absurd rfl h
  · rw [if_neg (by decide), if_neg (by decide), if_pos rfl] at h ⊢
    split
    · exact t1_B (Or.inr rfl)
    · rename_i w; rw [if_neg w] at h; exact absurd rfl h
  · rw [if_neg (by decide), if_neg (by decide), if_neg (by decide)] at h ⊢
    split
    · exact t1_B (Or.inl rfl)
    · rename_i w; rw [if_neg w] at h; exact absurd rfl h
theorem rd_ty : ∀ (f m o s : Nat) (g : Bool) (q : Nat × Bool) (l : List Int) (T : List Bool), m ≤ 9 → T.length + 6 * (6 - o) + rC m ≤ 60 → rd tp n al f m o s g = (.inr q, l) → gTy al l (rT m T) = some (rB m :: T)
  | 0, m, o, s, g, q, l, T, hm, hT, h => by cases h
  | f + 1, m, o, s, g, q, l, T, hm, hT, h => by
    have len : ∀ (b : Bool) (L : List Bool), (b :: L).length = L.length + 1 := fun _ _ => rfl
    by_cases m1 : m = 1 ∨ m = 3 ∨ m = 6 ∨ m = 8
    · have eT : rT m T = rB m :: T := by rcases m1 with rfl | rfl | rfl | rfl <;> rfl
      have eT1 : ∀ L, rT (m - 1) L = L := fun L => by rcases m1 with rfl | rfl | rfl | rfl <;> rfl
      have eB1 : rB (m - 1) = rB m := by rcases m1 with rfl | rfl | rfl | rfl <;> rfl
      have eC : rC (m - 1) + 1 ≤ rC m := by rcases m1 with rfl | rfl | rfl | rfl <;> decide
      rw [rd_loop m1] at h
      split at h
      · injection h with h1 h2
        rw [← h2, eT]; rfl
      · rename_i w
        obtain ⟨s1, g1, l1, h1, h⟩ := bR_inr h
        obtain ⟨s2, g2, l2, h2, h⟩ := bR_inr h
        injection h with h3 h4
        have a := rd_ty f (m - 1) o _ _ _ _ (rB m :: T) (by omega) (by rw [len]; omega) h1
        have b := rd_ty f m o _ _ _ _ T hm hT h2
        rw [eT1, eB1] at a
        rw [eT] at b ⊢
        rw [← h4]
        exact ty_app (ty_cons (lOpc_t m1 w) (by rw [len]; omega) b) a
    by_cases m2 : m = 2 ∨ m = 4 ∨ m = 7 ∨ m = 9
    · have eT : rT m T = T := by rcases m2 with rfl | rfl | rfl | rfl <;> rfl
      have eT2 : rT (m - 2) T = T := by rcases m2 with rfl | rfl | rfl | rfl <;> rfl
      have eT1 : rT (m - 1) T = rB m :: T := by rcases m2 with rfl | rfl | rfl | rfl <;> rfl
      have eB2 : rB (m - 2) = rB m := by rcases m2 with rfl | rfl | rfl | rfl <;> rfl
      have eB1 : rB (m - 1) = rB m := by rcases m2 with rfl | rfl | rfl | rfl <;> rfl
      have eC : rC (m - 2) ≤ rC m ∧ rC (m - 1) ≤ rC m := by rcases m2 with rfl | rfl | rfl | rfl <;> decide
      rw [rd_full m2] at h
      obtain ⟨s1, g1, l1, h1, h⟩ := bR_inr h
      obtain ⟨s2, g2, l2, h2, h⟩ := bR_inr h
      injection h with h3 h4
      have a := rd_ty f (m - 2) o _ _ _ _ T (by omega) (by omega) h1
      have b := rd_ty f (m - 1) o _ _ _ _ T (by omega) (by omega) h2
      rw [eT2, eB2] at a
      rw [eT1, eB1] at b
      rw [eT, ← h4]
      exact ty_app b a
    by_cases m0 : m = 0
    · subst m0
      have hT0 : T.length + 6 * (6 - o) + 1 ≤ 60 := hT
      show gTy al l T = some (false :: T)
      unfold rd at h
      rw [if_pos rfl] at h
      by_cases w1 : lKd tp n s g = -3
      · rw [if_pos w1] at h
        injection h with h1 h2
        have a := lNumT_inr h1
        rw [← h2]
        exact ty_one (t1_n a.2.2.2.1 a.2.2.2.2) (by rw [len]; omega)
      rw [if_neg w1] at h
      by_cases w2 : lB tp n s = 40
      · rw [if_pos w2] at h
        split at h
        · cases h
        rename_i w6
        obtain ⟨s1, g1, l1, h1, h⟩ := bR_inr h
        injection h with h3 h4
        rw [← h4]
        exact rd_ty f 4 (o + 1) _ _ _ _ T (by decide) (by show T.length + 6 * (6 - (o + 1)) + 3 ≤ 60; omega) h1
      rw [if_neg w2] at h
      by_cases w3 : lKd tp n s g = -2 ∧ (wHere tp n s = 17 ∨ wHere tp n s = 18)
      · rw [if_pos w3] at h
        split at h
        · split at h
          · cases h
          rename_i w6
          obtain ⟨s1, g1, l1, h1, h⟩ := bR_inr h
          obtain ⟨s2, g2, l2, h2, h⟩ := bR_inr h
          obtain ⟨s3, g3, l3, h5, h⟩ := bR_inr h
          injection h with h3 h4
          have a := rd_ty f 4 (o + 1) _ _ _ _ T (by decide) (by show T.length + 6 * (6 - (o + 1)) + 3 ≤ 60; omega) h1
          have b := rd_ty f 4 (o + 1) _ _ _ _ (false :: T) (by decide) (by show T.length + 1 + 6 * (6 - (o + 1)) + 3 ≤ 60; omega) h5
          rw [← h4]
          exact ty_app (ty_app (ty_one (t1_N (by omega)) (by rw [len]; omega)) b) a
        · cases h
      rw [if_neg w3] at h
      by_cases w4 : lKd tp n s g = -2 ∧ (0 ≤ wHere tp n s ∧ wHere tp n s ≤ 12 ∧ al (wHere tp n s).toNat = true)
      · rw [if_pos w4] at h
        split at h
        · rename_i w5
          injection h with h1 h2
          rw [← h2]
          exact ty_one (t1_w w4.2.1 w5 w4.2.2.2) (by rw [len]; omega)
        rename_i w5
        split at h
        · cases h
        rename_i w6
        obtain ⟨s1, g1, l1, h1, h⟩ := bR_inr h
        injection h with h3 h4
        rw [← h4]
        have a := rd_ty f 0 (o + 1) _ _ _ _ T (by decide) (by show T.length + 6 * (6 - (o + 1)) + 1 ≤ 60; omega) h1
        exact ty_app (ty_one (t1_a (by omega) w4.2.2.2) (by rw [len]; omega)) a
      rw [if_neg w4] at h
      cases h
    · have m5 : m = 5 := by omega
      subst m5
      have hT0 : T.length + 6 * (6 - o) + 4 ≤ 60 := hT
      show gTy al l T = some (true :: T)
      unfold rd at h
      rw [if_neg (by decide), if_pos rfl] at h
      by_cases w1 : lKd tp n s g = -2 ∧ wHere tp n s = 13
      · rw [if_pos w1] at h
        split at h
        · cases h
        rename_i w6
        obtain ⟨s1, g1, l1, h1, h⟩ := bR_inr h
        injection h with h3 h4
        rw [← h4]
        have a := rd_ty f 5 (o + 1) _ _ _ _ T (by decide) (by show T.length + 6 * (6 - (o + 1)) + 4 ≤ 60; omega) h1
        exact ty_app (ty_one (show gTy1 al (-14) (true :: T) = some (true :: T) from rfl) (by rw [len]; omega)) a
      rw [if_neg w1] at h
      by_cases w2 : lB tp n s = 91
      · rw [if_pos w2] at h
        split at h
        · cases h
        rename_i w6
        obtain ⟨s1, g1, l1, h1, h⟩ := bR_inr h
        injection h with h3 h4
        rw [← h4]
        exact rd_ty f 9 (o + 1) _ _ _ _ T (by decide) (by show T.length + 6 * (6 - (o + 1)) + 6 ≤ 60; omega) h1
      rw [if_neg w2] at h
      by_cases w3 : lKd tp n s g = -2 ∧ wHere tp n s = 14
      · rw [if_pos w3] at h
        injection h with h1 h2
        rw [← h2]
        exact ty_one (show gTy1 al (-15) T = some (true :: T) from rfl) (by rw [len]; omega)
      rw [if_neg w3] at h
      obtain ⟨s1, g1, l1, h1, h⟩ := bR_inr h
      have a := rd_ty f 4 o _ _ _ _ T (by decide) (by show T.length + 6 * (6 - o) + 3 ≤ 60; omega) h1
      split at h
      · rename_i w
        obtain ⟨s2, g2, l2, h2, h⟩ := bR_inr h
        injection h with h3 h4
        have b := rd_ty f 4 o _ _ _ _ (false :: T) (by decide) (by show T.length + 1 + 6 * (6 - o) + 3 ≤ 60; omega) h2
        rw [← h4]
        exact ty_app (ty_app (ty_one (t1_C w) (by rw [len]; omega)) b) a
      · cases h
theorem rd_ty4 {f s : Nat} {g : Bool} {q : Nat × Bool} {l : List Int} (h : rd tp n al f 4 0 s g = (.inr q, l)) : gTy al l [] = some [false] := rd_ty f 4 0 s g q l [] (by decide) (by decide) h
theorem rd_ty9 {f s : Nat} {g : Bool} {q : Nat × Bool} {l : List Int} (h : rd tp n al f 9 0 s g = (.inr q, l)) : gTy al l [] = some [true] := rd_ty f 9 0 s g q l [] (by decide) (by decide) h
