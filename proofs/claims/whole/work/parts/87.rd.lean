/-! Formulas as both sides read them: what comes out of a place, with so many open. -/
def bR (r : lT × List Int) (k : Nat → Bool → List Int → lT × List Int) : lT × List Int :=
  match r with
  | (.inl b, _) => (.inl b, [])
  | (.inr (s, g), l) => k s g l
theorem bR_l {b : Int × Int} {l : List Int} {k : Nat → Bool → List Int → lT × List Int} : bR (.inl b, l) k = (.inl b, []) := rfl
theorem bR_r {s : Nat} {g : Bool} {l : List Int} {k : Nat → Bool → List Int → lT × List Int} : bR (.inr (s, g), l) k = k s g l := rfl
theorem bR_inr {r : lT × List Int} {k : Nat → Bool → List Int → lT × List Int} {q : Nat × Bool} {l : List Int} (h : bR r k = (.inr q, l)) : ∃ s g l', r = (.inr (s, g), l') ∧ k s g l' = (.inr q, l) := by
  match r, h with
  | (.inl b, _), h => cases h
  | (.inr (s, g), l'), h => exact ⟨s, g, l', rfl, h⟩
/-- what a loop goes on with; -1: it doesn't -/
def lOpc (tp : Nat → Int) (n m s : Nat) (g : Bool) : Int :=
  if m = 1 then (if lB tp n s = 42 ∨ lB tp n s = 47 then lB tp n s else -1)
  else if m = 3 then (if lB tp n s = 43 ∨ lB tp n s = 45 then lB tp n s else -1)
  else if m = 6 then (if lIs tp n (.inr (s, g)) 16 = true then 16 else -1)
  else (if lIs tp n (.inr (s, g)) 15 = true then 15 else -1)
abbrev wHere (tp : Nat → Int) (n s : Nat) : Int := lWd tp s (lEn tp n s)
/-- 0 a part, 2 a product, 4 a sum, 5 a fact, 7 facts with and, 9 a test; 1, 3, 6, 8 their rests -/
def rd (tp : Nat → Int) (n : Nat) (al : Nat → Bool) : Nat → Nat → Nat → Nat → Bool → lT × List Int
  | 0, _, _, _, _ => (.inl (0, 0), [])
  | f + 1, m, o, s, g =>
    if m = 0 then
      (if lKd tp n s g = -3 then ((lNumT tp n 0 9999 (.inr (s, g))).1, [(lNumT tp n 0 9999 (.inr (s, g))).2])
      else if lB tp n s = 40 then
        (if 6 ≤ o then (.inl (4, s), [])
        else bR (rd tp n al f 4 (o + 1) (lNx tp n s g).1 (lNx tp n s g).2) fun s1 g1 l => (lAskC tp n (.inr (s1, g1)) 41, l))
      else if lKd tp n s g = -2 ∧ (wHere tp n s = 17 ∨ wHere tp n s = 18) then
        (if lB tp n (lNx tp n s g).1 = 40 then
          (if 6 ≤ o then (.inl (4, (lNx tp n s g).1), [])
          else bR (rd tp n al f 4 (o + 1) (lNx tp n (lNx tp n s g).1 (lNx tp n s g).2).1 (lNx tp n (lNx tp n s g).1 (lNx tp n s g).2).2) fun s1 g1 l1 =>
            bR (lAskC tp n (.inr (s1, g1)) 44, []) fun s2 g2 _ => bR (rd tp n al f 4 (o + 1) s2 g2) fun s3 g3 l3 => (lAskC tp n (.inr (s3, g3)) 41, l1 ++ (l3 ++ [-1 - wHere tp n s])))
        else (.inl (1, (lNx tp n s g).1), []))
      else if lKd tp n s g = -2 ∧ (0 ≤ wHere tp n s ∧ wHere tp n s ≤ 12 ∧ al (wHere tp n s).toNat = true) then
        (if wHere tp n s < 11 then (.inr (lNx tp n s g), [-1 - wHere tp n s])
        else if 6 ≤ o then (.inl (4, s), [])
        else bR (rd tp n al f 0 (o + 1) (lNx tp n s g).1 (lNx tp n s g).2) fun s1 g1 l => (.inr (s1, g1), l ++ [-1 - wHere tp n s]))
      else (.inl (1, s), []))
    else if m = 5 then
      (if lKd tp n s g = -2 ∧ wHere tp n s = 13 then
        (if 6 ≤ o then (.inl (4, s), [])
        else bR (rd tp n al f 5 (o + 1) (lNx tp n s g).1 (lNx tp n s g).2) fun s1 g1 l => (.inr (s1, g1), l ++ [-14]))
      else if lB tp n s = 91 then
        (if 6 ≤ o then (.inl (4, s), [])
        else bR (rd tp n al f 9 (o + 1) (lNx tp n s g).1 (lNx tp n s g).2) fun s1 g1 l => (lAskC tp n (.inr (s1, g1)) 93, l))
      else if lKd tp n s g = -2 ∧ wHere tp n s = 14 then (.inr (lNx tp n s g), [-15])
      else bR (rd tp n al f 4 o s g) fun s1 g1 l1 =>
        (if lB tp n s1 = 60 ∨ lB tp n s1 = 62 ∨ lB tp n s1 = 61 then
          bR (rd tp n al f 4 o (lNx tp n s1 g1).1 (lNx tp n s1 g1).2) fun s2 g2 l2 => (.inr (s2, g2), l1 ++ (l2 ++ [-1 - lB tp n s1]))
        else (.inl (1, s1), [])))
    else if m = 1 ∨ m = 3 ∨ m = 6 ∨ m = 8 then
      (if lOpc tp n m s g = -1 then (.inr (s, g), [])
      else bR (rd tp n al f (m - 1) o (lNx tp n s g).1 (lNx tp n s g).2) fun s1 g1 l1 => bR (rd tp n al f m o s1 g1) fun s2 g2 l2 => (.inr (s2, g2), l1 ++ ((-1 - lOpc tp n m s g) :: l2)))
    else bR (rd tp n al f (m - 2) o s g) fun s1 g1 l1 => bR (rd tp n al f (m - 1) o s1 g1) fun s2 g2 l2 => (.inr (s2, g2), l1 ++ l2)
section Rd
variable {tp : Nat → Int} {n : Nat} {al : Nat → Bool}
theorem rd_loop {f m o s : Nat} {g : Bool} (hm : m = 1 ∨ m = 3 ∨ m = 6 ∨ m = 8) : rd tp n al (f + 1) m o s g = if lOpc tp n m s g = -1 then (.inr (s, g), []) else bR (rd tp n al f (m - 1) o (lNx tp n s g).1 (lNx tp n s g).2) fun s1 g1 l1 => bR (rd tp n al f m o s1 g1) fun s2 g2 l2 => (.inr (s2, g2), l1 ++ ((-1 - lOpc tp n m s g) :: l2)) := by
  rcases hm with rfl | rfl | rfl | rfl <;> rfl
theorem rd_full {f m o s : Nat} {g : Bool} (hm : m = 2 ∨ m = 4 ∨ m = 7 ∨ m = 9) : rd tp n al (f + 1) m o s g = bR (rd tp n al f (m - 2) o s g) fun s1 g1 l1 => bR (rd tp n al f (m - 1) o s1 g1) fun s2 g2 l2 => (.inr (s2, g2), l1 ++ l2) := by
  rcases hm with rfl | rfl | rfl | rfl <;> rfl
theorem lAskC_inr {s : Nat} {g : Bool} {c : Int} {q : Nat × Bool} (h : lAskC tp n (.inr (s, g)) c = .inr q) : lB tp n s = c ∧ q = lNx tp n s g := by
  have h' : (if lB tp n s = c then (.inr (lNx tp n s g) : lT) else .inl (1, (s : Int))) = .inr q := h
  split at h'
  · rename_i w; injection h' with h'; exact ⟨w, h'.symm⟩
  · cases h'
theorem lNumT_inr {lo hi : Int} {s : Nat} {g : Bool} {q : Nat × Bool} (h : (lNumT tp n lo hi (.inr (s, g))).1 = .inr q) : lKd tp n s g = -3 ∧ q = lNx tp n s g ∧ (lNumT tp n lo hi (.inr (s, g))).2 = lDg tp s (lEn tp n s - s) ∧ lo ≤ (lNumT tp n lo hi (.inr (s, g))).2 ∧ (lNumT tp n lo hi (.inr (s, g))).2 ≤ hi := by
  have hN : lNumT tp n lo hi (.inr (s, g)) = if lKd tp n s g ≠ -3 then (.inl (1, (s : Int)), 0) else if 4 < lEn tp n s - s then (.inl (1, (s : Int) + 4), 0) else if lDg tp s (lEn tp n s - s) < lo ∨ hi < lDg tp s (lEn tp n s - s) then (.inl (2, (s : Int)), 0) else (.inr (lNx tp n s g), lDg tp s (lEn tp n s - s)) := rfl
  by_cases w1 : lKd tp n s g ≠ -3
  · rw [hN, if_pos w1] at h; cases h
  rw [if_neg w1] at hN
  by_cases w2 : 4 < lEn tp n s - s
  · rw [hN, if_pos w2] at h; cases h
  rw [if_neg w2] at hN
  by_cases w3 : lDg tp s (lEn tp n s - s) < lo ∨ hi < lDg tp s (lEn tp n s - s)
  · rw [hN, if_pos w3] at h; cases h
  rw [if_neg w3] at hN
  rw [hN] at h ⊢
  injection h with h
  exact ⟨by omega, h.symm, rfl, by show lo ≤ lDg _ _ _; omega, by show lDg _ _ _ ≤ hi; omega⟩
theorem lOpc_lt {m s : Nat} {g : Bool} (ho : ∀ j, j < n → 0 ≤ tp j ∧ tp j ≤ 255) (h : lOpc tp n m s g ≠ -1) : s < n := by
  unfold lOpc at h
  by_cases w : s < n
  · exact w
  have e : lB tp n s = -1 := lB_ge (by omega)
  have e2 : ¬ lKd tp n s g = -2 := fun q => by have := (lKd_end (s := s) (g := g) ho).mpr w; omega
  have e3 : ∀ w, lIs tp n (.inr (s, g)) w = false := fun w => Bool.eq_false_iff.mpr fun q => e2 (lIs_iff.mp q).1
  rw [e, e3, e3] at h
  simp at h
theorem lKd_lt {s : Nat} {g : Bool} (ho : ∀ j, j < n → 0 ≤ tp j ∧ tp j ≤ 255) (h : lKd tp n s g = -2 ∨ lKd tp n s g = -3) : s < n := by
  by_cases w : s < n
  · exact w
  · have := (lKd_end (s := s) (g := g) ho).mpr w; omega
/-- what is read is ahead, and each number of it has a byte of its own -/
theorem rd_len (ho : ∀ j, j < n → 0 ≤ tp j ∧ tp j ≤ 255) : ∀ (f m o s : Nat) (g : Bool) (q : Nat × Bool) (l : List Int), s ≤ n → m ≤ 9 → rd tp n al f m o s g = (.inr q, l) → s + l.length ≤ q.1 ∧ q.1 ≤ n ∧ ((m = 1 ∨ m = 3 ∨ m = 6 ∨ m = 8) ∨ 1 ≤ l.length)
  | 0, m, o, s, g, q, l, hs, hm, h => by cases h
  | f + 1, m, o, s, g, q, l, hs, hm, h => by
    have nx : ∀ {s g}, s ≤ n → s ≤ (lNx tp n s g).1 ∧ (lNx tp n s g).1 ≤ n ∧ (s < n → s < (lNx tp n s g).1) := fun hs => ⟨(lNx_r hs).1, (lNx_r hs).2.1, (lNx_r hs).2.2.1⟩
    have hx := @nx s g hs
    by_cases m1 : m = 1 ∨ m = 3 ∨ m = 6 ∨ m = 8
    · rw [rd_loop m1] at h
      split at h
      · injection h with h1 h2; injection h1 with h1; subst h1 h2
        exact ⟨Nat.le_refl _, hs, Or.inl m1⟩
      · rename_i w
        have hlt := lOpc_lt ho w
        obtain ⟨s1, g1, l1, h1, h⟩ := bR_inr h
        obtain ⟨s2, g2, l2, h2, h⟩ := bR_inr h
        injection h with h3 h4; injection h3 with h3; subst h3 h4
        have a := rd_len ho f (m - 1) o _ _ _ _ hx.2.1 (by omega) h1
        have b := rd_len ho f m o _ _ _ _ a.2.1 (by omega) h2
        have c := hx.2.2 hlt
        have a1 := a.1
        have b1 := b.1
        refine ⟨?_, b.2.1, Or.inl m1⟩
        show s + (l1 ++ ((-1 - lOpc tp n m s g) :: l2)).length ≤ s2
        rw [List.length_append, List.length_cons]
        show _ ≤ _
        have a1' : (lNx tp n s g).1 + l1.length ≤ s1 := a1
        have b1' : s1 + l2.length ≤ s2 := b1
        omega
    · by_cases m2 : m = 2 ∨ m = 4 ∨ m = 7 ∨ m = 9
      · rw [rd_full m2] at h
        obtain ⟨s1, g1, l1, h1, h⟩ := bR_inr h
        obtain ⟨s2, g2, l2, h2, h⟩ := bR_inr h
        injection h with h3 h4; injection h3 with h3; subst h3 h4
        have a := rd_len ho f (m - 2) o _ _ _ _ hs (by omega) h1
        have b := rd_len ho f (m - 1) o _ _ _ _ a.2.1 (by omega) h2
        have a1' : s + l1.length ≤ s1 := a.1
        have b1' : s1 + l2.length ≤ s2 := b.1
        have a3 : 1 ≤ l1.length := by rcases a.2.2 with q | q <;> omega
        refine ⟨?_, b.2.1, Or.inr ?_⟩
        · show s + (l1 ++ l2).length ≤ s2
          rw [List.length_append]; omega
        · rw [List.length_append]; omega
      · by_cases m0 : m = 0
        · subst m0
          unfold rd at h
          rw [if_pos rfl] at h
          by_cases w1 : lKd tp n s g = -3
          · rw [if_pos w1] at h
            injection h with h1 h2
            have a := lNumT_inr h1
            have c := hx.2.2 (lKd_lt ho (Or.inr w1))
            rw [a.2.1, ← h2]
            exact ⟨by simp only [List.length_cons, List.length_nil]; omega, hx.2.1, Or.inr (Nat.le_refl _)⟩
          rw [if_neg w1] at h
          by_cases w2 : lB tp n s = 40
          · rw [if_pos w2] at h
            split at h
            · cases h
            obtain ⟨s1, g1, l1, h1, h⟩ := bR_inr h
            injection h with h3 h4
            have e := lAskC_inr h3
            have a := rd_len ho f 4 (o + 1) _ _ _ _ hx.2.1 (by omega) h1
            have a1' : (lNx tp n s g).1 + l1.length ≤ s1 := a.1
            have a2' : s1 ≤ n := a.2.1
            have b := @nx s1 g1 a2'
            rw [e.2, ← h4]
            exact ⟨by omega, b.2.1, Or.inr (by rcases a.2.2 with q | q <;> omega)⟩
          rw [if_neg w2] at h
          by_cases w3 : lKd tp n s g = -2 ∧ (wHere tp n s = 17 ∨ wHere tp n s = 18)
          · rw [if_pos w3] at h
            split at h
            · split at h
              · cases h
              have c := hx.2.2 (lKd_lt ho (Or.inl w3.1))
              have hx2 := @nx (lNx tp n s g).1 (lNx tp n s g).2 hx.2.1
              obtain ⟨s1, g1, l1, h1, h⟩ := bR_inr h
              obtain ⟨s2, g2, l2, h2, h⟩ := bR_inr h
              injection h2 with h2 _
              have e2 := lAskC_inr h2
              obtain ⟨s3, g3, l3, h5, h⟩ := bR_inr h
              injection h with h3 h4
              have e := lAskC_inr h3
              have a := rd_len ho f 4 (o + 1) _ _ _ _ hx2.2.1 (by omega) h1
              have a1' : (lNx tp n (lNx tp n s g).1 (lNx tp n s g).2).1 + l1.length ≤ s1 := a.1
              have a2' : s1 ≤ n := a.2.1
              have b := @nx s1 g1 a2'
              have e3 : s2 = (lNx tp n s1 g1).1 := congrArg Prod.fst e2.2
              have a5 := rd_len ho f 4 (o + 1) s2 g2 _ _ (by omega) (by omega) h5
              have a6' : s2 + l3.length ≤ s3 := a5.1
              have a7' : s3 ≤ n := a5.2.1
              have b2 := @nx s3 g3 a7'
              rw [e.2, ← h4]
              refine ⟨?_, b2.2.1, Or.inr ?_⟩
              · rw [List.length_append, List.length_append]; simp only [List.length_cons, List.length_nil]; omega
              · rw [List.length_append, List.length_append]; simp only [List.length_cons, List.length_nil]; omega
            · cases h
          rw [if_neg w3] at h
          by_cases w4 : lKd tp n s g = -2 ∧ (0 ≤ wHere tp n s ∧ wHere tp n s ≤ 12 ∧ al (wHere tp n s).toNat = true)
          · rw [if_pos w4] at h
            have c := hx.2.2 (lKd_lt ho (Or.inl w4.1))
            split at h
            · injection h with h1 h2; injection h1 with h1
              rw [← h1, ← h2]
              exact ⟨by simp only [List.length_cons, List.length_nil]; omega, hx.2.1, Or.inr (Nat.le_refl _)⟩
            split at h
            · cases h
            obtain ⟨s1, g1, l1, h1, h⟩ := bR_inr h
            injection h with h3 h4; injection h3 with h3; subst h3 h4
            have a := rd_len ho f 0 (o + 1) _ _ _ _ hx.2.1 (by omega) h1
            have a1' : (lNx tp n s g).1 + l1.length ≤ s1 := a.1
            refine ⟨?_, a.2.1, Or.inr ?_⟩
            · show s + (l1 ++ [-1 - wHere tp n s]).length ≤ s1
              rw [List.length_append]; simp only [List.length_cons, List.length_nil]; omega
            · rw [List.length_append]; simp only [List.length_cons, List.length_nil]; omega
          rw [if_neg w4] at h
          cases h
        · have m5 : m = 5 := by omega
          subst m5
          unfold rd at h
          rw [if_neg (by decide), if_pos rfl] at h
          by_cases w1 : lKd tp n s g = -2 ∧ wHere tp n s = 13
          · rw [if_pos w1] at h
            have c := hx.2.2 (lKd_lt ho (Or.inl w1.1))
            split at h
            · cases h
            obtain ⟨s1, g1, l1, h1, h⟩ := bR_inr h
            injection h with h3 h4; injection h3 with h3; subst h3 h4
            have a := rd_len ho f 5 (o + 1) _ _ _ _ hx.2.1 (by omega) h1
            have a1' : (lNx tp n s g).1 + l1.length ≤ s1 := a.1
            refine ⟨?_, a.2.1, Or.inr ?_⟩
            · show s + (l1 ++ [-14]).length ≤ s1
              rw [List.length_append]; simp only [List.length_cons, List.length_nil]; omega
            · rw [List.length_append]; simp only [List.length_cons, List.length_nil]; omega
          rw [if_neg w1] at h
          by_cases w2 : lB tp n s = 91
          · rw [if_pos w2] at h
            split at h
            · cases h
            obtain ⟨s1, g1, l1, h1, h⟩ := bR_inr h
            injection h with h3 h4
            have e := lAskC_inr h3
            have a := rd_len ho f 9 (o + 1) _ _ _ _ hx.2.1 (by omega) h1
            have a1' : (lNx tp n s g).1 + l1.length ≤ s1 := a.1
            have a2' : s1 ≤ n := a.2.1
            have b := @nx s1 g1 a2'
            rw [e.2, ← h4]
            exact ⟨by omega, b.2.1, Or.inr (by rcases a.2.2 with q | q <;> omega)⟩
          rw [if_neg w2] at h
          by_cases w3 : lKd tp n s g = -2 ∧ wHere tp n s = 14
          · rw [if_pos w3] at h
            have c := hx.2.2 (lKd_lt ho (Or.inl w3.1))
            injection h with h1 h2; injection h1 with h1
            rw [← h1, ← h2]
            exact ⟨by simp only [List.length_cons, List.length_nil]; omega, hx.2.1, Or.inr (Nat.le_refl _)⟩
          rw [if_neg w3] at h
          obtain ⟨s1, g1, l1, h1, h⟩ := bR_inr h
          have a := rd_len ho f 4 o _ _ _ _ hs (by omega) h1
          have a1' : s + l1.length ≤ s1 := a.1
          have a2' : s1 ≤ n := a.2.1
          split at h
          · rename_i w
            have hlt : s1 < n := lB_le (tp := tp) (by omega)
            have b := @nx s1 g1 a2'
            have b3 := b.2.2 hlt
            obtain ⟨s2, g2, l2, h2, h⟩ := bR_inr h
            injection h with h3 h4; injection h3 with h3; subst h3 h4
            have a5 := rd_len ho f 4 o _ _ _ _ b.2.1 (by omega) h2
            have a6' : (lNx tp n s1 g1).1 + l2.length ≤ s2 := a5.1
            refine ⟨?_, a5.2.1, Or.inr ?_⟩
            · show s + (l1 ++ (l2 ++ [-1 - lB tp n s1])).length ≤ s2
              rw [List.length_append, List.length_append]; simp only [List.length_cons, List.length_nil]; omega
            · rw [List.length_append, List.length_append]; simp only [List.length_cons, List.length_nil]; omega
          · cases h
end Rd
