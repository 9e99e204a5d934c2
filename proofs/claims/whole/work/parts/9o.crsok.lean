/-! A course that has been read is one. -/
variable {tp : Nat → Int} {n s : Nat} {g : Bool} {D C : gCo} {τ : lT}
theorem num_in {lo hi : Int} {q : Nat × Bool} (h : (lNumT tp n lo hi τ).1 = .inr q) : (∃ p, τ = .inr p) ∧ lo ≤ (lNumT tp n lo hi τ).2 ∧ (lNumT tp n lo hi τ).2 ≤ hi := by
  match τ, h with
  | .inl b, h => cases h
  | .inr (s, g), h => exact ⟨⟨_, rfl⟩, (lNumT_inr h).2.2.2⟩
theorem askW_in {w : Nat} {q : Nat × Bool} (h : lAskW tp n τ w = .inr q) : ∃ p, τ = .inr p := by
  match τ, h with
  | .inl b, h => cases h
  | .inr p, h => exact ⟨p, rfl⟩
theorem askC_in {c : Int} {q : Nat × Bool} (h : lAskC tp n τ c = .inr q) : ∃ p, τ = .inr p := by
  match τ, h with
  | .inl b, h => cases h
  | .inr p, h => exact ⟨p, rfl⟩
theorem nIt_in {w2 : Nat} {lo2 hi2 : Int} {q : Nat × Bool} (h : (nIt tp n w2 lo2 hi2 D τ).1 = .inr q) : (0 ≤ (nIt tp n w2 lo2 hi2 D τ).2.1 ∧ (nIt tp n w2 lo2 hi2 D τ).2.1 ≤ D.1 1) ∧ lo2 ≤ (nIt tp n w2 lo2 hi2 D τ).2.2 ∧ (nIt tp n w2 lo2 hi2 D τ).2.2 ≤ hi2 := by
  have h' : (lNumT tp n lo2 hi2 (lAskW tp n (lNumT tp n 0 (D.1 1) (lAskW tp n (lNmT tp n D τ) 21)).1 w2)).1 = .inr q := h
  have a := num_in h'
  obtain ⟨p, e⟩ := a.1
  obtain ⟨p', e'⟩ := askW_in e
  have b := num_in e'
  exact ⟨b.2, a.2⟩
/-- a course being read, with nothing in it out of place -/
def dOk (D : gCo) : Prop := (5 ≤ D.1 1 ∧ D.1 1 ≤ 99) ∧ (0 ≤ D.1 2 ∧ D.1 2 ≤ 8) ∧ (0 ≤ D.1 3 ∧ D.1 3 ≤ 8) ∧ (1 ≤ D.1 4 ∧ D.1 4 ≤ 99) ∧ (0 ≤ D.1 5 ∧ D.1 5 ≤ 100) ∧ (∀ b : Nat, (b : Int) < D.1 2 → (0 ≤ D.1 (10 + b) ∧ D.1 (10 + b) ≤ D.1 1) ∧ (1 ≤ D.1 (20 + b) ∧ D.1 (20 + b) ≤ 9)) ∧ (∀ b : Nat, (b : Int) < D.1 3 → (0 ≤ D.1 (30 + b) ∧ D.1 (30 + b) ≤ D.1 1) ∧ (0 ≤ D.1 (40 + b) ∧ D.1 (40 + b) ≤ 99)) ∧ (∀ f, f < 3 → (D.1 (50 + f) = 1 ∧ gTy (alT f) (D.2 f) [] = some [decide (f = 2)]) ∨ D.1 (50 + f) = 0)
theorem dOk_congr {D D' : gCo} (h : dOk D) (e : ∀ j, 1 ≤ j → j ≤ 52 → D'.1 j = D.1 j) (e2 : D'.2 = D.2) : dOk D' := by
  obtain ⟨h1, h2, h3, h4, h5, h6, h7, h8⟩ := h
  have q1 := e 1 (by decide) (by decide)
  have q2 := e 2 (by decide) (by decide)
  have q3 := e 3 (by decide) (by decide)
  refine ⟨by rw [q1]; exact h1, by rw [q2]; exact h2, by rw [q3]; exact h3, by rw [e 4 (by decide) (by decide)]; exact h4, by rw [e 5 (by decide) (by decide)]; exact h5, fun b hb => ?_, fun b hb => ?_, fun f hf => ?_⟩
  · rw [q2] at hb
    rw [q1, e _ (by omega) (by omega), e _ (by omega) (by omega)]; exact h6 b hb
  · rw [q3] at hb
    rw [q1, e _ (by omega) (by omega), e _ (by omega) (by omega)]; exact h7 b hb
  · rw [e _ (by omega) (by omega), e2]; exact h8 f hf
theorem dUp_ok {v : Int} (h : dOk D) : dOk (dUp D 0 v) := dOk_congr h (fun j h1 _ => by show (if j = 0 then v else D.1 j) = D.1 j; rw [if_neg (by omega)]) rfl
theorem dBear_o {ltr : Nat → Int} {m p : Int} {j : Nat} (h : j ≠ 2 ∧ j ≠ 10 + (D.1 2).toNat ∧ j ≠ 20 + (D.1 2).toNat ∧ j < 100) : (dBear D ltr m p).1 j = D.1 j := by
  show (if j = 2 then D.1 2 + 1 else if j = 10 + (D.1 2).toNat then m else if j = 20 + (D.1 2).toNat then p else if 100 + 6 * (D.1 2).toNat ≤ j ∧ j < 106 + 6 * (D.1 2).toNat then ltr (j - (100 + 6 * (D.1 2).toNat)) else D.1 j) = D.1 j
  rw [if_neg h.1, if_neg h.2.1, if_neg h.2.2.1, if_neg (by omega)]
theorem dHous_o {ltr : Nat → Int} {m p : Int} {j : Nat} (h : j ≠ 3 ∧ j ≠ 30 + (D.1 3).toNat ∧ j ≠ 40 + (D.1 3).toNat ∧ j < 100) : (dHous D ltr m p).1 j = D.1 j := by
  show (if j = 3 then D.1 3 + 1 else if j = 30 + (D.1 3).toNat then m else if j = 40 + (D.1 3).toNat then p else if 148 + 6 * (D.1 3).toNat ≤ j ∧ j < 154 + 6 * (D.1 3).toNat then ltr (j - (148 + 6 * (D.1 3).toNat)) else D.1 j) = D.1 j
  rw [if_neg h.1, if_neg h.2.1, if_neg h.2.2.1, if_neg (by omega)]
theorem dBear_ok {ltr : Nat → Int} {m p : Int} (h : dOk D) (h8 : ¬ D.1 2 = 8) (hm : 0 ≤ m ∧ m ≤ D.1 1) (hp : 1 ≤ p ∧ p ≤ 9) : dOk (dBear D ltr m p) := by
  obtain ⟨h1, h2, h3, h4, h5, h6, h7, hf⟩ := h
  have v2 : (dBear D ltr m p).1 2 = D.1 2 + 1 := rfl
  have v10 : (dBear D ltr m p).1 (10 + (D.1 2).toNat) = m := by
    show (if 10 + (D.1 2).toNat = 2 then D.1 2 + 1 else if 10 + (D.1 2).toNat = 10 + (D.1 2).toNat then m else _) = m
    rw [if_neg (by omega), if_pos rfl]
  have v20 : (dBear D ltr m p).1 (20 + (D.1 2).toNat) = p := by
    show (if 20 + (D.1 2).toNat = 2 then D.1 2 + 1 else if 20 + (D.1 2).toNat = 10 + (D.1 2).toNat then m else if 20 + (D.1 2).toNat = 20 + (D.1 2).toNat then p else _) = p
    rw [if_neg (by omega), if_neg (by omega), if_pos rfl]
  have v1 : (dBear D ltr m p).1 1 = D.1 1 := dBear_o (by omega)
  have v3 : (dBear D ltr m p).1 3 = D.1 3 := dBear_o (by omega)
  refine ⟨by rw [v1]; exact h1, by rw [v2]; omega, by rw [v3]; exact h3, by rw [dBear_o (by omega)]; exact h4, by rw [dBear_o (by omega)]; exact h5, fun b hb => ?_, fun b hb => ?_, fun f hf3 => ?_⟩
  · rw [v2] at hb
    by_cases e : b = (D.1 2).toNat
    · rw [e, v10, v20, v1]; exact ⟨hm, hp⟩
    · rw [v1, dBear_o (by omega), dBear_o (by omega)]; exact h6 b (by omega)
  · rw [v3] at hb
    rw [v1, dBear_o (by omega), dBear_o (by omega)]; exact h7 b hb
  · rw [dBear_o (by omega)]; exact hf f hf3
theorem dHous_ok {ltr : Nat → Int} {m p : Int} (h : dOk D) (h8 : ¬ D.1 3 = 8) (hm : 0 ≤ m ∧ m ≤ D.1 1) (hp : 0 ≤ p ∧ p ≤ 99) : dOk (dHous D ltr m p) := by
  obtain ⟨h1, h2, h3, h4, h5, h6, h7, hf⟩ := h
  have v3 : (dHous D ltr m p).1 3 = D.1 3 + 1 := rfl
  have v30 : (dHous D ltr m p).1 (30 + (D.1 3).toNat) = m := by
    show (if 30 + (D.1 3).toNat = 3 then D.1 3 + 1 else if 30 + (D.1 3).toNat = 30 + (D.1 3).toNat then m else _) = m
    rw [if_neg (by omega), if_pos rfl]
  have v40 : (dHous D ltr m p).1 (40 + (D.1 3).toNat) = p := by
    show (if 40 + (D.1 3).toNat = 3 then D.1 3 + 1 else if 40 + (D.1 3).toNat = 30 + (D.1 3).toNat then m else if 40 + (D.1 3).toNat = 40 + (D.1 3).toNat then p else _) = p
    rw [if_neg (by omega), if_neg (by omega), if_pos rfl]
  have v1 : (dHous D ltr m p).1 1 = D.1 1 := dHous_o (by omega)
  have v2 : (dHous D ltr m p).1 2 = D.1 2 := dHous_o (by omega)
  refine ⟨by rw [v1]; exact h1, by rw [v2]; exact h2, by rw [v3]; omega, by rw [dHous_o (by omega)]; exact h4, by rw [dHous_o (by omega)]; exact h5, fun b hb => ?_, fun b hb => ?_, fun f hf3 => ?_⟩
  · rw [v2] at hb
    rw [v1, dHous_o (by omega), dHous_o (by omega)]; exact h6 b hb
  · rw [v3] at hb
    by_cases e : b = (D.1 3).toNat
    · rw [e, v30, v40, v1]; exact ⟨hm, hp⟩
    · rw [v1, dHous_o (by omega), dHous_o (by omega)]; exact h7 b (by omega)
  · rw [dHous_o (by omega)]; exact hf f hf3
theorem dUp4_ok {v : Int} (h : dOk D) (hv : 1 ≤ v ∧ v ≤ 99) : dOk (dUp D 4 v) := by
  obtain ⟨h1, h2, h3, h4, h5, h6, h7, hf⟩ := h
  have o : ∀ j, j ≠ 4 → (dUp D 4 v).1 j = D.1 j := fun j hj => if_neg hj
  refine ⟨h1, h2, h3, hv, h5, fun b hb => ?_, fun b hb => ?_, fun f hf3 => ?_⟩
  · rw [o 1 (by omega), o _ (by omega), o _ (by omega)]; exact h6 b hb
  · rw [o 1 (by omega), o _ (by omega), o _ (by omega)]; exact h7 b hb
  · rw [o _ (by omega)]; exact hf f hf3
theorem dUp5_ok {v : Int} (h : dOk D) (hv : 0 ≤ v ∧ v ≤ 100) : dOk (dUp D 5 v) := by
  obtain ⟨h1, h2, h3, h4, h5, h6, h7, hf⟩ := h
  have o : ∀ j, j ≠ 5 → (dUp D 5 v).1 j = D.1 j := fun j hj => if_neg hj
  refine ⟨h1, h2, h3, h4, hv, fun b hb => ?_, fun b hb => ?_, fun f hf3 => ?_⟩
  · rw [o 1 (by omega), o _ (by omega), o _ (by omega)]; exact h6 b hb
  · rw [o 1 (by omega), o _ (by omega), o _ (by omega)]; exact h7 b hb
  · rw [o _ (by omega)]; exact hf f hf3
theorem dForm_ok {f : Nat} {l : List Int} (h : dOk D) (hf3 : f < 3) (hl : gTy (alT f) l [] = some [decide (f = 2)]) : dOk (dForm D f l) := by
  obtain ⟨h1, h2, h3, h4, h5, h6, h7, hf⟩ := h
  have o : ∀ j, j ≠ 50 + f → (dForm D f l).1 j = D.1 j := fun j hj => if_neg hj
  refine ⟨by rw [o 1 (by omega)]; exact h1, by rw [o 2 (by omega)]; exact h2, by rw [o 3 (by omega)]; exact h3, by rw [o 4 (by omega)]; exact h4, by rw [o 5 (by omega)]; exact h5, fun b hb => ?_, fun b hb => ?_, fun f' hf' => ?_⟩
  · rw [o 2 (by omega)] at hb
    rw [o 1 (by omega), o _ (by omega), o _ (by omega)]; exact h6 b hb
  · rw [o 3 (by omega)] at hb
    rw [o 1 (by omega), o _ (by omega), o _ (by omega)]; exact h7 b hb
  · by_cases e : f' = f
    · rw [e]
      exact Or.inl ⟨if_pos rfl, by rw [show (dForm D f l).2 f = l from if_pos rfl]; exact hl⟩
    · rw [o _ (by omega), show (dForm D f l).2 f' = D.2 f' from if_neg e]; exact hf f' hf'
theorem nSt_ok {q : Nat × Bool} (h : dOk D) (e : (nSt tp n D s g).1 = .inr q) : dOk (nSt tp n D s g).2 := by
  unfold nSt at e ⊢
  by_cases w1 : wKd tp n s g = 20
  · rw [if_pos w1] at e ⊢
    by_cases w : D.1 2 = 8
    · rw [if_pos w] at e; cases e
    · rw [if_neg w] at e ⊢
      obtain ⟨p, e'⟩ := askC_in e
      have a := nIt_in e'
      exact dBear_ok h w a.1 a.2
  rw [if_neg w1] at e ⊢
  by_cases w2 : wKd tp n s g = 22
  · rw [if_pos w2] at e ⊢
    by_cases w : D.1 3 = 8
    · rw [if_pos w] at e; cases e
    · rw [if_neg w] at e ⊢
      obtain ⟨p, e'⟩ := askC_in e
      have a := nIt_in e'
      exact dHous_ok h w a.1 a.2
  rw [if_neg w2] at e ⊢
  by_cases w3 : wKd tp n s g = 23
  · rw [if_pos w3] at e ⊢
    obtain ⟨p, e'⟩ := askC_in e
    exact dUp4_ok h (num_in e').2
  rw [if_neg w3] at e ⊢
  by_cases w4 : wKd tp n s g = 26
  · rw [if_pos w4] at e ⊢
    obtain ⟨p, e'⟩ := askC_in e
    exact dUp5_ok h (num_in e').2
  rw [if_neg w4] at e ⊢
  by_cases w5 : wKd tp n s g = 3 ∨ wKd tp n s g = 24 ∨ wKd tp n s g = 25
  · rw [if_pos w5] at e ⊢
    have hf := @fOf_lt (wKd tp n s g)
    generalize fOf (wKd tp n s g) = f at e hf ⊢
    by_cases w : D.1 (50 + f) = 1
    · rw [if_pos w] at e; cases e
    · rw [if_neg w] at e ⊢
      obtain ⟨p, e'⟩ := askC_in e
      refine dForm_ok h hf ?_
      match hr : rd tp n (alT f) (10 * n + 20) (if f = 2 then 9 else 4) 0 (lNx tp n s g).1 (lNx tp n s g).2 with
      | (t, l) =>
        rw [hr] at e'
        have e'' : t = .inr p := e'
        rw [e''] at hr
        show gTy (alT f) l [] = _
        by_cases f2 : f = 2
        · rw [if_pos f2] at hr
          rw [decide_eq_true f2]; exact rd_ty9 hr
        · rw [if_neg f2] at hr
          rw [decide_eq_false f2]; exact rd_ty4 hr
  · rw [if_neg w5] at e; cases e
theorem nSt_0 : (nSt tp n D s g).2.1 0 = D.1 0 := by
  unfold nSt
  split
  · split
    · rfl
    · show (if 0 = 2 then D.1 2 + 1 else if 0 = 10 + (D.1 2).toNat then _ else if 0 = 20 + (D.1 2).toNat then _ else if 100 + 6 * (D.1 2).toNat ≤ 0 ∧ 0 < 106 + 6 * (D.1 2).toNat then _ else D.1 0) = D.1 0
      rw [if_neg (by decide), if_neg (by omega), if_neg (by omega), if_neg (by omega)]
  split
  · split
    · rfl
    · show (if 0 = 3 then D.1 3 + 1 else if 0 = 30 + (D.1 3).toNat then _ else if 0 = 40 + (D.1 3).toNat then _ else if 148 + 6 * (D.1 3).toNat ≤ 0 ∧ 0 < 154 + 6 * (D.1 3).toNat then _ else D.1 0) = D.1 0
      rw [if_neg (by decide), if_neg (by omega), if_neg (by omega), if_neg (by omega)]
  split
  · rfl
  split
  · rfl
  split
  · split
    · rfl
    · show (if 0 = 50 + _ then (1 : Int) else D.1 0) = D.1 0
      rw [if_neg (by omega)]
  · rfl
theorem nLp_ok : ∀ (m : Nat) (τ : lT) (D : gCo) (q : Nat × Bool), m ≤ 59 → D.1 0 = 60 - m → (∀ p, τ = .inr p → dOk D) → (nLp tp n m τ D).1 = .inr q → dOk (nLp tp n m τ D).2 ∧ 1 ≤ (nLp tp n m τ D).2.1 0 ∧ (nLp tp n m τ D).2.1 0 ≤ 60
  | m, .inl b, D, q, hm, h0, hD, e => by
    have e' : nLp tp n m (.inl b) D = (.inl b, D) := by cases m <;> rfl
    rw [e'] at e; cases e
  | 0, .inr (s, g), D, q, hm, h0, hD, e => by
    exact ⟨hD _ rfl, by show 1 ≤ D.1 0; omega, by show D.1 0 ≤ 60; omega⟩
  | m + 1, .inr (s, g), D, q, hm, h0, hD, e => by
    have e' : nLp tp n (m + 1) (.inr (s, g)) D = if s < n then nLp tp n m (nSt tp n D s g).1 (dUp (nSt tp n D s g).2 0 (D.1 0 + 1)) else (.inr (s, g), D) := rfl
    rw [e'] at e ⊢
    by_cases w : s < n
    · rw [if_pos w] at e ⊢
      exact nLp_ok m _ _ q (by omega) (by show D.1 0 + 1 = 60 - (m : Int); omega) (fun p ep => dUp_ok (nSt_ok (hD _ rfl) ep)) e
    · rw [if_neg w] at e ⊢
      exact ⟨hD _ rfl, by show 1 ≤ D.1 0; omega, by show D.1 0 ≤ 60; omega⟩
theorem nCrs_ok (ho : ∀ j, j < n → 0 ≤ tp j ∧ tp j ≤ 255) {q : Nat × Bool} (e : (nCrs tp n).1 = .inr q) (hC : dEq C (nCrs tp n).2) : cOk C := by
  have hE : nCrs tp n = nLp tp n 59 (nHd tp n) (nD0 (nHm tp n)) := rfl
  rw [hE] at e hC
  have a := nLp_ok 59 (nHd tp n) (nD0 (nHm tp n)) q (Nat.le_refl _) rfl (fun p ep => by
    have r := nHd_r ho ep
    refine ⟨⟨r.2.2.1, r.2.2.2⟩, ⟨Int.le_refl 0, by show (0 : Int) ≤ 8; omega⟩, ⟨Int.le_refl 0, by show (0 : Int) ≤ 8; omega⟩, ⟨by show (1 : Int) ≤ 50; omega, by show (50 : Int) ≤ 99; omega⟩, ⟨Int.le_refl 0, by show (0 : Int) ≤ 100; omega⟩, fun b hb => absurd (show (b : Int) < 0 from hb) (by omega), fun b hb => absurd (show (b : Int) < 0 from hb) (by omega), fun f hf => Or.inr ?_⟩
    show (if 50 + f = 0 then (1 : Int) else if 50 + f = 1 then nHm tp n else if 50 + f = 4 then 50 else 0) = 0
    rw [if_neg (by omega), if_neg (by omega), if_neg (by omega)]) e
  generalize (nLp tp n 59 (nHd tp n) (nD0 (nHm tp n))).2 = D at a hC
  obtain ⟨⟨h1, h2, h3, h4, h5, h6, h7, hf⟩, h0⟩ := a
  obtain ⟨c0, cB, cH, cF, cN⟩ := hC
  have k1 := c0 1 (by decide)
  refine ⟨by rw [c0 0 (by decide)]; exact h0, by rw [k1]; exact h1, by rw [c0 2 (by decide)]; exact h2, by rw [c0 3 (by decide)]; exact h3, by rw [c0 4 (by decide)]; exact h4, by rw [c0 5 (by decide)]; exact h5, fun b hb => ?_, fun b hb => ?_, ?_, ?_, ?_⟩
  · rw [c0 2 (by decide)] at hb
    rw [(cB b hb).1, (cB b hb).2, k1]; exact h6 b hb
  · rw [c0 3 (by decide)] at hb
    rw [(cH b hb).1, (cH b hb).2, k1]; exact h7 b hb
  · rw [(cF 0 (by decide)).2]
    unfold dDef
    rcases hf 0 (by decide) with ⟨w, t⟩ | w
    · rw [if_pos w]; exact t
    · rw [if_neg (by omega)]; rfl
  · rw [(cF 1 (by decide)).2]
    unfold dDef
    rcases hf 1 (by decide) with ⟨w, t⟩ | w
    · rw [if_pos w]; exact t
    · rw [if_neg (by omega)]; rfl
  · rw [(cF 2 (by decide)).2, show C.1 52 = D.1 52 from (cF 2 (by decide)).1]
    unfold dDef
    rcases hf 2 (by decide) with ⟨w, t⟩ | w
    · rw [if_pos w, show D.1 52 = 1 from w]; exact t
    · rw [if_neg (by omega), show D.1 52 = 0 from w]; rfl
theorem gBgN_r (hc : cOk C) : ∀ (k b : Nat) (w m : Int), (-1 ≤ w ∧ w < C.1 2) → (0 ≤ m ∧ m ≤ C.1 1) → (-1 ≤ (gBgN C k b w m).1 ∧ (gBgN C k b w m).1 < C.1 2) ∧ (0 ≤ (gBgN C k b w m).2 ∧ (gBgN C k b w m).2 ≤ C.1 1)
  | 0, _, _, _, hw, hm => ⟨hw, hm⟩
  | k + 1, b, w, m, hw, hm => by
    show (-1 ≤ (if (b : Int) < C.1 2 ∧ (w = -1 ∨ C.1 (10 + b) < m) then gBgN C k (b + 1) b (C.1 (10 + b)) else gBgN C k (b + 1) w m).1 ∧ _) ∧ _
    by_cases y : (b : Int) < C.1 2 ∧ (w = -1 ∨ C.1 (10 + b) < m)
    · rw [show gBgN C (k + 1) b w m = gBgN C k (b + 1) b (C.1 (10 + b)) from if_pos y, if_pos y]
      exact gBgN_r hc k (b + 1) b _ (by omega) (hc.2.2.2.2.2.2.1 b y.1).1
    · rw [show gBgN C (k + 1) b w m = gBgN C k (b + 1) w m from if_neg y, if_neg y]
      exact gBgN_r hc k (b + 1) w m hw hm
theorem gBeg_ok (hc : cOk C) : tOk C (gBeg C) := by
  have r1 := hc.2.1
  have r2 := hc.2.2.1
  have r4 := hc.2.2.2.2.1
  have r := gBgN_r hc 8 0 (-1) 0 (by omega) (by omega)
  refine ⟨⟨Int.le_refl 0, by show (0 : Int) ≤ 2000; omega⟩, r.2, ⟨by show 0 ≤ C.1 4; omega, r4.2⟩, r.1, ⟨Int.le_refl 0, by show (0 : Int) < 256; omega⟩, ⟨Int.le_refl 0, by show (0 : Int) < 256; omega⟩, fun b hb => ?_⟩
  have e : gBeg C (10 + b) = C.1 (10 + b) := by
    show (if 10 + b = 1 then (gBgN C 8 0 (-1) 0).2 else if 10 + b = 2 then C.1 4 else if 10 + b = 3 then (gBgN C 8 0 (-1) 0).1 else if 10 ≤ 10 + b ∧ 10 + b < 18 then C.1 (10 + b) else 0) = C.1 (10 + b)
    rw [if_neg (by omega), if_neg (by omega), if_neg (by omega), if_pos (by omega)]
  rw [e]; exact (hc.2.2.2.2.2.2.1 b hb).1
