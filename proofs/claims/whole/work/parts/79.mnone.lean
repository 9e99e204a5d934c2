/-! The model without a course: what is seen, an image. -/
variable {d S : Nat} {h : Nat × Option gNm} {I : Nat → Nat → Nat → Int32} {J : Nat → Nat → Nat → Int64} {Q : Option gV → gW → Prop}
theorem n_on0 {x1 x2 : Option gV} {rf : Nat → Int32} (z : I 50 0 48 = 0) (hf : mRf I rf) (K0 : ∀ (I' : Nat → Nat → Nat → Int32), (∀ k i j, ¬ ((k = 50 ∧ i = 0 ∧ j = 1) ∨ (k = 52 ∧ i = 0)) → I' k i j = I k i j) → I' 50 0 1 = 0 → mRf I' (gRef rf 5) → Q (some (.inl 0)) (gwd S I' J h)) : (gq (d + 4) 283 0 [some (.inr (.inr (some (50, 0)))), x1, x2] [] (gwd S I J h) Q) := by
  rw [gb_283_0]
  generalize I 50 0 1 = A
  have hF0 : (∀ k i j, ¬ ((k = 50 ∧ i = 0 ∧ j = 1)) → gup I 50 0 1 0 k i j = I k i j) := fun k i j hn => u_ne (by omega)
  have hz0 : gup I 50 0 1 0 50 0 1 = 0 := u_eq
  generalize gup I 50 0 1 0 = I0 at hF0 hz0
  rw [gb_282_0, n_bearers, Option.toList_some, List.singleton_append, gb_282_6, if_pos (by rw [hF0 _ _ _ (by omega)]; exact z), gb_282_72, Option.toList_some, List.singleton_append, gb_283_15, if_pos rfl, gb_283_18]
  refine ⟨rfl, ?_⟩
  rw [gb_283_25]
  refine ⟨rfl, ?_⟩
  rw [show (5 : Int32).toNatClampNeg = 5 from rfl, gb_283_28]
  exact K0 _ (fun k i j hn => by rw [u_ne (by omega), hF0 _ _ _ (by omega)]) (by rw [u_k (by decide)]; exact hz0) (mRf_up (by decide) fun k hk => by rw [hF0 _ _ _ (by omega)]; exact hf k hk)
theorem n_see0 {x1 x2 x3 : Option gV} {ln : Int} {rf : Nat → Int32} (z : I 54 0 7 = 0) (hl : (I 50 0 1).toInt = ln) (hr : 0 ≤ ln ∧ ln ≤ 1600) (hf : mRf I rf)
    (K0 : ∀ (I' : Nat → Nat → Nat → Int32), (∀ k i j, ¬ ((k = 52 ∧ i = 0) ∨ (k = 50 ∧ i = 0 ∧ j = 1)) → I' k i j = I k i j) → mRf I' (gRef rf 1) → I' 50 0 1 = 0 → Q (some (.inl (Int32.ofInt (-1)))) (gwd S I' J h)) : (gq (d + 2) 231 0 [some (.inr (.inr (some (50, 0)))), x1, x2, x3] [] (gwd S I J h) Q) := by
  have e3 : (3 : Int32).toInt = 3 := rfl
  have e30 : (30 : Int32).toInt = 30 := rfl
  have e16 : (16 : Int32).toInt = 16 := rfl
  have q1 : (I 50 0 1 / 3).toInt = ln / 3 := by rw [z_div (by omega) (by omega), hl, e3]
  have q2 : (I 50 0 1 - I 50 0 1 / 3 * 3).toInt = ln % 3 := by rw [z_rem (by omega) (by omega), hl, e3]
  rw [gb_231_0]
  generalize hA : I 50 0 1 = A at hl q1 q2
  have hF : (∀ k i j, ¬ ((k = 50 ∧ i = 0 ∧ j = 1)) → gup I 50 0 1 0 k i j = I k i j) := fun k i j hn => u_ne (by omega)
  have hI : gup I 50 0 1 0 50 0 1 = 0 := u_eq
  generalize gup I 50 0 1 0 = I0 at hF hI
  have z7 : (I0 54 0 7).toInt = 0 := by rw [hF _ _ _ (by omega), z]; rfl
  have bad : ∀ a3 : Int32, (gq (d + 2) 231 95 [some (.inr (.inr (some (50, 0)))), some (.inl (A)), some (.inl (0)), some (.inl (a3))] [] (gwd S I0 J h) Q) := fun a3 => by
    rw [gb_231_95, if_pos rfl, gb_231_99]
    refine n_refuses (w := 1) (rf := rf) rfl (by decide) (fun k hk => by rw [hF _ _ _ (by omega)]; exact hf k hk) fun I1 hF1 hf1 => ?_
    rw [Option.toList_some, List.singleton_append, gb_231_104]
    exact K0 I1 (fun k i j hn => by rw [hF1 _ _ _ (by omega), hF _ _ _ (by omega)]) hf1 (by rw [hF1 _ _ _ (by omega)]; exact hI)
  have bad2 : ∀ a3 : Int32, (gq (d + 2) 231 36 [some (.inr (.inr (some (50, 0)))), some (.inl (A)), some (.inl (0)), some (.inl (a3))] [] (gwd S I0 J h) Q) := fun a3 => by
    rw [gb_231_36]
    by_cases w : A ≤ a3
    · rw [if_pos w]; exact bad _
    · rw [if_neg w, gb_231_41, if_pos rfl]; exact bad _
  have no : ∀ x2 x3 : Option gV, (gq (d + 2) 231 32 [some (.inr (.inr (some (50, 0)))), some (.inl (A)), x2, x3] [] (gwd S I0 J h) Q) := fun x2 x3 => by
    rw [gb_231_32, gb_231_33]; exact bad2 _
  by_cases w0 : A ≤ 0
  · rw [if_pos w0]; exact no _ _
  rw [if_neg w0, gb_231_14]
  rw [z_le] at w0
  by_cases w1 : A - A / 3 * 3 = 0
  case neg => rw [if_neg w1]; exact no _ _
  rw [if_pos w1, gb_231_20]
  by_cases w2 : 16 < A / 3
  · rw [if_pos w2]; exact no _ _
  have w1' : ln % 3 = 0 := by rw [← q2, w1]; rfl
  rw [z_lt, q1, e16] at w2
  have z0 : (0 : Int32).toInt = 0 := rfl
  have n87 : (gq (d + 2) 231 87 [some (.inr (.inr (some (50, 0)))), some (.inl (A)), some (.inl (1)), some (.inl (0))] [] (gwd S I0 J h) Q) := by
    rw [gb_231_87, gb_231_88]; exact bad2 _
  rw [if_neg (by rw [z_lt, q1, e16]; omega), gb_231_28, gb_231_33, gb_231_36, if_neg (by rw [z_le]; omega), gb_231_41, if_neg (by decide), gb_231_45]
  refine ⟨rfl, ?_⟩
  rw [gb_231_51]
  by_cases w3 : 30 < I0 51 0 ((0 : Int32).toNatClampNeg)
  · rw [if_pos w3]; exact n87
  rw [if_neg w3, gb_231_56]
  refine ⟨rfl, ?_⟩
  rw [gb_231_65, n_isHouse (by omega), Option.toList_some, List.singleton_append, gb_231_68, if_pos (zb_neg (by omega))]
  exact n87
