/-! The model without a course. -/
variable {d S : Nat} {h : Nat × Option gNm} {I : Nat → Nat → Nat → Int32} {J : Nat → Nat → Nat → Int64} {Q : Option gV → gW → Prop}
theorem n_isAhead0 {a1 a2 a3 : Int32} (z : I 50 0 48 = 0) : (gq (d + 1) 211 0 [some (.inr (.inr (some (50, 0)))), some (.inl (a1)), some (.inl (a2)), some (.inl (a3))] [] (gwd S I J h) Q) ↔ Q (some (.inl 0)) (gwd S I J h) := by
  rw [gb_211_0, if_pos z]
  simp only [gb_211_37, gb_211_38, g_t0, true_and]
theorem n_later0 {a1 a2 : Int32} {x3 : Option gV} (z : I 50 0 48 = 0) (K : ∀ x : Int32, x.toInt = -1 → Q (some (.inl x)) (gwd S I J h)) : (gq (d + 9) 220 0 [some (.inr (.inr (some (50, 0)))), some (.inl (a1)), some (.inl (a2)), x3] [] (gwd S I J h) Q) := by
  rw [gb_220_0, n_isAhead0 z, Option.toList_some, List.singleton_append, gb_220_8, if_pos rfl, gb_220_23, gb_220_24]; exact K _ rfl
theorem n_through0 {x1 : Option gV} (z : I 50 0 48 = 0) (K : ∀ x : Int32, x.toInt = -1 → Q (some (.inl x)) (gwd S I J h)) : (gq (d + 9) 222 0 [some (.inr (.inr (some (50, 0)))), x1] [] (gwd S I J h) Q) := by
  rw [gb_222_0, if_pos z, gb_222_7, gb_222_8]; exact K _ rfl
theorem n_few0 {x1 x2 x3 x4 : Option gV} (z : I 50 0 48 = 0) (K : ∀ x : Int32, x.toInt = -1 → Q (some (.inl x)) (gwd S I J h)) : (gq (d + 9) 223 0 [some (.inr (.inr (some (50, 0)))), x1, x2, x3, x4] [] (gwd S I J h) Q) := by
  rw [gb_223_0, if_pos z, gb_223_7, gb_223_8]; exact K _ rfl
theorem n_post0 {a1 a2 : Int32} {x3 x4 x5 x6 : Option gV} (z : I 54 0 6 = 0) (K : ∀ x : Int32, x.toInt = -1 → Q (some (.inl x)) (gwd S I J h)) : (gq (d + 10) 225 0 [some (.inr (.inr (some (50, 0)))), some (.inl (a1)), some (.inl (a2)), x3, x4, x5, x6] [] (gwd S I J h) Q) := by
  have z6 : (I 54 0 6).toInt = 0 := by rw [z]; rfl
  rw [gb_225_0, n_isBearer (by omega), Option.toList_some, List.singleton_append, gb_225_6, if_pos (zb_neg (by omega)), gb_225_29]
  simp only [gb_225_30]
  exact K _ rfl
theorem n_change0 {a1 : Int32} {x2 x3 x4 x5 x6 x7 : Option gV} (z : I 50 0 48 = 0) (K : ∀ x : Int32, x.toInt = -1 → Q (some (.inl x)) (gwd S I J h)) : (gq (d + 10) 226 0 [some (.inr (.inr (some (50, 0)))), some (.inl (a1)), x2, x3, x4, x5, x6, x7] [] (gwd S I J h) Q) := by
  rw [gb_226_0, if_pos z, gb_226_19, gb_226_20]; exact K _ rfl
theorem n_least0 {x1 x2 : Option gV} (z : I 50 0 48 = 0) (K : ∀ x : Int32, x.toInt = -1 → Q (some (.inl x)) (gwd S I J h)) : (gq (d + 9) 227 0 [some (.inr (.inr (some (50, 0)))), x1, x2] [] (gwd S I J h) Q) := by
  rw [gb_227_0, if_pos z, gb_227_7, gb_227_8]; exact K _ rfl
theorem n_odds0 {x1 x2 : Option gV} (z : I 50 0 48 = 0) (K : ∀ x : Int32, x.toInt = -1 → Q (some (.inl x)) (gwd S I J h)) : (gq (d + 8) 229 0 [some (.inr (.inr (some (50, 0)))), x1, x2] [] (gwd S I J h) Q) := by
  rw [gb_229_0, n_isAhead0 z, Option.toList_some, List.singleton_append]
  simp only [gb_229_7, if_pos, gb_229_10, gb_229_11]
  exact K _ rfl
theorem n_strengths0 {a1 : Int32} {x2 x3 : Option gV} (z : I 50 0 48 = 0) (K : ∀ x : Int32, x.toInt = -1 → Q (some (.inl x)) (gwd S I J h)) : (gq (d + 9) 234 0 [some (.inr (.inr (some (50, 0)))), some (.inl (a1)), x2, x3] [] (gwd S I J h) Q) := by
  rw [gb_234_0, if_pos z, gb_234_12, gb_234_13]; exact K _ rfl
theorem n_tells0 {a1 : Int32} {x2 x3 x4 x5 x6 x7 : Option gV} (z : I 50 0 48 = 0) (K : ∀ x : Int32, x.toInt = -1 → Q (some (.inl x)) (gwd S I J h)) : (gq (d + 9) 236 0 [some (.inr (.inr (some (50, 0)))), some (.inl (a1)), x2, x3, x4, x5, x6, x7] [] (gwd S I J h) Q) := by
  rw [gb_236_0, if_pos z, gb_236_19, gb_236_20]; exact K _ rfl
theorem n_hours0 {a1 : Int32} {rf : Nat → Int32} (z : I 50 0 48 = 0) (hf : mRf I rf) (K0 : ∀ (I' : Nat → Nat → Nat → Int32), (∀ k i j, ¬ ((k = 52 ∧ i = 0)) → I' k i j = I k i j) → mRf I' (gRef rf 3) → Q (some (.inl (Int32.ofInt (-1)))) (gwd S I' J h)) : (gq (d + 9) 244 0 [some (.inr (.inr (some (50, 0)))), some (.inl (a1))] [] (gwd S I J h) Q) := by
  rw [gb_244_0, n_isAhead0 z, Option.toList_some, List.singleton_append, gb_244_8, if_pos rfl, gb_244_11]
  refine n_refuses (w := 3) rfl (by decide) hf fun I1 hF1 hf1 => ?_
  rw [Option.toList_some, List.singleton_append, gb_244_16]
  exact K0 I1 hF1 hf1
theorem n_chance0 {a1 : Int32} {x2 x3 : Option gV} {rf : Nat → Int32} (z : I 50 0 48 = 0) (hf : mRf I rf) (K0 : ∀ (I' : Nat → Nat → Nat → Int32), (∀ k i j, ¬ ((k = 52 ∧ i = 0)) → I' k i j = I k i j) → mRf I' (gRef rf 3) → Q (some (.inl (Int32.ofInt (-1)))) (gwd S I' J h)) : (gq (d + 8) 247 0 [some (.inr (.inr (some (50, 0)))), some (.inl (a1)), x2, x3] [] (gwd S I J h) Q) := by
  rw [gb_247_0, n_isAhead0 z, Option.toList_some, List.singleton_append, gb_247_8, if_pos rfl, gb_247_11]
  refine n_refuses (w := 3) rfl (by decide) hf fun I1 hF1 hf1 => ?_
  rw [Option.toList_some, List.singleton_append, gb_247_16]
  exact K0 I1 hF1 hf1
theorem n_isChanged0 {a2 a3 : Int32} {rf : Nat → Int32} (hf : mRf I rf) (K0 : ∀ (I' : Nat → Nat → Nat → Int32), (∀ k i j, ¬ ((k = 52 ∧ i = 0)) → I' k i j = I k i j) → mRf I' (gRef rf 2) → Q (some (.inl 0)) (gwd S I' J h)) : (gq (d + 1) 239 0 [some (.inr (.inr (some (50, 0)))), some (.inl (0)), some (.inl (a2)), some (.inl (a3))] [] (gwd S I J h) Q) := by
  rw [gb_239_0, if_pos rfl, gb_239_14]
  refine ⟨rfl, ?_⟩
  rw [gb_239_21]
  refine ⟨rfl, ?_⟩
  rw [show (2 : Int32).toNatClampNeg = 2 from rfl, gb_239_24]
  exact K0 _ (fun k i j hn => u_ne (by omega)) (mRf_up (by decide) hf)
theorem n_waits0 {a1 : Int32} (z : I 54 0 6 = 0) : (gq (d + 2) 240 0 [some (.inr (.inr (some (50, 0)))), some (.inl (a1))] [] (gwd S I J h) Q) ↔ Q (some (.inl 0)) (gwd S I J h) := by
  have z6 : (I 54 0 6).toInt = 0 := by rw [z]; rfl
  rw [gb_240_0, n_isBearer (by omega), Option.toList_some, List.singleton_append, gb_240_6, if_pos (zb_neg (by omega)), gb_240_23, gb_240_24, g_t0, true_and]
theorem n_place0 {a1 a2 : Int32} {x3 : Option gV} {rf : Nat → Int32} (z : I 54 0 6 = 0) (hf : mRf I rf) (K0 : ∀ (I' : Nat → Nat → Nat → Int32), (∀ k i j, ¬ ((k = 52 ∧ i = 0)) → I' k i j = I k i j) → mRf I' (gRef rf 2) → Q (some (.inl 0)) (gwd S I' J h)) : (gq (d + 3) 241 0 [some (.inr (.inr (some (50, 0)))), some (.inl (a1)), some (.inl (a2)), x3] [] (gwd S I J h) Q) := by
  rw [gb_241_0, n_waits0 z, Option.toList_some, List.singleton_append, gb_241_5, if_pos rfl, gb_241_20, gb_241_21, if_pos rfl, gb_241_36, gb_241_37]
  refine n_isChanged0 hf fun I1 hF1 hf1 => ?_
  rw [Option.toList_some, List.singleton_append, gb_241_41, g_t0, true_and]
  exact K0 I1 hF1 hf1
theorem n_asides0 {a1 a2 : Int32} {x3 : Option gV} {rf : Nat → Int32} (z : I 54 0 6 = 0) (hf : mRf I rf) (K0 : ∀ (I' : Nat → Nat → Nat → Int32), (∀ k i j, ¬ ((k = 52 ∧ i = 0)) → I' k i j = I k i j) → mRf I' (gRef rf 2) → Q (some (.inl 0)) (gwd S I' J h)) : (gq (d + 3) 242 0 [some (.inr (.inr (some (50, 0)))), some (.inl (a1)), some (.inl (a2)), x3] [] (gwd S I J h) Q) := by
  rw [gb_242_0, n_waits0 z, Option.toList_some, List.singleton_append, gb_242_5, if_pos rfl, gb_242_22, gb_242_23, if_pos rfl, gb_242_38, gb_242_39]
  refine n_isChanged0 hf fun I1 hF1 hf1 => ?_
  rw [Option.toList_some, List.singleton_append, gb_242_43, g_t0, true_and]
  exact K0 I1 hF1 hf1
theorem n_kindle0 {a1 : Int32} {rf : Nat → Int32} (z : I 50 0 48 = 0) (hf : mRf I rf) (K0 : ∀ (I' : Nat → Nat → Nat → Int32), (∀ k i j, ¬ ((k = 52 ∧ i = 0)) → I' k i j = I k i j) → mRf I' (gRef rf 2) → Q (some (.inl 0)) (gwd S I' J h)) : (gq (d + 2) 243 0 [some (.inr (.inr (some (50, 0)))), some (.inl (a1))] [] (gwd S I J h) Q) := by
  rw [gb_243_0, if_pos z, gb_243_24, gb_243_25]
  refine n_isChanged0 hf fun I1 hF1 hf1 => ?_
  rw [Option.toList_some, List.singleton_append, gb_243_30, g_t0, true_and]
  exact K0 I1 hF1 hf1
