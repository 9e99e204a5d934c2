/-! Plain facts: ints as whole numbers, memory, the JDK's functions. -/
theorem z_lt {a b : Int32} : a < b ↔ a.toInt < b.toInt := Int32.lt_iff_toInt_lt
theorem z_le {a b : Int32} : a ≤ b ↔ a.toInt ≤ b.toInt := Int32.le_iff_toInt_le
theorem z_eq {a b : Int32} : a = b ↔ a.toInt = b.toInt := Int32.toInt_inj.symm
theorem y_lt {a b : Int64} : a < b ↔ a.toInt < b.toInt := Int64.lt_iff_toInt_lt
theorem y_le {a b : Int64} : a ≤ b ↔ a.toInt ≤ b.toInt := Int64.le_iff_toInt_le
theorem y_eq {a b : Int64} : a = b ↔ a.toInt = b.toInt := Int64.toInt_inj.symm
theorem z_bm {x : Int} (h1 : -2147483648 ≤ x) (h2 : x ≤ 2147483647) : x.bmod (2 ^ 32) = x := Int.bmod_eq_of_le (by omega) (by omega)
theorem y_bm {x : Int} (h1 : -9223372036854775808 ≤ x) (h2 : x ≤ 9223372036854775807) : x.bmod (2 ^ 64) = x := Int.bmod_eq_of_le (by omega) (by omega)
theorem z_add {a b : Int32} (h1 : -2147483648 ≤ a.toInt + b.toInt) (h2 : a.toInt + b.toInt ≤ 2147483647) : (a + b).toInt = a.toInt + b.toInt := by rw [Int32.toInt_add, z_bm h1 h2]
theorem z_sub {a b : Int32} (h1 : -2147483648 ≤ a.toInt - b.toInt) (h2 : a.toInt - b.toInt ≤ 2147483647) : (a - b).toInt = a.toInt - b.toInt := by rw [Int32.toInt_sub, z_bm h1 h2]
theorem z_mul {a b : Int32} (h1 : -2147483648 ≤ a.toInt * b.toInt) (h2 : a.toInt * b.toInt ≤ 2147483647) : (a * b).toInt = a.toInt * b.toInt := by rw [Int32.toInt_mul, z_bm h1 h2]
theorem y_add {a b : Int64} (h1 : -9223372036854775808 ≤ a.toInt + b.toInt) (h2 : a.toInt + b.toInt ≤ 9223372036854775807) : (a + b).toInt = a.toInt + b.toInt := by rw [Int64.toInt_add, y_bm h1 h2]
theorem y_sub {a b : Int64} (h1 : -9223372036854775808 ≤ a.toInt - b.toInt) (h2 : a.toInt - b.toInt ≤ 9223372036854775807) : (a - b).toInt = a.toInt - b.toInt := by rw [Int64.toInt_sub, y_bm h1 h2]
theorem y_mul {a b : Int64} (h1 : -9223372036854775808 ≤ a.toInt * b.toInt) (h2 : a.toInt * b.toInt ≤ 9223372036854775807) : (a * b).toInt = a.toInt * b.toInt := by rw [Int64.toInt_mul, y_bm h1 h2]
theorem z_lo (a : Int32) : -2147483648 ≤ a.toInt := a.le_toInt
theorem z_hi (a : Int32) : a.toInt ≤ 2147483647 := by have := a.toInt_lt; omega
theorem z_div {a b : Int32} (ha : 0 ≤ a.toInt) (hb : 0 < b.toInt) : (a / b).toInt = a.toInt / b.toInt := by
  have h1 : b ≠ -1 := fun e => by rw [e] at hb; exact absurd hb (by decide)
  rw [Int32.toInt_div_of_ne_right _ _ h1, Int.tdiv_eq_ediv_of_nonneg ha]
theorem z_rem {a b : Int32} (ha : 0 ≤ a.toInt) (hb : 0 < b.toInt) : (a - a / b * b).toInt = a.toInt % b.toInt := by
  have h2 := z_div ha hb
  have h3 := Int.mul_ediv_add_emod a.toInt b.toInt
  have h4 := Int.emod_nonneg a.toInt (Int.ne_of_gt hb)
  have h5 := z_hi a
  have h6 : (a / b * b).toInt = a.toInt / b.toInt * b.toInt := by
    have e : (a / b).toInt * b.toInt = b.toInt * (a.toInt / b.toInt) := by rw [h2, Int.mul_comm]
    have h7 : 0 ≤ b.toInt * (a.toInt / b.toInt) := Int.mul_nonneg (by omega) (Int.ediv_nonneg ha (by omega))
    rw [z_mul (by omega) (by omega), h2]
  have h8 : a.toInt / b.toInt * b.toInt = b.toInt * (a.toInt / b.toInt) := Int.mul_comm _ _
  have h7 : 0 ≤ b.toInt * (a.toInt / b.toInt) := Int.mul_nonneg (by omega) (Int.ediv_nonneg ha (by omega))
  rw [z_sub (by omega) (by omega), h6]
  omega
theorem z_m1 : (Int32.ofInt (-1)).toInt = -1 := rfl
theorem z_n (x : Int32) : x.toNatClampNeg = x.toInt.toNat := rfl
theorem z_inj {a b : Int32} (h : a.toInt = b.toInt) : a = b := Int32.toInt_inj.mp h
theorem y_inj {a b : Int64} (h : a.toInt = b.toInt) : a = b := Int64.toInt_inj.mp h
theorem z_64 (a : Int32) : a.toInt64.toInt = a.toInt := Int32.toInt_toInt64 a
theorem y_32 {a : Int64} (h1 : -2147483648 ≤ a.toInt) (h2 : a.toInt ≤ 2147483647) : a.toInt32.toInt = a.toInt := by rw [Int64.toInt_toInt32, z_bm h1 h2]
theorem z_of {n : Int} (h1 : -2147483648 ≤ n) (h2 : n ≤ 2147483647) : (Int32.ofInt n).toInt = n := by rw [Int32.toInt_ofInt]; exact z_bm h1 h2
theorem y_of {n : Int} (h1 : -9223372036854775808 ≤ n) (h2 : n ≤ 9223372036854775807) : (Int64.ofInt n).toInt = n := by rw [Int64.toInt_ofInt]; exact y_bm h1 h2
theorem g_in {i : Int32} {n : Nat} : gin i n = true ↔ 0 ≤ i.toInt ∧ i.toInt < n := by
  unfold gin
  rw [Bool.not_eq_true', Bool.or_eq_false_iff, decide_eq_false_iff_not, decide_eq_false_iff_not, z_lt, z_n]
  have : (0 : Int32).toInt = 0 := rfl
  omega
theorem g_t0 : (gretok .boolean 0 = true) = True := eq_true rfl
theorem g_t1 : (gretok .boolean 1 = true) = True := eq_true rfl
theorem u_ne {α : Type} {f : Nat → Nat → Nat → α} {a b c k i j : Nat} {x : α} (h : ¬ (k = a ∧ i = b ∧ j = c)) : gup f a b c x k i j = f k i j := by
  unfold gup
  by_cases h1 : k = a
  · rw [if_pos h1]
    by_cases h2 : i = b
    · rw [if_pos h2, if_neg (fun e => h ⟨h1, h2, e⟩)]
    · rw [if_neg h2]
  · rw [if_neg h1]
theorem u_eq {α : Type} {f : Nat → Nat → Nat → α} {a b c : Nat} {x : α} : gup f a b c x a b c = x := by simp only [gup, if_pos]
theorem u_at {α : Type} {f : Nat → Nat → Nat → α} {a b c j : Nat} {x : α} : gup f a b c x a b j = if j = c then x else f a b j := by simp only [gup, if_pos]
theorem u_k {α : Type} {f : Nat → Nat → Nat → α} {a b c k i j : Nat} {x : α} (h : k ≠ a) : gup f a b c x k i j = f k i j := u_ne (fun e => h e.1)
theorem u_i {α : Type} {f : Nat → Nat → Nat → α} {a b c i j : Nat} {x : α} (h : i ≠ b) : gup f a b c x a i j = f a i j := u_ne (fun e => h e.2.1)
theorem u_j {α : Type} {f : Nat → Nat → Nat → α} {a b c j : Nat} {x : α} (h : j ≠ c) : gup f a b c x a b j = f a b j := u_ne (fun e => h e.2.2)
theorem u_self {α : Type} {f : Nat → Nat → Nat → α} {a b c : Nat} : gup f a b c (f a b c) = f := by
  funext k i j
  by_cases e : k = a ∧ i = b ∧ j = c
  · obtain ⟨rfl, rfl, rfl⟩ := e; exact u_eq
  · exact u_ne e
/-- a truth as an int -/
def zb (p : Prop) [Decidable p] : Int32 := if p then 1 else 0
theorem zb_0 {p : Prop} [Decidable p] : zb p = 0 ↔ ¬ p := by unfold zb; split <;> simp_all
theorem zb_1 {p : Prop} [Decidable p] : zb p = 1 ↔ p := by unfold zb; split <;> simp_all
theorem zb_i {p : Prop} [Decidable p] : (zb p).toInt = if p then 1 else 0 := by unfold zb; split <;> rfl
theorem zb_ok {p : Prop} [Decidable p] : (gretok .boolean (zb p) = true) = True := by unfold zb; split <;> exact eq_true rfl
theorem zb_ok2 {p : Prop} [Decidable p] : (zb p = 0 ∨ zb p = 1) = True := by unfold zb; split <;> simp
theorem zb_pos {p : Prop} [Decidable p] (h : p) : zb p = 1 := if_pos h
theorem zb_neg {p : Prop} [Decidable p] (h : ¬ p) : zb p = 0 := if_neg h
theorem zb_congr {p q : Prop} [Decidable p] [Decidable q] (h : p ↔ q) : zb p = zb q := by
  by_cases hq : q
  · rw [zb_pos hq, zb_pos (h.mpr hq)]
  · rw [zb_neg hq, zb_neg (fun e => hq (h.mp e))]
variable {d S : Nat} {h : Nat × Option gNm} {I : Nat → Nat → Nat → Int32} {J : Nat → Nat → Nat → Int64} {Q : Option gV → gW → Prop}
def zmax (a b : Int32) : Int32 := if a < b then b else a
def zmin (a b : Int32) : Int32 := if b < a then b else a
def zabs (a : Int32) : Int32 := if 0 ≤ a then a else -a
def zfd (a b : Int32) : Int32 := if 0 ≤ a ^^^ b then a / b else if (a / b) * b = a then a / b else a / b - 1
def ymax (a b : Int64) : Int64 := if a < b then b else a
def ymin (a b : Int64) : Int64 := if b < a then b else a
theorem zmax_i {a b : Int32} : (zmax a b).toInt = max a.toInt b.toInt := by simp only [zmax, z_lt]; split <;> omega
theorem zmin_i {a b : Int32} : (zmin a b).toInt = min a.toInt b.toInt := by simp only [zmin, z_lt]; split <;> omega
theorem ymax_i {a b : Int64} : (ymax a b).toInt = max a.toInt b.toInt := by simp only [ymax, y_lt]; split <;> omega
theorem ymin_i {a b : Int64} : (ymin a b).toInt = min a.toInt b.toInt := by simp only [ymin, y_lt]; split <;> omega
theorem z_0 : (0 : Int32).toInt = 0 := rfl
theorem z_neg {a : Int32} (h : -2147483647 ≤ a.toInt) : (-a).toInt = -a.toInt := by
  have := z_hi a
  rw [Int32.toInt_neg, z_bm (by omega) (by omega)]
theorem zabs_i {a : Int32} (h : -2147483647 ≤ a.toInt) : (zabs a).toInt = if 0 ≤ a.toInt then a.toInt else -a.toInt := by
  simp only [zabs, z_le, z_0]; split
  · rfl
  · exact z_neg h
theorem m_max {a0 a1 : Int32} : (gq d 288 0 [some (.inl (a0)), some (.inl (a1))] [] (gwd S I J h) Q) ↔ Q (some (.inl (zmax a0 a1))) (gwd S I J h) := by
  simp only [gb_288_0, gb_288_5, gb_288_9, gb_288_10, zmax]; split <;> exact Iff.rfl
theorem m_min {a0 a1 : Int32} : (gq d 290 0 [some (.inl (a0)), some (.inl (a1))] [] (gwd S I J h) Q) ↔ Q (some (.inl (zmin a0 a1))) (gwd S I J h) := by
  simp only [gb_290_0, gb_290_5, gb_290_9, gb_290_10, zmin]; split <;> exact Iff.rfl
theorem m_abs {a0 : Int32} : (gq d 287 0 [some (.inl (a0))] [] (gwd S I J h) Q) ↔ Q (some (.inl (zabs a0))) (gwd S I J h) := by
  simp only [gb_287_0, gb_287_4, gb_287_9, gb_287_10, zabs]; split <;> exact Iff.rfl
theorem m_lmax {a0 a2 : Int64} : (gq d 289 0 [some (.inr (.inl (a0))), none, some (.inr (.inl (a2))), none] [] (gwd S I J h) Q) ↔ Q (some (.inr (.inl (ymax a0 a2)))) (gwd S I J h) := by
  simp only [gb_289_0, gb_289_6, gb_289_10, gb_289_11, ymax, lg_cmp_lt]; split <;> exact Iff.rfl
theorem m_lmin {a0 a2 : Int64} : (gq d 291 0 [some (.inr (.inl (a0))), none, some (.inr (.inl (a2))), none] [] (gwd S I J h) Q) ↔ Q (some (.inr (.inl (ymin a0 a2)))) (gwd S I J h) := by
  simp only [gb_291_0, gb_291_6, gb_291_10, gb_291_11, ymin, lg_cmp_gt]; split <;> exact Iff.rfl
theorem m_fdiv {a0 a1 : Int32} {x2 : Option gV} : (gq d 286 0 [some (.inl (a0)), some (.inl (a1)), x2] [] (gwd S I J h) Q) ↔ ¬ a1 = 0 ∧ Q (some (.inl (zfd a0 a1))) (gwd S I J h) := by
  simp only [gb_286_0, gb_286_10, gb_286_17, gb_286_21, zfd]
  refine and_congr_right fun _ => ?_
  split
  · exact Iff.rfl
  · split <;> exact Iff.rfl
theorem m_hasMile {i1 : Nat} {a1 : Int32} : (gq d 18 0 [some (.inr (.inr (some (34, i1)))), some (.inl (a1))] [] (gwd S I J h) Q) ↔ Q (some (.inl (zb (0 ≤ a1.toInt ∧ a1.toInt ≤ (I 34 i1 1).toInt)))) (gwd S I J h) := by
  simp only [gb_18_0, gb_18_4, gb_18_12, gb_18_16, gb_18_17, z_lt, z_le, z_0, g_t0, g_t1, true_and, zb]; (repeat' split) <;> first | exact Iff.rfl | (exfalso; omega)
theorem m_hasBearer {i1 : Nat} {a1 : Int32} : (gq d 19 0 [some (.inr (.inr (some (34, i1)))), some (.inl (a1))] [] (gwd S I J h) Q) ↔ Q (some (.inl (zb (0 ≤ a1.toInt ∧ a1.toInt < (I 34 i1 2).toInt ∧ a1.toInt < 8)))) (gwd S I J h) := by
  have e8 : (8 : Int32).toInt = 8 := rfl
  simp only [gb_19_0, gb_19_4, gb_19_12, gb_19_18, gb_19_22, gb_19_23, z_lt, z_le, z_0, e8, g_t0, g_t1, true_and, zb]; (repeat' split) <;> first | exact Iff.rfl | (exfalso; omega)
theorem m_hasHouse {i1 : Nat} {a1 : Int32} : (gq d 20 0 [some (.inr (.inr (some (34, i1)))), some (.inl (a1))] [] (gwd S I J h) Q) ↔ Q (some (.inl (zb (0 ≤ a1.toInt ∧ a1.toInt < (I 34 i1 3).toInt ∧ a1.toInt < 8)))) (gwd S I J h) := by
  have e8 : (8 : Int32).toInt = 8 := rfl
  simp only [gb_20_0, gb_20_4, gb_20_12, gb_20_18, gb_20_22, gb_20_23, z_lt, z_le, z_0, e8, g_t0, g_t1, true_and, zb]; (repeat' split) <;> first | exact Iff.rfl | (exfalso; omega)
theorem m_isAside {i1 : Nat} {a1 : Int32} : (gq d 92 0 [some (.inr (.inr (some (21, i1)))), some (.inl (a1))] [] (gwd S I J h) Q) ↔ Q (some (.inl (zb (I 21 i1 4 >>> (a1 &&& 31) &&& 1 = 1)))) (gwd S I J h) := by
  simp only [gb_92_0, gb_92_12, gb_92_16, gb_92_17, g_t0, g_t1, true_and, zb]; split <;> exact Iff.rfl
theorem m_hasPassed {i1 : Nat} {a1 : Int32} : (gq d 93 0 [some (.inr (.inr (some (21, i1)))), some (.inl (a1))] [] (gwd S I J h) Q) ↔ Q (some (.inl (zb (I 21 i1 5 >>> (a1 &&& 31) &&& 1 = 1)))) (gwd S I J h) := by
  simp only [gb_93_0, gb_93_12, gb_93_16, gb_93_17, g_t0, g_t1, true_and, zb]; split <;> exact Iff.rfl
theorem m_isAlight {i1 : Nat} : (gq d 95 0 [some (.inr (.inr (some (21, i1))))] [] (gwd S I J h) Q) ↔ Q (some (.inl (zb (0 < (I 21 i1 2).toInt)))) (gwd S I J h) := by
  simp only [gb_95_0, gb_95_7, gb_95_11, gb_95_12, z_le, z_lt, z_0, g_t0, g_t1, true_and, zb]; (repeat' split) <;> first | exact Iff.rfl | (exfalso; omega)
theorem m_isThrough {i1 i2 : Nat} : (gq (d + 1) 94 0 [some (.inr (.inr (some (21, i1)))), some (.inr (.inr (some (34, i2))))] [] (gwd S I J h) Q) ↔ Q (some (.inl (zb (0 < (I 21 i1 2).toInt ∧ (I 21 i1 1).toInt = (I 34 i2 1).toInt)))) (gwd S I J h) := by
  simp only [gb_94_0, gb_94_4, gb_94_7, gb_94_18, gb_94_22, gb_94_23, m_isAlight, Option.toList_some, List.cons_append, List.nil_append, zb_0, g_t0, g_t1, true_and]
  simp only [zb, z_eq]
  (repeat' split) <;> first | exact Iff.rfl | (exfalso; omega)
theorem m_byteAt {a1 : Int32} : (gq d 102 0 [some (.inr (.inr (some (11, 0)))), some (.inl (a1))] [] (gwd S I J h) Q) ↔ Q (some (.inl (if 0 ≤ a1.toInt ∧ a1.toInt < (I 11 0 1).toInt ∧ a1.toInt < 1600 then I 12 0 a1.toInt.toNat &&& 255 else Int32.ofInt (-1)))) (gwd S I J h) := by
  have e : (Int32.ofNat 1600).toInt = 1600 := rfl
  simp only [gb_102_0, gb_102_4, gb_102_12, gb_102_21, gb_102_27, gb_102_34, gb_102_35, z_lt, z_le, z_0, e, g_in, z_n]
  (repeat' split) <;> first | exact Iff.rfl | (exfalso; omega) | (constructor <;> intro hh <;> first | exact hh.2 | exact ⟨⟨by omega, by omega⟩, hh⟩)
theorem m_isBlank {a0 : Int32} : (gq d 111 0 [some (.inl (a0))] [] (gwd S I J h) Q) ↔ Q (some (.inl (zb (a0.toInt = 10 ∨ a0.toInt = 32)))) (gwd S I J h) := by
  have e1 : (10 : Int32).toInt = 10 := rfl
  have e2 : (32 : Int32).toInt = 32 := rfl
  simp only [gb_111_0, gb_111_6, gb_111_12, gb_111_16, gb_111_17, z_eq, e1, e2, g_t0, g_t1, true_and, zb]; (repeat' split) <;> first | exact Iff.rfl | (exfalso; omega)
theorem m_isLetter {a0 : Int32} : (gq d 112 0 [some (.inl (a0))] [] (gwd S I J h) Q) ↔ Q (some (.inl (zb (97 ≤ a0.toInt ∧ a0.toInt ≤ 122)))) (gwd S I J h) := by
  have e1 : (97 : Int32).toInt = 97 := rfl
  have e2 : (122 : Int32).toInt = 122 := rfl
  simp only [gb_112_0, gb_112_6, gb_112_12, gb_112_16, gb_112_17, z_lt, z_le, e1, e2, g_t0, g_t1, true_and, zb]; (repeat' split) <;> first | exact Iff.rfl | (exfalso; omega)
theorem m_isDigit {a0 : Int32} : (gq d 113 0 [some (.inl (a0))] [] (gwd S I J h) Q) ↔ Q (some (.inl (zb (48 ≤ a0.toInt ∧ a0.toInt ≤ 57)))) (gwd S I J h) := by
  have e1 : (48 : Int32).toInt = 48 := rfl
  have e2 : (57 : Int32).toInt = 57 := rfl
  simp only [gb_113_0, gb_113_6, gb_113_12, gb_113_16, gb_113_17, z_lt, z_le, e1, e2, g_t0, g_t1, true_and, zb]; (repeat' split) <;> first | exact Iff.rfl | (exfalso; omega)
