/-! The model: an image written, its octets. -/
variable {d S : Nat} {h : Nat × Option gNm} {I : Nat → Nat → Nat → Int32} {J : Nat → Nat → Nat → Int64} {Q : Option gV → gW → Prop}
theorem gc_277_0 (d S : Nat) (h : Nat × Option gNm) (I : Nat → Nat → Nat → Int32) (J : Nat → Nat → Nat → Int64) (a1 : Int32) (x2 : Option gV) (x3 : Option gV) (Q : Option gV → gW → Prop) : gq d 277 0 [some (.inr (.inr (some (71, 0)))), some (.inl (a1)), x2, x3] [] (gwd S I J h) Q ↔ gq d 277 6 [some (.inr (.inr (some (71, 0)))), some (.inl (a1)), some (.inl (199)), some (.inl (0))] [] (gwd S I J h) Q := gR_blk (k := 4) gR_go (fun _ => rfl) Q
theorem gc_277_6 (d S : Nat) (h : Nat × Option gNm) (I : Nat → Nat → Nat → Int32) (J : Nat → Nat → Nat → Int64) (a1 : Int32) (a2 : Int32) (a3 : Int32) (Q : Option gV → gW → Prop) : gq d 277 6 [some (.inr (.inr (some (71, 0)))), some (.inl (a1)), some (.inl (a2)), some (.inl (a3))] [] (gwd S I J h) Q ↔ if a1 ≤ a3 then gq d 277 29 [some (.inr (.inr (some (71, 0)))), some (.inl (a1)), some (.inl (a2)), some (.inl (a3))] [] (gwd S I J h) Q else gq d 277 11 [some (.inr (.inr (some (71, 0)))), some (.inl (a1)), some (.inl (a2)), some (.inl (a3))] [] (gwd S I J h) Q := gR_blk (k := 3) (gR_ite gR_go gR_go) (fun _ => rfl) Q
theorem gc_277_11 (d S : Nat) (h : Nat × Option gNm) (I : Nat → Nat → Nat → Int32) (J : Nat → Nat → Nat → Int64) (a1 : Int32) (a2 : Int32) (a3 : Int32) (Q : Option gV → gW → Prop) : gq d 277 11 [some (.inr (.inr (some (71, 0)))), some (.inl (a1)), some (.inl (a2)), some (.inl (a3))] [] (gwd S I J h) Q ↔ (gin (a3) 30 = true) ∧ gq d 277 17 [some (.inr (.inr (some (71, 0)))), some (.inl (a1)), some (.inl (a2)), some (.inl (a3))] [.inl (I 71 0 ((a3 : Int32).toNatClampNeg)), .inl (3 * a2)] (gwd S I J h) Q := gR_blk (k := 6) (gR_if gR_go) (fun _ => rfl) Q
theorem gc_277_17 (d S : Nat) (h : Nat × Option gNm) (I : Nat → Nat → Nat → Int32) (J : Nat → Nat → Nat → Int64) (a1 : Int32) (a2 : Int32) (a3 : Int32) (s0 : Int32) (s1 : Int32) (Q : Option gV → gW → Prop) : gq d 277 17 [some (.inr (.inr (some (71, 0)))), some (.inl (a1)), some (.inl (a2)), some (.inl (a3))] [.inl (s0), .inl (s1)] (gwd S I J h) Q ↔ gq d 277 6 [some (.inr (.inr (some (71, 0)))), some (.inl (a1)), some (.inl ((s1 + s0) - (s1 + s0) / 251 * 251)), some (.inl (a3 + 1))] [] (gwd S I J h) Q := gR_blk (k := 6) gR_go (fun _ => rfl) Q
theorem gc_277_29 (d S : Nat) (h : Nat × Option gNm) (I : Nat → Nat → Nat → Int32) (J : Nat → Nat → Nat → Int64) (a1 : Int32) (a2 : Int32) (a3 : Int32) (Q : Option gV → gW → Prop) : gq d 277 29 [some (.inr (.inr (some (71, 0)))), some (.inl (a1)), some (.inl (a2)), some (.inl (a3))] [] (gwd S I J h) Q ↔ Q (some (.inl (a2))) (gwd S I J h) := gR_blk (k := 2) gR_ret (fun _ => rfl) Q
theorem z_sum {a2 x : Int32} {c v : Int} (h2 : a2.toInt = c) (hx : x.toInt = v) (c0 : 0 ≤ c ∧ c ≤ 250) (v0 : 0 ≤ v ∧ v ≤ 1000) : ((3 * a2 + x) - (3 * a2 + x) / 251 * 251).toInt = (3 * c + v) % 251 := by
  have e3 : (3 : Int32).toInt = 3 := rfl
  have e251 : (251 : Int32).toInt = 251 := rfl
  have q0 : (3 * a2).toInt = 3 * c := by rw [z_mul (by rw [e3, h2]; omega) (by rw [e3, h2]; omega), e3, h2]
  have q1 : (3 * a2 + x).toInt = 3 * c + v := by rw [z_add (by omega) (by omega), q0, hx]
  rw [z_rem (by omega) (by omega), q1, e251]
theorem n_sum_T {tp : Nat → Int} {a1 : Int32} {N : Nat} (h1 : a1.toInt = N) (hN : N ≤ 1600) (hr : ∀ j, j < N → 0 ≤ tp j ∧ tp j ≤ 1000) (hp : ∀ j, j < N → (I 51 0 j).toInt = tp j) (K : ∀ x : Int32, x.toInt = gSum tp N 0 199 → Q (some (.inl x)) (gwd S I J h)) : ∀ (n i : Nat) (c : Int) (a2 a3 : Int32), i + n = N → a3.toInt = i → a2.toInt = c → 0 ≤ c → c ≤ 250 → gSum tp n i c = gSum tp N 0 199 → (gq d 277 6 [some (.inr (.inr (some (51, 0)))), some (.inl (a1)), some (.inl (a2)), some (.inl (a3))] [] (gwd S I J h) Q)
  | 0, i, c, a2, a3, hn, h3, h2, c0, c1, hs => by
    rw [gb_277_6, if_pos (by rw [z_le]; omega), gb_277_29]
    exact K _ (by rw [h2]; exact hs)
  | n + 1, i, c, a2, a3, hn, h3, h2, c0, c1, hs => by
    have e1 : (1 : Int32).toInt = 1 := rfl
    have n0 : a3.toNatClampNeg = i := by rw [z_n]; omega
    rw [gb_277_6, if_neg (by rw [z_le]; omega), gb_277_11]
    refine ⟨g_in.mpr (by omega), ?_⟩
    rw [n0, gb_277_17]
    have v := hp i (by omega)
    have r := hr i (by omega)
    exact n_sum_T h1 hN hr hp K n (i + 1) _ _ _ (by omega) (by rw [z_add (by omega) (by omega), h3, e1]; rfl) (z_sum h2 v ⟨c0, c1⟩ r) (by omega) (by omega) hs
theorem n_sum_I {tp : Nat → Int} {a1 : Int32} {N : Nat} (h1 : a1.toInt = N) (hN : N ≤ 30) (hr : ∀ j, j < N → 0 ≤ tp j ∧ tp j ≤ 1000) (hp : ∀ j, j < N → (I 71 0 j).toInt = tp j) (K : ∀ x : Int32, x.toInt = gSum tp N 0 199 → Q (some (.inl x)) (gwd S I J h)) : ∀ (n i : Nat) (c : Int) (a2 a3 : Int32), i + n = N → a3.toInt = i → a2.toInt = c → 0 ≤ c → c ≤ 250 → gSum tp n i c = gSum tp N 0 199 → gq d 277 6 [some (.inr (.inr (some (71, 0)))), some (.inl (a1)), some (.inl (a2)), some (.inl (a3))] [] (gwd S I J h) Q
  | 0, i, c, a2, a3, hn, h3, h2, c0, c1, hs => by
    rw [gc_277_6, if_pos (by rw [z_le]; omega), gc_277_29]
    exact K _ (by rw [h2]; exact hs)
  | n + 1, i, c, a2, a3, hn, h3, h2, c0, c1, hs => by
    have e1 : (1 : Int32).toInt = 1 := rfl
    have n0 : a3.toNatClampNeg = i := by rw [z_n]; omega
    rw [gc_277_6, if_neg (by rw [z_le]; omega), gc_277_11]
    refine ⟨g_in.mpr (by omega), ?_⟩
    rw [n0, gc_277_17]
    have v := hp i (by omega)
    have r := hr i (by omega)
    exact n_sum_I h1 hN hr hp K n (i + 1) _ _ _ (by omega) (by rw [z_add (by omega) (by omega), h3, e1]; rfl) (z_sum h2 v ⟨c0, c1⟩ r) (by omega) (by omega) hs
def mIm (I : Nat → Nat → Nat → Int32) (im : Nat → Int) (n : Nat) : Prop := (I 50 0 109).toInt = n ∧ ∀ j : Nat, j < n → (I 71 0 j).toInt = im j
theorem n_put {a1 : Int32} {im : Nat → Int} {n : Nat} (hi : mIm I im n) (hn : n < 30) (hx : a1.toInt = im n) (K : ∀ (I' : Nat → Nat → Nat → Int32), (∀ k i j, ¬ ((k = 50 ∧ i = 0 ∧ j = 109) ∨ (k = 71 ∧ i = 0)) → I' k i j = I k i j) → mIm I' im (n + 1) → Q none (gwd S I' J h)) : (gq d 278 0 [some (.inr (.inr (some (50, 0)))), some (.inl (a1))] [] (gwd S I J h) Q) := by
  have e1 : (1 : Int32).toInt = 1 := rfl
  have h0 := hi.1
  have n0 : (I 50 0 109).toNatClampNeg = n := by rw [z_n]; omega
  rw [gb_278_0]
  refine ⟨g_in.mpr (by omega), ?_⟩
  rw [n0, gb_278_10]
  refine K _ (fun k i j hn => by rw [u_ne (by omega), u_ne (by omega)]) ⟨?_, fun j hj => ?_⟩
  · rw [u_eq, u_k (by decide), z_add (by omega) (by omega), h0, e1]; rfl
  · rw [u_k (by decide), u_at]
    by_cases e : j = n
    · rw [if_pos e, e]; exact hx
    · rw [if_neg e]; exact hi.2 j (by omega)
theorem n_image_h {B H : Nat} {im : Nat → Int} (hB : 5 + 2 * B + H < 30) : ∀ (n i : Nat) (I : Nat → Nat → Nat → Int32) (a1 : Int32), i + n = H → a1.toInt = i → (I 54 0 7).toInt = H → (∀ j, j < H → (I 61 0 (20 + j)).toInt = im (5 + 2 * B + j)) → mIm I im (5 + 2 * B + i) →
    (∀ (I' : Nat → Nat → Nat → Int32) a1, (∀ k i j, ¬ ((k = 50 ∧ i = 0 ∧ j = 109) ∨ (k = 71 ∧ i = 0)) → I' k i j = I k i j) → mIm I' im (5 + 2 * B + H) → (gq (d + 1) 279 145 [some (.inr (.inr (some (50, 0)))), some (.inl (a1))] [] (gwd S I' J h) Q)) → (gq (d + 1) 279 118 [some (.inr (.inr (some (50, 0)))), some (.inl (a1))] [] (gwd S I J h) Q)
  | 0, i, I, a1, hn, h1, h7, hv, hi, K => by
    rw [gb_279_118, n_houses, Option.toList_some, List.singleton_append, gb_279_123, if_pos (by rw [z_le]; omega)]
    refine K I _ (fun _ _ _ _ => rfl) ?_
    rw [show H = i by omega]; exact hi
  | n + 1, i, I, a1, hn, h1, h7, hv, hi, K => by
    have e1 : (1 : Int32).toInt = 1 := rfl
    have e20 : (20 : Int32).toInt = 20 := rfl
    have q : (20 + a1).toInt = 20 + i := by rw [z_add (by omega) (by omega), e20, h1]
    have n0 : (20 + a1).toNatClampNeg = 20 + i := by rw [z_n]; omega
    rw [gb_279_118, n_houses, Option.toList_some, List.singleton_append, gb_279_123, if_neg (by rw [z_le]; omega), gb_279_126]
    refine ⟨g_in.mpr (by omega), ?_⟩
    rw [n0, gb_279_136]
    refine n_put hi (by omega) (hv i (by omega)) fun I1 hF1 hi1 => ?_
    rw [Option.toList_none, List.nil_append, gb_279_139]
    exact n_image_h hB n (i + 1) I1 _ (by omega) (by rw [z_add (by omega) (by omega), h1, e1]; rfl) (by rw [hF1 _ _ _ (by omega)]; exact h7) (fun j hj => by rw [hF1 _ _ _ (by omega)]; exact hv j hj) hi1 fun I2 b1 hF2 hi2 => K I2 b1 (fun k i j hn => by rw [hF2 _ _ _ hn, hF1 _ _ _ hn]) hi2
theorem n_image_b {B : Nat} {im : Nat → Int} (hB : B ≤ 8) : ∀ (n i : Nat) (I : Nat → Nat → Nat → Int32) (a1 : Int32), i + n = 2 * B → a1.toInt = i → (I 54 0 6).toInt = B → (∀ j, j < 2 * B → (I 61 0 (4 + j)).toInt = im (5 + j)) → mIm I im (5 + i) →
    (∀ (I' : Nat → Nat → Nat → Int32) a1, (∀ k i j, ¬ ((k = 50 ∧ i = 0 ∧ j = 109) ∨ (k = 71 ∧ i = 0)) → I' k i j = I k i j) → mIm I' im (5 + 2 * B) → (gq (d + 1) 279 116 [some (.inr (.inr (some (50, 0)))), some (.inl (a1))] [] (gwd S I' J h) Q)) → (gq (d + 1) 279 88 [some (.inr (.inr (some (50, 0)))), some (.inl (a1))] [] (gwd S I J h) Q)
  | 0, i, I, a1, hn, h1, h6, hv, hi, K => by
    have e2 : (2 : Int32).toInt = 2 := rfl
    have q2 : (2 * I 54 0 6).toInt = 2 * B := by rw [z_mul (by rw [e2]; omega) (by rw [e2]; omega), e2, h6]
    rw [gb_279_88, n_bearers, Option.toList_some, List.singleton_append, gb_279_94, if_pos (by rw [z_le]; omega)]
    refine K I _ (fun _ _ _ _ => rfl) ?_
    rw [show 2 * B = i by omega]; exact hi
  | n + 1, i, I, a1, hn, h1, h6, hv, hi, K => by
    have e1 : (1 : Int32).toInt = 1 := rfl
    have e2 : (2 : Int32).toInt = 2 := rfl
    have e4 : (4 : Int32).toInt = 4 := rfl
    have q2 : (2 * I 54 0 6).toInt = 2 * B := by rw [z_mul (by rw [e2]; omega) (by rw [e2]; omega), e2, h6]
    have q : (4 + a1).toInt = 4 + i := by rw [z_add (by omega) (by omega), e4, h1]
    have n0 : (4 + a1).toNatClampNeg = 4 + i := by rw [z_n]; omega
    rw [gb_279_88, n_bearers, Option.toList_some, List.singleton_append, gb_279_94, if_neg (by rw [z_le]; omega), gb_279_98]
    refine ⟨g_in.mpr (by omega), ?_⟩
    rw [n0, gb_279_107]
    refine n_put hi (by omega) (hv i (by omega)) fun I1 hF1 hi1 => ?_
    rw [Option.toList_none, List.nil_append, gb_279_110]
    exact n_image_b hB n (i + 1) I1 _ (by omega) (by rw [z_add (by omega) (by omega), h1, e1]; rfl) (by rw [hF1 _ _ _ (by omega)]; exact h6) (fun j hj => by rw [hF1 _ _ _ (by omega)]; exact hv j hj) hi1 fun I2 b1 hF2 hi2 => K I2 b1 (fun k i j hn => by rw [hF2 _ _ _ hn, hF1 _ _ _ hn]) hi2
theorem n_image {x1 : Option gV} {B H : Nat} {t : gSt} (hB : B ≤ 8) (hH : H ≤ 8) (h6 : (I 54 0 6).toInt = B) (h7 : (I 54 0 7).toInt = H) (s0 : (I 61 0 0).toInt = t 0) (s1 : (I 61 0 1).toInt = t 1) (s2 : (I 61 0 2).toInt = t 2) (h0 : 0 ≤ t 0) (s3 : I 50 0 48 = 0 → t 3 = -1) (s3' : I 50 0 48 ≠ 0 → (I 61 0 3).toInt = t 3) (hb : ∀ j, j < 2 * B → (I 61 0 (4 + j)).toInt = gIm B t (5 + j)) (hh : ∀ j, j < H → (I 61 0 (20 + j)).toInt = gIm B t (5 + 2 * B + j)) (hr : ∀ j, j < 5 + 2 * B + H → 0 ≤ gIm B t j ∧ gIm B t j ≤ 1000)
    (K : ∀ I' (x : Int32), (∀ k i j, ¬ ((k = 50 ∧ i = 0 ∧ j = 109) ∨ (k = 71 ∧ i = 0)) → I' k i j = I k i j) → mIm I' (gImF B H t) (6 + 2 * B + H) → x.toInt = ((6 + 2 * B + H : Nat) : Int) → Q (some (.inl x)) (gwd S I' J h)) : (gq (d + 1) 279 0 [some (.inr (.inr (some (50, 0)))), x1] [] (gwd S I J h) Q) := by
  have e256 : (256 : Int32).toInt = 256 := rfl
  have at5 : ∀ j, j < 5 + 2 * B + H → gImF B H t j = gIm B t j := fun j hj => if_pos hj
  rw [gb_279_0]
  refine ⟨rfl, ?_⟩
  rw [show (0 : Int32).toNatClampNeg = 0 from rfl]
  have i0 : mIm (gup I 50 0 109 0) (gImF B H t) 0 := ⟨by rw [u_eq]; rfl, fun j hj => by omega⟩
  rw [gb_279_12]
  refine n_put i0 (by decide) (by rw [z_div (by omega) (by omega), s0, e256, at5 _ (by omega)]; rfl) fun I1 hF1 i1 => ?_
  have hG1 : (∀ k i j, ¬ ((k = 50 ∧ i = 0 ∧ j = 109) ∨ (k = 71 ∧ i = 0)) → I1 k i j = I k i j) := fun k i j hn => by rw [hF1 _ _ _ hn, u_ne (by omega)]
  rw [Option.toList_none, List.nil_append, gb_279_19]
  refine ⟨rfl, ?_⟩
  rw [show (0 : Int32).toNatClampNeg = 0 from rfl, hG1 61 0 0 (by omega), gb_279_26]
  refine n_put i1 (by decide) (by rw [z_rem (by omega) (by omega), s0, e256, at5 _ (by omega)]; rfl) fun I2 hF2 i2 => ?_
  have hG2 : (∀ k i j, ¬ ((k = 50 ∧ i = 0 ∧ j = 109) ∨ (k = 71 ∧ i = 0)) → I2 k i j = I k i j) := fun k i j hn => by rw [hF2 _ _ _ hn, hG1 _ _ _ hn]
  rw [Option.toList_none, List.nil_append, gb_279_33]
  refine ⟨rfl, ?_⟩
  rw [show (1 : Int32).toNatClampNeg = 1 from rfl, hG2 61 0 1 (by omega), gb_279_40]
  refine n_put i2 (by decide) (by rw [s1, at5 _ (by omega)]; rfl) fun I3 hF3 i3 => ?_
  have hG3 : (∀ k i j, ¬ ((k = 50 ∧ i = 0 ∧ j = 109) ∨ (k = 71 ∧ i = 0)) → I3 k i j = I k i j) := fun k i j hn => by rw [hF3 _ _ _ hn, hG2 _ _ _ hn]
  rw [Option.toList_none, List.nil_append, gb_279_43]
  refine ⟨rfl, ?_⟩
  rw [show (2 : Int32).toNatClampNeg = 2 from rfl, hG3 61 0 2 (by omega), gb_279_50]
  refine n_put i3 (by decide) (by rw [s2, at5 _ (by omega)]; rfl) fun I4 hF4 i4 => ?_
  have hG4 : (∀ k i j, ¬ ((k = 50 ∧ i = 0 ∧ j = 109) ∨ (k = 71 ∧ i = 0)) → I4 k i j = I k i j) := fun k i j hn => by rw [hF4 _ _ _ hn, hG3 _ _ _ hn]
  rw [Option.toList_none, List.nil_append]
  have go : ∀ y : Int32, y.toInt = gIm B t 4 → (gq (d + 1) 279 83 [some (.inr (.inr (some (50, 0)))), x1] [.inl (y), .inr (.inr (some (50, 0)))] (gwd S I4 J h) Q) := fun y hy => by
    rw [gb_279_83]
    refine n_put i4 (by decide) (by rw [at5 _ (by omega)]; exact hy) fun I5 hF5 i5 => ?_
    have hG5 : (∀ k i j, ¬ ((k = 50 ∧ i = 0 ∧ j = 109) ∨ (k = 71 ∧ i = 0)) → I5 k i j = I k i j) := fun k i j hn => by rw [hF5 _ _ _ hn, hG4 _ _ _ hn]
    rw [Option.toList_none, List.nil_append, gb_279_86]
    refine n_image_b (B := B) hB (2 * B) 0 I5 _ (by omega) rfl (by rw [hG5 _ _ _ (by omega)]; exact h6) (fun j hj => by rw [hG5 _ _ _ (by omega), at5 _ (by omega)]; exact hb j hj) i5 fun I6 b1 hF6 i6 => ?_
    have hG6 : (∀ k i j, ¬ ((k = 50 ∧ i = 0 ∧ j = 109) ∨ (k = 71 ∧ i = 0)) → I6 k i j = I k i j) := fun k i j hn => by rw [hF6 _ _ _ hn, hG5 _ _ _ hn]
    rw [gb_279_116]
    refine n_image_h (B := B) (H := H) (by omega) H 0 I6 _ (by omega) rfl (by rw [hG6 _ _ _ (by omega)]; exact h7) (fun j hj => by rw [hG6 _ _ _ (by omega), at5 _ (by omega)]; exact hh j hj) i6 fun I7 b2 hF7 i7 => ?_
    have hG7 : (∀ k i j, ¬ ((k = 50 ∧ i = 0 ∧ j = 109) ∨ (k = 71 ∧ i = 0)) → I7 k i j = I k i j) := fun k i j hn => by rw [hF7 _ _ _ hn, hG6 _ _ _ hn]
    rw [gb_279_145, gc_277_0]
    refine n_sum_I (tp := gImF B H t) i7.1 (by omega) (fun j hj => by rw [at5 _ hj]; exact hr j hj) i7.2 (fun x hx => ?_) (5 + 2 * B + H) 0 199 _ _ (by omega) rfl rfl (by decide) (by decide) rfl
    rw [Option.toList_some, List.singleton_append, gb_279_157]
    refine n_put i7 (by omega) (by rw [hx]; exact gImF_sum.symm) fun I8 hF8 i8 => ?_
    have hG8 : (∀ k i j, ¬ ((k = 50 ∧ i = 0 ∧ j = 109) ∨ (k = 71 ∧ i = 0)) → I8 k i j = I k i j) := fun k i j hn => by rw [hF8 _ _ _ hn, hG7 _ _ _ hn]
    rw [Option.toList_none, List.nil_append, gb_279_160]
    rw [show 5 + 2 * B + H + 1 = 6 + 2 * B + H by omega] at i8
    exact K I8 _ hG8 i8 i8.1
  have g4 : gIm B t 4 = if t 3 = -1 then 255 else t 3 := rfl
  rw [gb_279_53, hG4 50 0 48 (by omega)]
  by_cases hz : I 50 0 48 = 0
  · rw [if_pos hz, gb_279_71]
    exact go 255 (by rw [g4, if_pos (s3 hz)]; rfl)
  rw [if_neg hz, gb_279_61]
  refine ⟨rfl, ?_⟩
  rw [show (3 : Int32).toNatClampNeg = 3 from rfl, hG4 61 0 3 (by omega), gb_279_67, gb_279_68]
  have s3 := s3' hz
  by_cases hm : t 3 = -1
  · rw [if_pos (z_inj (by rw [s3, hm]; rfl)), gb_279_71]
    exact go 255 (by rw [g4, if_pos hm]; rfl)
  · rw [if_neg (fun e => hm (by rw [← s3, e]; rfl)), gb_279_77]
    refine ⟨rfl, ?_⟩
    rw [show (3 : Int32).toNatClampNeg = 3 from rfl, hG4 61 0 3 (by omega)]
    exact go _ (by rw [g4, if_neg hm]; exact s3)
theorem n_octet {a1 : Int32} {im : Nat → Int} {sz : Nat} (hi : mIm I im sz) (hsz : sz ≤ 30) (K : ∀ x : Int32, x.toInt = (if 0 ≤ a1.toInt ∧ a1.toInt < sz then im a1.toInt.toNat else -1) → Q (some (.inl x)) (gwd S I J h)) : (gq d 280 0 [some (.inr (.inr (some (50, 0)))), some (.inl (a1))] [] (gwd S I J h) Q) := by
  have h9 := hi.1
  rw [gb_280_0]
  by_cases w1 : 0 ≤ a1.toInt
  case neg =>
    rw [if_pos (by rw [z_lt, z_0]; omega), gb_280_21, gb_280_22]
    exact K _ (by rw [if_neg (by omega)]; rfl)
  rw [if_neg (by rw [z_lt, z_0]; omega), gb_280_4]
  by_cases w2 : a1.toInt < sz
  case neg =>
    rw [if_pos (by rw [z_le]; omega), gb_280_21, gb_280_22]
    exact K _ (by rw [if_neg (by omega)]; rfl)
  rw [if_neg (by rw [z_le]; omega), gb_280_12]
  refine ⟨g_in.mpr (by omega), ?_⟩
  rw [gb_280_18, gb_280_22]
  exact K _ (by rw [if_pos ⟨w1, w2⟩, z_n]; exact hi.2 _ (by omega))
