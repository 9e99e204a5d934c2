/-! The model: a formula worked out, how light it is, whether one takes, how it wanes. -/
def gDef (f : Nat) : List Int := if f = 1 then [-3, -4, -46] else if f = 2 then [1] else [0]
def mSl (I : Nat → Nat → Nat → Int32) (f : Nat) (l : List Int) : Prop := ∃ b : Nat, (I 58 0 (3 + f)).toInt = b ∧ (I 59 0 (3 + f)).toInt = b + l.length ∧ b + l.length ≤ 1600 ∧ gCd (I 60 0) gMc (1600 + b) l
def mFo (I : Nat → Nat → Nat → Int32) (C : gCo) (f : Nat) : Prop := if C.1 (50 + f) = 1 then mSl I f (C.2 f) else (I 58 0 (3 + f)).toInt = -1 ∧ C.2 f = gDef f
theorem mSl_congr {I I' : Nat → Nat → Nat → Int32} {f : Nat} {l : List Int} (h1 : I' 58 0 (3 + f) = I 58 0 (3 + f)) (h2 : I' 59 0 (3 + f) = I 59 0 (3 + f)) (h3 : ∀ z, I' 60 0 z = I 60 0 z) (hl : mSl I f l) : mSl I' f l := by
  obtain ⟨b, g1, g2, g3, g4⟩ := hl
  exact ⟨b, by rw [h1]; exact g1, by rw [h2]; exact g2, g3, gCd_congr (fun z _ _ => h3 z) g4⟩
theorem mFo_congr {I I' : Nat → Nat → Nat → Int32} {C : gCo} {f : Nat} (h1 : I' 58 0 (3 + f) = I 58 0 (3 + f)) (h2 : I' 59 0 (3 + f) = I 59 0 (3 + f)) (h3 : ∀ z, I' 60 0 z = I 60 0 z) (hl : mFo I C f) : mFo I' C f := by
  unfold mFo at *
  split
  · rename_i e; rw [if_pos e] at hl; exact mSl_congr h1 h2 h3 hl
  · rename_i e; rw [if_neg e] at hl; exact ⟨by rw [h1]; exact hl.1, hl.2⟩
variable {d S : Nat} {h : Nat × Option gNm} {I : Nat → Nat → Nat → Int32} {J : Nat → Nat → Nat → Int64} {Q : Option gV → gW → Prop}
theorem n_cut {a0 : Int64} {a2 : Int32} (h2 : 0 ≤ a2.toInt) (K : ∀ x : Int32, x.toInt = max 0 (min a0.toInt a2.toInt) → Q (some (.inl x)) (gwd S I J h)) : (gq d 158 0 [some (.inr (.inl (a0))), none, some (.inl (a2))] [] (gwd S I J h) Q) := by
  have := z_hi a2
  rw [gb_158_0]
  by_cases w1 : 0 ≤ a0.toInt
  · rw [if_pos ((lg_cmp_ge _ _).mpr (by rw [y_le, yi_0]; exact w1)), gb_158_10]
    by_cases w2 : a0.toInt ≤ a2.toInt
    · rw [if_pos ((lg_cmp_le _ _).mpr (by rw [y_le, z_64]; exact w2)), gb_158_21, gb_158_23]
      exact K _ (by rw [y_32 (by omega) (by omega)]; omega)
    · rw [if_neg (fun e => w2 (by have := (lg_cmp_le _ _).mp e; rw [y_le, z_64] at this; exact this)), gb_158_17, gb_158_23]
      exact K _ (by omega)
  · rw [if_neg (fun e => w1 (by have := (lg_cmp_ge _ _).mp e; rw [y_le, yi_0] at this; exact this)), gb_158_6, gb_158_23]
    exact K 0 (by rw [z_0]; omega)
theorem n_far {a0 a1 : Int32} (r0 : -100000 ≤ a0.toInt ∧ a0.toInt ≤ 100000) (r1 : -100000 ≤ a1.toInt ∧ a1.toInt ≤ 100000) (K : ∀ x : Int32, x.toInt = gabs (a0.toInt - a1.toInt) → Q (some (.inl x)) (gwd S I J h)) : (gq d 159 0 [some (.inl (a0)), some (.inl (a1))] [] (gwd S I J h) Q) := by
  rw [gb_159_0]
  by_cases w : a1.toInt ≤ a0.toInt
  · rw [if_pos (by rw [z_le]; exact w), gb_159_11, gb_159_14]
    exact K _ (by rw [z_sub (by omega) (by omega)]; unfold gabs; rw [if_pos (by omega)])
  · rw [if_neg (by rw [z_le]; exact w), gb_159_5, gb_159_14]
    exact K _ (by rw [z_sub (by omega) (by omega)]; unfold gabs; rw [if_neg (by omega)]; omega)
theorem n_miles : (gq d 184 0 [some (.inr (.inr (some (50, 0))))] [] (gwd S I J h) Q) ↔ Q (some (.inl (I 54 0 5))) (gwd S I J h) := by
  rw [gb_184_0, gb_184_6]; exact ⟨fun h => h.2, fun h => ⟨rfl, h⟩⟩
theorem n_bearers : (gq d 185 0 [some (.inr (.inr (some (50, 0))))] [] (gwd S I J h) Q) ↔ Q (some (.inl (I 54 0 6))) (gwd S I J h) := by
  rw [gb_185_0, gb_185_7]; exact ⟨fun h => h.2, fun h => ⟨rfl, h⟩⟩
theorem n_houses : (gq d 186 0 [some (.inr (.inr (some (50, 0))))] [] (gwd S I J h) Q) ↔ Q (some (.inl (I 54 0 7))) (gwd S I J h) := by
  rw [gb_186_0, gb_186_7]; exact ⟨fun h => h.2, fun h => ⟨rfl, h⟩⟩
theorem n_isIn {a0 a2 a4 : Int64} : (gq d 157 0 [some (.inr (.inl (a0))), none, some (.inr (.inl (a2))), none, some (.inr (.inl (a4))), none] [] (gwd S I J h) Q) ↔ Q (some (.inl (zb (a2.toInt ≤ a0.toInt ∧ a0.toInt ≤ a4.toInt)))) (gwd S I J h) := by
  simp only [gb_157_0, gb_157_6, gb_157_13, gb_157_17, gb_157_18, lg_cmp_lt, lg_cmp_gt, y_lt, g_t0, g_t1, true_and, zb]; (repeat' split) <;> first | exact Iff.rfl | (exfalso; omega)
theorem n_isBearer {a1 : Int64} (h2 : 0 ≤ (I 54 0 6).toInt) : (gq (d + 1) 187 0 [some (.inr (.inr (some (50, 0)))), some (.inr (.inl (a1))), none] [] (gwd S I J h) Q) ↔ Q (some (.inl (zb (0 ≤ a1.toInt ∧ a1.toInt < (I 54 0 6).toInt)))) (gwd S I J h) := by
  have e1 : (1 : Int32).toInt = 1 := rfl
  have := z_hi (I 54 0 6)
  have q : ((I 54 0 6 - 1 : Int32).toInt64).toInt = (I 54 0 6).toInt - 1 := by rw [z_64, z_sub (by omega) (by omega), e1]
  rw [gb_187_0, n_bearers, Option.toList_some, List.singleton_append, gb_187_6, n_isIn, Option.toList_some, List.singleton_append, gb_187_12, zb_ok, true_and, q, yi_0]
  rw [zb_congr (p := 0 ≤ a1.toInt ∧ a1.toInt ≤ (I 54 0 6).toInt - 1) (q := 0 ≤ a1.toInt ∧ a1.toInt < (I 54 0 6).toInt) (by omega)]
theorem n_isHouse {a1 : Int32} (h2 : 0 ≤ (I 54 0 7).toInt) : (gq (d + 1) 188 0 [some (.inr (.inr (some (50, 0)))), some (.inl (a1))] [] (gwd S I J h) Q) ↔ Q (some (.inl (zb (0 ≤ a1.toInt ∧ a1.toInt < (I 54 0 7).toInt)))) (gwd S I J h) := by
  have e1 : (1 : Int32).toInt = 1 := rfl
  have := z_hi (I 54 0 7)
  have q : ((I 54 0 7 - 1 : Int32).toInt64).toInt = (I 54 0 7).toInt - 1 := by rw [z_64, z_sub (by omega) (by omega), e1]
  rw [gb_188_0, n_houses, Option.toList_some, List.singleton_append, gb_188_7, n_isIn, Option.toList_some, List.singleton_append, gb_188_13, zb_ok, true_and, q, yi_0, z_64]
  rw [zb_congr (p := 0 ≤ a1.toInt ∧ a1.toInt ≤ (I 54 0 7).toInt - 1) (q := 0 ≤ a1.toInt ∧ a1.toInt < (I 54 0 7).toInt) (by omega)]
theorem n_isMile {a1 : Int32} : (gq (d + 1) 189 0 [some (.inr (.inr (some (50, 0)))), some (.inl (a1))] [] (gwd S I J h) Q) ↔ Q (some (.inl (zb (I 50 0 48 ≠ 0 ∧ 0 ≤ a1.toInt ∧ a1.toInt ≤ (I 54 0 5).toInt)))) (gwd S I J h) := by
  rw [gb_189_0]
  by_cases hz : I 50 0 48 = 0
  · rw [if_pos hz, gb_189_25, gb_189_26, g_t0, true_and, zb_neg (fun e => e.1 hz)]
  · rw [if_neg hz, gb_189_7, n_miles, Option.toList_some, List.singleton_append, gb_189_14, n_isIn, Option.toList_some, List.singleton_append, gb_189_18, z_64, z_64, yi_0]
    by_cases w : 0 ≤ a1.toInt ∧ a1.toInt ≤ (I 54 0 5).toInt
    · rw [zb_pos w, if_neg (by decide), gb_189_21, gb_189_26, g_t1, true_and, zb_pos ⟨hz, w⟩]
    · rw [zb_neg w, if_pos rfl, gb_189_25, gb_189_26, g_t0, true_and, zb_neg (fun e => w e.2)]
theorem n_houseMile {a1 : Int32} {b : Nat} (h1 : a1.toInt = b) (hb : b < 8) : (gq d 190 0 [some (.inr (.inr (some (50, 0)))), some (.inl (a1))] [] (gwd S I J h) Q) ↔ Q (some (.inl (I 57 0 (16 + 2 * b)))) (gwd S I J h) := by
  have e2 : (2 : Int32).toInt = 2 := rfl
  have e16 : (16 : Int32).toInt = 16 := rfl
  have q0 : (2 * a1).toInt = 2 * b := by rw [z_mul (by rw [h1, e2]; omega) (by rw [h1, e2]; omega), h1, e2]
  have q1 : (16 + 2 * a1).toInt = 16 + 2 * b := by rw [z_add (by omega) (by omega), q0, e16]
  have en : (16 + 2 * a1).toNatClampNeg = 16 + 2 * b := by rw [z_n, q1]; omega
  rw [gb_190_0, en, gb_190_11]; exact ⟨fun h => h.2, fun h => ⟨g_in.mpr (by omega), h⟩⟩
theorem n_pace {a1 : Int32} {b : Nat} (h1 : a1.toInt = b) (hb : b < 8) : (gq d 191 0 [some (.inr (.inr (some (50, 0)))), some (.inl (a1))] [] (gwd S I J h) Q) ↔ Q (some (.inl (I 56 0 (17 + 2 * b)))) (gwd S I J h) := by
  have e2 : (2 : Int32).toInt = 2 := rfl
  have e17 : (17 : Int32).toInt = 17 := rfl
  have q0 : (2 * a1).toInt = 2 * b := by rw [z_mul (by rw [h1, e2]; omega) (by rw [h1, e2]; omega), h1, e2]
  have q1 : (17 + 2 * a1).toInt = 17 + 2 * b := by rw [z_add (by omega) (by omega), q0, e17]
  have en : (17 + 2 * a1).toNatClampNeg = 17 + 2 * b := by rw [z_n, q1]; omega
  rw [gb_191_0, en, gb_191_11]; exact ⟨fun h => h.2, fun h => ⟨g_in.mpr (by omega), h⟩⟩
theorem n_mileOf {a1 : Int32} {b : Nat} (h1 : a1.toInt = b) (hb : b < 8) : (gq d 192 0 [some (.inr (.inr (some (50, 0)))), some (.inl (a1))] [] (gwd S I J h) Q) ↔ Q (some (.inl (I 61 0 (4 + 2 * b)))) (gwd S I J h) := by
  have e2 : (2 : Int32).toInt = 2 := rfl
  have e4 : (4 : Int32).toInt = 4 := rfl
  have q0 : (2 * a1).toInt = 2 * b := by rw [z_mul (by rw [h1, e2]; omega) (by rw [h1, e2]; omega), h1, e2]
  have q1 : (4 + 2 * a1).toInt = 4 + 2 * b := by rw [z_add (by omega) (by omega), q0, e4]
  have en : (4 + 2 * a1).toNatClampNeg = 4 + 2 * b := by rw [z_n, q1]; omega
  rw [gb_192_0, en, gb_192_10]; exact ⟨fun h => h.2, fun h => ⟨g_in.mpr (by omega), h⟩⟩
theorem n_aside {a1 : Int32} {b : Nat} (h1 : a1.toInt = b) (hb : b < 8) : (gq d 193 0 [some (.inr (.inr (some (50, 0)))), some (.inl (a1))] [] (gwd S I J h) Q) ↔ Q (some (.inl (zb ((I 61 0 (5 + 2 * b)).toInt = 1)))) (gwd S I J h) := by
  have e1 : (1 : Int32).toInt = 1 := rfl
  have e2 : (2 : Int32).toInt = 2 := rfl
  have e5 : (5 : Int32).toInt = 5 := rfl
  have q0 : (2 * a1).toInt = 2 * b := by rw [z_mul (by rw [h1, e2]; omega) (by rw [h1, e2]; omega), h1, e2]
  have q1 : (5 + 2 * a1).toInt = 5 + 2 * b := by rw [z_add (by omega) (by omega), q0, e5]
  have en : (5 + 2 * a1).toNatClampNeg = 5 + 2 * b := by rw [z_n, q1]; omega
  rw [gb_193_0, en, gb_193_10]
  by_cases w : (I 61 0 (5 + 2 * b)).toInt = 1
  · rw [if_pos (z_inj w), gb_193_14, gb_193_19, g_t1, true_and, zb_pos w]; exact ⟨fun h => h.2, fun h => ⟨g_in.mpr (by omega), h⟩⟩
  · rw [if_neg (fun e => w (by rw [e]; rfl)), gb_193_18, gb_193_19, g_t0, true_and, zb_neg w]; exact ⟨fun h => h.2, fun h => ⟨g_in.mpr (by omega), h⟩⟩
theorem n_coded {a1 : Int32} {f : Nat} (h1 : a1.toInt = f) (hf : f < 3) : (gq d 194 0 [some (.inr (.inr (some (50, 0)))), some (.inl (a1))] [] (gwd S I J h) Q) ↔ Q (some (.inl (zb ((I 58 0 (3 + f)).toInt ≠ -1)))) (gwd S I J h) := by
  have e3 : (3 : Int32).toInt = 3 := rfl
  have q1 : (3 + a1).toInt = 3 + f := by rw [z_add (by omega) (by omega), h1, e3]
  have en : (3 + a1).toNatClampNeg = 3 + f := by rw [z_n, q1]; omega
  rw [gb_194_0, en, gb_194_8, gb_194_9]
  by_cases w : (I 58 0 (3 + f)).toInt = -1
  · rw [if_pos (z_inj (by rw [w, z_m1])), gb_194_16, gb_194_17, g_t0, true_and, zb_neg (fun e => e w)]; exact ⟨fun h => h.2, fun h => ⟨g_in.mpr (by omega), h⟩⟩
  · rw [if_neg (fun e => w (by rw [e, z_m1])), gb_194_12, gb_194_17, g_t1, true_and, zb_pos w]; exact ⟨fun h => h.2, fun h => ⟨g_in.mpr (by omega), h⟩⟩
theorem n_part {a1 a2 : Int32} {w : Nat} (h1 : a1.toInt = w) (hw : w < 9) : (gq d 271 0 [some (.inr (.inr (some (50, 0)))), some (.inl (a1)), some (.inl (a2))] [] (gwd S I J h) Q) ↔ Q (some (.inr (.inl (I 50 0 (52 + w)).toInt64))) (gwd S I J h) := by
  have e : w = 0 ∨ w = 1 ∨ w = 2 ∨ w = 3 ∨ w = 4 ∨ w = 5 ∨ w = 6 ∨ w = 7 ∨ w = 8 := by omega
  rcases e with rfl | rfl | rfl | rfl | rfl | rfl | rfl | rfl | rfl
  · obtain rfl : a1 = 0 := z_inj h1
    simp [gb_271_0, gb_271_56]
  · obtain rfl : a1 = 1 := z_inj h1
    simp [gb_271_0, gb_271_62]
  · obtain rfl : a1 = 2 := z_inj h1
    simp [gb_271_0, gb_271_68]
  · obtain rfl : a1 = 3 := z_inj h1
    simp [gb_271_0, gb_271_74]
  · obtain rfl : a1 = 4 := z_inj h1
    simp [gb_271_0, gb_271_80]
  · obtain rfl : a1 = 5 := z_inj h1
    simp [gb_271_0, gb_271_86]
  · obtain rfl : a1 = 6 := z_inj h1
    simp [gb_271_0, gb_271_92]
  · obtain rfl : a1 = 7 := z_inj h1
    simp [gb_271_0, gb_271_98]
  · obtain rfl : a1 = 8 := z_inj h1
    simp [gb_271_0, gb_271_104]
theorem n_tell_loop {al : Nat → Bool} {V : Nat → Int} {f e : Nat} {a1 : Int32} (h1 : a1.toInt = f) (hf : f < 3) (he : e ≤ 1600) (hal : ∀ w, al w = true → w < 8) (hVr : ∀ w, w < 11 → al w = true → -1000000 ≤ V w ∧ V w ≤ 1000000) :
    ∀ (l : List Int) (s : List Int) (T T' : List Bool) (k : Nat) (I : Nat → Nat → Nat → Int32) (J : Nat → Nat → Nat → Int64) (a2 : Int32) (x3 : Option gV),
    gTy al l T = some T' → eVs T s → T.length ≤ 60 → (∀ w, al w = true → (I 50 0 (52 + w)).toInt = V w) → (I 59 0 (3 + f)).toInt = e → a2.toInt = k → k + l.length = e → (I 50 0 105).toInt = s.length → gHl (J 70 0) s → gCd (I 60 0) gMc (1600 + k) l →
    (∀ I' (J' : Nat → Nat → Nat → Int64) a2 x3, (∀ k i j, ¬ ((k = 50 ∧ i = 0 ∧ j = 105)) → I' k i j = I k i j) → (∀ k i j, ¬ (k = 70 ∧ i = 0) → J' k i j = J k i j) → eVs T' (gRun V g0 l s) → gHl (J' 70 0) (gRun V g0 l s) → (gq (d + 2) 195 142 [some (.inr (.inr (some (50, 0)))), some (.inl (a1)), some (.inl (a2)), x3] [] (gwd S I' J' h) Q)) → (gq (d + 2) 195 19 [some (.inr (.inr (some (50, 0)))), some (.inl (a1)), some (.inl (a2)), x3] [] (gwd S I J h) Q)
  | [], s, T, T', k, I, J, a2, x3, ht, hs, hT, hV, hee, h2, hk, hq, hh, hc, K => by
    have e3 : (3 : Int32).toInt = 3 := rfl
    have q1 : (3 + a1).toInt = 3 + f := by rw [z_add (by omega) (by omega), h1, e3]
    have en : (3 + a1).toNatClampNeg = 3 + f := by rw [z_n, q1]; omega
    simp only [gTy] at ht
    cases ht
    rw [gb_195_19]
    refine ⟨g_in.mpr (by omega), ?_⟩
    rw [en, gb_195_28, if_pos (by rw [z_le]; simp at hk; omega)]
    exact K I J _ _ (fun _ _ _ _ => rfl) (fun _ _ _ _ => rfl) hs hh
  | c :: cs, s, T, T', k, I, J, a2, x3, ht, hs, hT, hV, hee, h2, hk, hq, hh, hc, K => by
    have e1 : (1 : Int32).toInt = 1 := rfl
    have e3 : (3 : Int32).toInt = 3 := rfl
    have e40 : (40 : Int32).toInt = 40 := rfl
    have e12 : (12 : Int32).toInt = 12 := rfl
    have e13 : (13 : Int32).toInt = 13 := rfl
    have e1000 : (1000 : Int32).toInt = 1000 := rfl
    have e1600 : (1600 : Int32).toInt = 1600 := rfl
    have q1 : (3 + a1).toInt = 3 + f := by rw [z_add (by omega) (by omega), h1, e3]
    have en : (3 + a1).toNatClampNeg = 3 + f := by rw [z_n, q1]; omega
    simp only [List.length_cons] at hk
    have q2 : (1600 + a2).toInt = 1600 + k := by rw [z_add (by omega) (by omega), h2, e1600]
    have en2 : (1600 + a2).toNatClampNeg = 1600 + k := by rw [z_n, q2]; omega
    have hl := eVs_len hs
    have ea : (a2 + 1).toInt = ((k + 1 : Nat) : Int) := by rw [z_add (by omega) (by omega), h2, e1]; rfl
    unfold gTy at ht
    split at ht
    case h_2 => cases ht
    rename_i T1 ht1
    split at ht
    case isFalse => cases ht
    rename_i hT1
    have hq' : gAsks c = false := by
      cases hqc : gAsks c
      · rfl
      · have hc' : c = -12 ∨ c = -13 := of_decide_eq_true hqc
        unfold gTy1 at ht1
        rw [if_neg (by omega), if_neg (by omega), if_pos hqc] at ht1
        split at ht1
        · rename_i hx; have := hal _ hx; omega
        · cases ht1
    have hnq : ¬ (c = -12 ∨ c = -13) := of_decide_eq_false hq'
    have hstep := gStep_ok ht1 hq' hVr hs
    rw [show gRun V g0 (c :: cs) s = gRun V g0 cs (if gAsks c then gPop1 (g0 (-1 - c)) s else gStep V c s) from rfl, hq'] at K
    simp only [Bool.false_eq_true, if_false] at K
    have hcode := hc.1
    have next : ∀ (I1 : Nat → Nat → Nat → Int32) (J1 : Nat → Nat → Nat → Int64) (a3 : Int32), (∀ k i j, ¬ ((k = 50 ∧ i = 0 ∧ j = 105)) → I1 k i j = I k i j) → (∀ k i j, ¬ (k = 70 ∧ i = 0) → J1 k i j = J k i j) → (I1 50 0 105).toInt = (gStep V c s).length → gHl (J1 70 0) (gStep V c s) → (gq (d + 2) 195 136 [some (.inr (.inr (some (50, 0)))), some (.inl (a1)), some (.inl (a2)), some (.inl (a3))] [] (gwd S I1 J1 h) Q) := fun I1 J1 a3 hF hFJ g1 g2 => by
      rw [gb_195_136]
      exact n_tell_loop h1 hf he hal hVr cs (gStep V c s) T1 T' (k + 1) I1 J1 _ _ ht hstep hT1 (fun w hw => by have := hal w hw; rw [hF _ _ _ (by omega)]; exact hV w hw) (by rw [hF _ _ _ (by omega)]; exact hee) ea (by omega) g1 g2 (by rw [show 1600 + (k + 1) = 1600 + k + 1 by omega]; exact gCd_congr (fun z _ _ => hF _ _ _ (by omega)) hc.2) fun I2 J2 z2 z3 hF2 hFJ2 g3 g4 => K I2 J2 z2 z3 (fun k i j hn => by rw [hF2 _ _ _ hn, hF _ _ _ hn]) (fun k i j hn => by rw [hFJ2 _ _ _ hn, hFJ _ _ _ hn]) g3 g4
    rw [gb_195_19]
    refine ⟨g_in.mpr (by omega), ?_⟩
    rw [en, gb_195_28, if_neg (by rw [z_le]; omega), gb_195_31]
    refine ⟨g_in.mpr (by omega), ?_⟩
    rw [en2, gb_195_41]
    generalize hM : I 60 0 (1600 + k) = M at *
    unfold gTy1 at ht1
    unfold gStep at next
    by_cases c0 : 0 ≤ c
    · rw [if_pos c0] at next ht1
      split at ht1
      case isFalse => cases ht1
      rename_i c9
      have eM : M.toInt = 1000 + c := by rw [hcode]; exact if_pos c0
      rw [if_neg (by rw [z_lt]; omega), gb_195_49, n_puts hq (by omega), Option.toList_none, List.nil_append, gb_195_59]
      refine next _ _ _ (fun k i j hn => u_ne hn) (fun k i j hn => u_ne (by omega)) (by rw [u_eq, z_add (by omega) (by omega), hq, e1]; rfl) (gHl_push hh (fun k hk => u_j (by omega)) (by rw [u_eq, z_64, z_sub (by omega) (by omega), eM, e1000]; omega))
    · rw [if_neg c0] at next ht1
      by_cases c1 : -1 - c < 11
      · rw [if_pos c1] at next ht1
        have eM : M.toInt = 40 + (-1 - c) := by rw [hcode]; unfold gMc; rw [if_neg c0, if_pos c1]
        split at ht1
        case isFalse => cases ht1
        rename_i hx
        have hw8 := hal _ hx
        have hvv := hV _ hx
        have q4 : (M - 40).toInt = (((-1 - c).toNat : Nat) : Int) := by rw [z_sub (by omega) (by omega), eM, e40]; omega
        rw [if_pos (by rw [z_lt]; omega), gb_195_62, if_neg (by rw [z_lt]; omega), gb_195_68, n_part q4 (by omega), Option.toList_some, List.singleton_append, gb_195_78, n_puts hq (by omega), Option.toList_none, List.nil_append, gb_195_81]
        refine next _ _ _ (fun k i j hn => u_ne hn) (fun k i j hn => u_ne (by omega)) (by rw [u_eq, z_add (by omega) (by omega), hq, e1]; rfl) (gHl_push hh (fun k hk => u_j (by omega)) (by rw [u_eq, z_64]; exact hvv))
      · rw [if_neg c1] at next ht1
        rw [if_neg (by rw [hq']; exact Bool.false_ne_true)] at ht1
        have hcode2 : M.toInt = if c = -15 then 13 else if c = -14 then 12 else gMw (-1 - c) := by
          rw [hcode]; unfold gMc; rw [if_neg c0, if_neg c1, if_neg (by omega), if_neg (by omega)]
        have hgr := gMw_r (-1 - c)
        have hMr : M.toInt < 40 := by rw [hcode2]; (repeat' split) <;> omega
        rw [if_pos (by rw [z_lt]; omega), gb_195_62, if_pos (by rw [z_lt]; omega), gb_195_84]
        by_cases c2 : c = -15
        · rw [if_pos c2] at next hcode2
          rw [if_pos (z_inj (by rw [hcode2]; rfl)), gb_195_90, n_puts hq (by omega), Option.toList_none, List.nil_append, gb_195_95]
          refine next _ _ _ (fun k i j hn => u_ne hn) (fun k i j hn => u_ne (by omega)) (by rw [u_eq, z_add (by omega) (by omega), hq, e1]; rfl) (gHl_push hh (fun k hk => u_j (by omega)) (by rw [u_eq]; rfl))
        · rw [if_neg c2] at next hcode2 ht1
          by_cases c3 : c = -14
          · rw [if_pos c3] at next hcode2 ht1
            obtain ⟨T0, rfl, rfl⟩ := gT1_inv ht1
            obtain ⟨v, s', rfl, hv, hs'⟩ := eVs_cons hs
            have hv' : v = 0 ∨ v = 1 := hv
            simp only [List.length_cons] at hq hl hT
            have q5 : (I 50 0 105 - 1).toInt = s'.length := by rw [z_sub (by omega) (by omega), hq, e1]; omega
            have n5 : (I 50 0 105 - 1).toNatClampNeg = s'.length := by rw [z_n, q5]; omega
            rw [if_neg (fun e => by rw [e] at hcode2; exact absurd hcode2 (by decide)), gb_195_98, if_pos (z_inj (by rw [hcode2]; rfl)), gb_195_104]
            refine ⟨g_in.mpr (by omega), ?_⟩
            rw [gb_195_126]
            refine ⟨g_in.mpr (by omega), ?_⟩
            rw [n5, gb_195_128]
            refine next _ _ _ (fun k i j hn => rfl) (fun k i j hn => u_ne (by omega)) (by rw [hq]; rfl) ⟨?_, gHl_congr (fun k hk => u_j (by omega)) hh.2⟩
            rw [u_eq, y_sub (by rw [hh.1, yi_1]; omega) (by rw [hh.1, yi_1]; omega), hh.1, yi_1]
          · rw [if_neg c3] at next hcode2 ht1
            have hne13 : ¬ M = 13 := fun e => by rw [e, e13] at hcode2; omega
            have hne12 : ¬ M = 12 := fun e => by rw [e, e12] at hcode2; omega
            rw [if_neg hne13, gb_195_98, if_neg hne12, gb_195_131]
            have hj : ∃ x y T0, T = x :: x :: T0 ∧ T1 = y :: T0 ∧ ((gBop (-1 - c) = true ∧ x = true) ∨ ((gNop (-1 - c) = true ∨ gCop (-1 - c) = true) ∧ x = false)) := by
              split at ht1
              · obtain ⟨T0, h5, h6⟩ := gT2_inv ht1; exact ⟨true, true, T0, h5, h6, Or.inl ⟨‹_›, rfl⟩⟩
              · split at ht1
                · obtain ⟨T0, h5, h6⟩ := gT2_inv ht1; exact ⟨false, false, T0, h5, h6, Or.inr ⟨Or.inl ‹_›, rfl⟩⟩
                · split at ht1
                  · obtain ⟨T0, h5, h6⟩ := gT2_inv ht1; exact ⟨false, true, T0, h5, h6, Or.inr ⟨Or.inr ‹_›, rfl⟩⟩
                  · cases ht1
            obtain ⟨x, y, T0, rfl, rfl, hx⟩ := hj
            obtain ⟨v, s', rfl, hv, hs'⟩ := eVs_cons hs
            obtain ⟨u, s2, rfl, hu, hs2⟩ := eVs_cons hs'
            simp only [List.length_cons] at hq hl hT
            refine n_joins (w := -1 - c) (a := u) (b := v) (s := s2) hcode2 ?_ (by rw [hq]; omega) (by omega) hh fun I1 J1 hF1 hFJ1 g1 g2 => ?_
            · rcases hx with ⟨h5, rfl⟩ | ⟨h5, rfl⟩
              · exact Or.inl ⟨h5, hu, hv⟩
              · exact Or.inr ⟨h5, hu, hv⟩
            · rw [Option.toList_none, List.nil_append]
              exact next I1 J1 _ hF1 hFJ1 (by rw [g1]; rfl) g2
theorem n_tell {al : Nat → Bool} {V : Nat → Int} {f : Nat} {a1 : Int32} {x2 x3 : Option gV} {l : List Int} {t : Bool} (h1 : a1.toInt = f) (hf : f < 3) (hal : ∀ w, al w = true → w < 8) (hVr : ∀ w, w < 11 → al w = true → -1000000 ≤ V w ∧ V w ≤ 1000000) (ht : gTy al l [] = some [t]) (hV : ∀ w, al w = true → (I 50 0 (52 + w)).toInt = V w) (hl : mSl I f l)
    (K : ∀ I' (J' : Nat → Nat → Nat → Int64) (x : Int64), (∀ k i j, ¬ ((k = 50 ∧ i = 0 ∧ (j = 49 ∨ j = 105))) → I' k i j = I k i j) → (∀ k i j, ¬ (k = 70 ∧ i = 0) → J' k i j = J k i j) → x.toInt = gTop (gRun V g0 l []) → eVal t x.toInt → Q (some (.inr (.inl x))) (gwd S I' J' h)) : (gq (d + 2) 195 0 [some (.inr (.inr (some (50, 0)))), some (.inl (a1)), x2, x3] [] (gwd S I J h) Q) := by
  have e3 : (3 : Int32).toInt = 3 := rfl
  have q1 : (3 + a1).toInt = 3 + f := by rw [z_add (by omega) (by omega), h1, e3]
  have en : (3 + a1).toNatClampNeg = 3 + f := by rw [z_n, q1]; omega
  obtain ⟨b, g1, g2, g3, g4⟩ := hl
  rw [gb_195_0]
  refine ⟨g_in.mpr (by omega), ?_⟩
  rw [en, gb_195_18]
  refine n_tell_loop (V := V) (al := al) (e := b + l.length) h1 hf g3 hal hVr l [] [] [t] b _ J _ _ ht trivial (Nat.zero_le _) (fun w hw => by have := hal w hw; rw [u_ne (by omega), u_ne (by omega)]; exact hV w hw) (by rw [u_ne (by omega), u_ne (by omega), g2]; rfl) g1 rfl (by rw [u_eq]; rfl) trivial (gCd_congr (fun z _ _ => by rw [u_ne (by omega), u_ne (by omega)]) g4) fun I1 J1 z2 z3 hF1 hFJ1 p1 p2 => ?_
  obtain ⟨v, s', hv, hvt, hs'⟩ := eVs_cons p1
  have hnil : s' = [] := by
    have := eVs_len hs'
    cases s' with
    | nil => rfl
    | cons => cases this
  subst hnil
  rw [hv] at p2
  rw [gb_195_142]
  refine ⟨rfl, ?_⟩
  rw [gb_195_148]
  exact K I1 J1 _ (fun k i j hn => by rw [hF1 _ _ _ (by omega), u_ne (by omega), u_ne (by omega)]) hFJ1 (by rw [hv]; exact p2.1) (by rw [show (J1 70 0 (0 : Int32).toNatClampNeg).toInt = v from p2.1]; exact hvt)
