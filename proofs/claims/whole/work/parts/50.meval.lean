/-! The model's formulas: its words' numbers, its stack. -/
def gMw (w : Int) : Int := if w = 15 then 11 else if w = 16 then 10 else if w = 17 then 5 else if w = 18 then 6 else if w = 60 then 7 else if w = 62 then 8 else if w = 61 then 9 else if w = 43 then 1 else if w = 45 then 2 else if w = 42 then 3 else 4
def gMc (c : Int) : Int := if 0 ≤ c then 1000 + c else if -1 - c < 11 then 40 + (-1 - c) else if c = -12 then 60 else if c = -13 then 61 else if c = -15 then 13 else if c = -14 then 12 else gMw (-1 - c)
theorem gMw_r (w : Int) : 1 ≤ gMw w ∧ gMw w ≤ 11 := by unfold gMw; (repeat' split) <;> omega
variable {d S : Nat} {h : Nat × Option gNm} {I : Nat → Nat → Nat → Int32} {J : Nat → Nat → Nat → Int64} {Q : Option gV → gW → Prop}
theorem yi_0 : (0 : Int64).toInt = 0 := rfl
theorem yi_1 : (1 : Int64).toInt = 1 := rfl
theorem y_lo (a : Int64) : -9223372036854775808 ≤ a.toInt := a.le_toInt
theorem y_hi (a : Int64) : a.toInt ≤ 9223372036854775807 := by have := a.toInt_lt; omega
theorem n_clip {a0 : Int64} (K : ∀ x : Int64, x.toInt = gclip a0.toInt → Q (some (.inr (.inl x))) (gwd S I J h)) : (gq d 267 0 [some (.inr (.inl (a0))), none] [] (gwd S I J h) Q) := by
  have e1 : (1000000 : Int64).toInt = 1000000 := rfl
  have e2 : (Int64.ofNat 18446744073708551616).toInt = -1000000 := rfl
  simp only [gb_267_0, gb_267_8, gb_267_14, gb_267_18, gb_267_22, gb_267_25, gb_267_28, gb_267_29, lg_cmp_le, lg_cmp_ge, y_le, e1, e2]
  split
  · split
    · exact K _ (by unfold gclip; rw [if_neg (by omega), if_neg (by omega)])
    · exact K _ (by unfold gclip; rw [if_neg (by omega), if_pos (by omega)]; rfl)
  · exact K _ (by unfold gclip; rw [if_pos (by omega)]; rfl)
theorem n_floor {a0 a2 : Int64} {x4 x5 : Option gV} {a b : Int} (ha : a0.toInt = a) (hb : a2.toInt = b) (ra : -1000000 ≤ a ∧ a ≤ 1000000) (rb : -1000000 ≤ b ∧ b ≤ 1000000) (K : ∀ x : Int64, x.toInt = (if b = 0 then 0 else a.fdiv b) → Q (some (.inr (.inl x))) (gwd S I J h)) : (gq d 268 0 [some (.inr (.inl (a0))), none, some (.inr (.inl (a2))), none, x4, x5] [] (gwd S I J h) Q) := by
  rw [gb_268_0]
  by_cases hz : b = 0
  · rw [if_pos ((lg_cmp_eq _ _).mpr (y_inj (by rw [hb, hz]; rfl))), gb_268_6]
    exact K 0 (by rw [if_pos hz]; rfl)
  · have hz' : ¬ a2 = 0 := fun e => hz (by rw [← hb, e]; rfl)
    rw [if_neg (fun e => hz' ((lg_cmp_eq _ _).mp e)), gb_268_8]
    refine ⟨hz', hz', ?_⟩
    have hm : a0 ≠ Int64.minValue := fun e => by
      rw [e] at ha
      have : Int64.minValue.toInt = -9223372036854775808 := rfl
      omega
    have e1 : (a0 / a2).toInt = a.tdiv b := by rw [Int64.toInt_div_of_ne_left _ _ hm, ha, hb]
    have hr : -1000000 ≤ a.tmod b ∧ a.tmod b ≤ 1000000 := by
      by_cases hp : 0 < b
      · have := Int.tmod_lt_of_pos a hp
        have := Int.lt_tmod_of_pos a hp
        omega
      · have hp' : 0 < -b := by omega
        have h1 := Int.tmod_lt_of_pos a hp'
        have h2 := Int.lt_tmod_of_pos a hp'
        rw [Int.tmod_neg] at h1 h2
        omega
    have e2 := Int.tdiv_mul_add_tmod a b
    have e3 : (a0 / a2 * a2).toInt = a.tdiv b * b := by
      have : (a0 / a2).toInt * a2.toInt = a.tdiv b * b := by rw [e1, hb]
      rw [y_mul (by omega) (by omega), e1, hb]
    have e4 : (a0 - a0 / a2 * a2).toInt = a.tmod b := by rw [y_sub (by omega) (by omega), e3, ha]; omega
    have hd : a.tmod b = 0 ↔ b ∣ a := ⟨Int.dvd_of_tmod_eq_zero, fun hd => by have := Int.tdiv_mul_cancel hd; omega⟩
    have hf := gfdiv_r ra hz
    rw [if_neg hz] at K
    rw [Int.fdiv_eq_tdiv] at K hf
    by_cases h0 : a.tmod b = 0
    · rw [if_pos ((lg_cmp_eq _ _).mpr (y_inj (by rw [e4, h0]; rfl))), gb_268_53, gb_268_55]
      exact K _ (by rw [if_pos (hd.mp h0), e1]; omega)
    · rw [if_neg (fun e => h0 (by rw [← e4, (lg_cmp_eq _ _).mp e]; rfl)), gb_268_21]
      rw [if_neg (fun e => h0 (hd.mpr e))] at K hf
      have fin1 : ∀ s0 s1 : Int32, ¬ s1 = s0 → (a0 / a2 - 1).toInt = (a.tdiv b - if 0 ≤ a then if 0 ≤ b then 0 else 1 else if 0 ≤ b then b.sign else 1 + b.sign) → (gq d 268 43 [some (.inr (.inl (a0))), none, some (.inr (.inl (a2))), none, some (.inr (.inl ((a0 / a2)))), none] [.inl (s0), .inl (s1)] (gwd S I J h) Q) := fun s0 s1 hs hv => by
        rw [gb_268_43, if_neg hs, gb_268_46, gb_268_55]
        exact K _ hv
      have fin0 : ∀ s0 s1 : Int32, s1 = s0 → (a0 / a2).toInt = (a.tdiv b - if 0 ≤ a then if 0 ≤ b then 0 else 1 else if 0 ≤ b then b.sign else 1 + b.sign) → (gq d 268 43 [some (.inr (.inl (a0))), none, some (.inr (.inl (a2))), none, some (.inr (.inl ((a0 / a2)))), none] [.inl (s0), .inl (s1)] (gwd S I J h) Q) := fun s0 s1 hs hv => by
        rw [gb_268_43, if_pos hs, gb_268_53, gb_268_55]
        exact K _ hv
      by_cases h1 : 0 ≤ a <;> by_cases h2 : 0 ≤ b
      · rw [if_pos ((lg_cmp_ge _ _).mpr (by rw [y_le, yi_0]; omega)), gb_268_31, gb_268_32, if_pos ((lg_cmp_ge _ _).mpr (by rw [y_le, yi_0]; omega)), gb_268_42]
        exact fin0 0 0 rfl (by rw [if_pos h1, if_pos h2, e1]; omega)
      · rw [if_pos h1, if_neg h2] at hf
        rw [if_pos ((lg_cmp_ge _ _).mpr (by rw [y_le, yi_0]; omega)), gb_268_31, gb_268_32, if_neg (fun e => by have := (lg_cmp_ge _ _).mp e; rw [y_le, yi_0] at this; omega), gb_268_38]
        exact fin1 1 0 (by decide) (by rw [if_pos h1, if_neg h2, y_sub (by rw [e1, yi_1]; omega) (by rw [e1, yi_1]; omega), e1, yi_1])
      · rw [if_neg h1, if_pos h2, Int.sign_eq_one_of_pos (by omega)] at hf
        rw [if_neg (fun e => by have := (lg_cmp_ge _ _).mp e; rw [y_le, yi_0] at this; omega), gb_268_27, gb_268_32, if_pos ((lg_cmp_ge _ _).mpr (by rw [y_le, yi_0]; omega)), gb_268_42]
        exact fin1 0 1 (by decide) (by rw [if_neg h1, if_pos h2, Int.sign_eq_one_of_pos (by omega), y_sub (by rw [e1, yi_1]; omega) (by rw [e1, yi_1]; omega), e1, yi_1])
      · rw [if_neg (fun e => by have := (lg_cmp_ge _ _).mp e; rw [y_le, yi_0] at this; omega), gb_268_27, gb_268_32, if_neg (fun e => by have := (lg_cmp_ge _ _).mp e; rw [y_le, yi_0] at this; omega), gb_268_38]
        exact fin0 1 1 rfl (by rw [if_neg h1, if_neg h2, Int.sign_eq_neg_one_of_neg (by omega), e1]; omega)
theorem n_puts {a1 : Int64} {n : Nat} (h1 : (I 50 0 105).toInt = n) (h2 : n < 1700) : (gq d 269 0 [some (.inr (.inr (some (50, 0)))), some (.inr (.inl (a1))), none] [] (gwd S I J h) Q) ↔ Q none (gwd S (gup I 50 0 105 (I 50 0 105 + 1)) (gup J 70 0 n a1) h) := by
  have en : (I 50 0 105).toNatClampNeg = n := by rw [z_n]; omega
  rw [gb_269_0, en, gb_269_10]
  exact ⟨fun h => h.2, fun h => ⟨g_in.mpr (by omega), h⟩⟩
/-- what the pile holds behind a push -/
theorem gHl_push {H H' : Nat → Int64} {v : Int} {s : List Int} (h : gHl H s) (e : ∀ k, k < s.length → H' k = H k) (hv : (H' s.length).toInt = v) : gHl H' (v :: s) := ⟨hv, gHl_congr e h⟩
theorem n_joins {a1 : Int32} {x2 x3 x4 x5 : Option gV} {w a b : Int} {s : List Int} (h1 : a1.toInt = gMw w) (ht : (gBop w = true ∧ eVal true a ∧ eVal true b) ∨ ((gNop w = true ∨ gCop w = true) ∧ eVal false a ∧ eVal false b)) (hq : (I 50 0 105).toInt = (s.length : Int) + 2) (hs : s.length < 1000) (hh : gHl (J 70 0) (b :: a :: s))
    (K : ∀ I' (J' : Nat → Nat → Nat → Int64), (∀ k i j, ¬ ((k = 50 ∧ i = 0 ∧ j = 105)) → I' k i j = I k i j) → (∀ k i j, ¬ (k = 70 ∧ i = 0) → J' k i j = J k i j) → (I' 50 0 105).toInt = (s.length : Int) + 1 → gHl (J' 70 0) (gjoin w a b :: s) → Q none (gwd S I' J' h)) : (gq (d + 1) 270 0 [some (.inr (.inr (some (50, 0)))), some (.inl (a1)), x2, x3, x4, x5] [] (gwd S I J h) Q) := by
  have e1 : (1 : Int32).toInt = 1 := rfl
  have e2 : (2 : Int32).toInt = 2 := rfl
  have q1 : (I 50 0 105 - 1).toInt = (s.length : Int) + 1 := by rw [z_sub (by omega) (by omega), hq, e1]; omega
  have q2 : (I 50 0 105 - 2).toInt = (s.length : Int) := by rw [z_sub (by omega) (by omega), hq, e2]; omega
  have n1 : (I 50 0 105 - 1).toNatClampNeg = s.length + 1 := by rw [z_n, q1]; omega
  have n2 : (I 50 0 105 - 2).toNatClampNeg = s.length := by rw [z_n, q2]; omega
  have hb := hh.1
  have ha := hh.2.1
  have hs0 := hh.2.2
  simp only [List.length_cons] at hb
  rw [gb_270_0]
  refine ⟨g_in.mpr (by omega), ?_⟩
  rw [n1, gb_270_11]
  refine ⟨g_in.mpr (by omega), ?_⟩
  rw [n2, gb_270_23]
  generalize hB : J 70 0 (s.length + 1) = B at *
  generalize hA : J 70 0 s.length = A at *
  have P : ∀ (x : Int64), x.toInt = gjoin w a b → ∀ {d : Nat} {Q' : Option gV → gW → Prop}, (∀ (I' : Nat → Nat → Nat → Int32) J', Q none (gwd S I' J' h) → Q' none (gwd S I' J' h)) → gq d 269 0 [some (.inr (.inr (some (50, 0)))), some (.inr (.inl x)), none] [] (gwd S (gup I 50 0 105 (I 50 0 105 - 2)) J h) Q' := fun x hx {d Q'} hQ => by
    rw [n_puts (n := s.length) (by rw [u_eq]; exact q2) (by omega)]
    refine hQ _ _ (K _ _ (fun k i j hn => by rw [u_ne hn, u_ne hn]) (fun k i j hn => u_ne (by omega)) ?_ ?_)
    · rw [u_eq, u_eq, z_add (by omega) (by omega), q2, e1]
    · exact gHl_push hs0 (fun k hk => u_j (by omega)) (by rw [u_eq]; exact hx)
  rcases ht with ⟨hw, va, vb⟩ | ⟨hw, va, vb⟩
  · have hw' : w = 15 ∨ w = 16 := of_decide_eq_true hw
    simp only [eVal, if_true] at va vb
    rcases hw' with rfl | rfl
    · obtain rfl : a1 = 11 := z_inj h1
      simp [gb_270_23, gb_270_255]
      have es : (A + B).toInt = a + b := by rw [y_add (by omega) (by omega), ha, hb]
      split
      · rename_i hl
        have hl' := (lg_cmp_le _ _).mp hl
        rw [y_le, yi_0] at hl'
        rw [gb_270_269, gb_270_270]
        refine P 0 ?_ fun I' J' hq' => ?_
        · rw [gj_15, if_neg (by omega)]; rfl
        · simp only [Option.toList_none, List.nil_append, gb_270_273]; exact hq'
      · rename_i hl
        have hl' : ¬ A + B ≤ 0 := fun e => hl ((lg_cmp_le _ _).mpr e)
        rw [y_le, yi_0] at hl'
        rw [gb_270_265, gb_270_270]
        refine P 1 ?_ fun I' J' hq' => ?_
        · rw [gj_15, if_pos (by omega)]; rfl
        · simp only [Option.toList_none, List.nil_append, gb_270_273]; exact hq'
    · obtain rfl : a1 = 10 := z_inj h1
      simp [gb_270_23, gb_270_244]
      have hm : A.toInt * B.toInt = a * b := by rw [ha, hb]
      have hmr : 0 ≤ a * b ∧ a * b ≤ 1 := by rcases va with rfl | rfl <;> rcases vb with rfl | rfl <;> decide
      refine P (A * B) ?_ fun I' J' hq' => ?_
      · rw [gj_16, y_mul (by omega) (by omega), hm]
      · simp only [Option.toList_none, List.nil_append, gb_270_252, gb_270_273]; exact hq'
  · have hw' : w = 17 ∨ w = 18 ∨ w = 43 ∨ w = 45 ∨ w = 42 ∨ w = 47 ∨ w = 60 ∨ w = 61 ∨ w = 62 := by
      rcases hw with hw | hw
      · have := of_decide_eq_true hw; omega
      · have := of_decide_eq_true hw; omega
    have ra : -1000000 ≤ a ∧ a ≤ 1000000 := va
    have rb : -1000000 ≤ b ∧ b ≤ 1000000 := vb
    rcases hw' with rfl | rfl | rfl | rfl | rfl | rfl | rfl | rfl | rfl
    · obtain rfl : a1 = 5 := z_inj h1
      simp [gb_270_23, gb_270_147]
      split
      · rename_i hl
        have hl' := (lg_cmp_ge _ _).mp hl
        rw [y_le] at hl'
        rw [gb_270_160, gb_270_161]
        refine P B ?_ fun I' J' hq' => ?_
        · rw [gj_17, hb]; omega
        · simp only [Option.toList_none, List.nil_append, gb_270_164, gb_270_273]; exact hq'
      · rename_i hl
        have hl' : ¬ B ≤ A := fun e => hl ((lg_cmp_ge _ _).mpr e)
        rw [y_le] at hl'
        rw [gb_270_155, gb_270_161]
        refine P A ?_ fun I' J' hq' => ?_
        · rw [gj_17, ha]; omega
        · simp only [Option.toList_none, List.nil_append, gb_270_164, gb_270_273]; exact hq'
    · obtain rfl : a1 = 6 := z_inj h1
      simp [gb_270_23, gb_270_167]
      split
      · rename_i hl
        have hl' := (lg_cmp_le _ _).mp hl
        rw [y_le] at hl'
        rw [gb_270_180, gb_270_181]
        refine P B ?_ fun I' J' hq' => ?_
        · rw [gj_18, hb]; omega
        · simp only [Option.toList_none, List.nil_append, gb_270_184, gb_270_273]; exact hq'
      · rename_i hl
        have hl' : ¬ A ≤ B := fun e => hl ((lg_cmp_le _ _).mpr e)
        rw [y_le] at hl'
        rw [gb_270_175, gb_270_181]
        refine P A ?_ fun I' J' hq' => ?_
        · rw [gj_18, ha]; omega
        · simp only [Option.toList_none, List.nil_append, gb_270_184, gb_270_273]; exact hq'
    · obtain rfl : a1 = 1 := z_inj h1
      simp [gb_270_23, gb_270_92]
      refine n_clip fun x hx => ?_
      simp only [Option.toList_some, List.singleton_append, gb_270_100]
      refine P x ?_ fun I' J' hq' => ?_
      · rw [hx, y_add (by omega) (by omega), ha, hb, gj_43]
      · simp only [Option.toList_none, List.nil_append, gb_270_103, gb_270_273]; exact hq'
    · obtain rfl : a1 = 2 := z_inj h1
      simp [gb_270_23, gb_270_106]
      refine n_clip fun x hx => ?_
      simp only [Option.toList_some, List.singleton_append, gb_270_114]
      refine P x ?_ fun I' J' hq' => ?_
      · rw [hx, y_sub (by omega) (by omega), ha, hb, gj_45]
      · simp only [Option.toList_none, List.nil_append, gb_270_117, gb_270_273]; exact hq'
    · obtain rfl : a1 = 3 := z_inj h1
      simp [gb_270_23, gb_270_120]
      have hm : A.toInt * B.toInt = a * b := by rw [ha, hb]
      have hmr : -1000000000000 ≤ a * b ∧ a * b ≤ 1000000000000 := by
        have p1 : 0 ≤ (1000000 - a) * (1000000 - b) := Int.mul_nonneg (by omega) (by omega)
        have p2 : 0 ≤ (1000000 + a) * (1000000 + b) := Int.mul_nonneg (by omega) (by omega)
        have p3 : 0 ≤ (1000000 - a) * (1000000 + b) := Int.mul_nonneg (by omega) (by omega)
        have p4 : 0 ≤ (1000000 + a) * (1000000 - b) := Int.mul_nonneg (by omega) (by omega)
        simp only [Int.sub_mul, Int.mul_sub, Int.add_mul, Int.mul_add] at p1 p2 p3 p4
        have c1 := Int.mul_comm a 1000000
        have c2 := Int.mul_comm b 1000000
        omega
      refine n_clip fun x hx => ?_
      simp only [Option.toList_some, List.singleton_append, gb_270_128]
      refine P x ?_ fun I' J' hq' => ?_
      · rw [hx, y_mul (by omega) (by omega), hm, gj_42]
      · simp only [Option.toList_none, List.nil_append, gb_270_131, gb_270_273]; exact hq'
    · obtain rfl : a1 = 4 := z_inj h1
      simp [gb_270_23, gb_270_134]
      refine n_floor ha hb ra rb fun x hx => ?_
      simp only [Option.toList_some, List.singleton_append, gb_270_141]
      refine P x ?_ fun I' J' hq' => ?_
      · rw [hx, gj_47]
      · simp only [Option.toList_none, List.nil_append, gb_270_144, gb_270_273]; exact hq'
    · obtain rfl : a1 = 7 := z_inj h1
      simp [gb_270_23, gb_270_187]
      split
      · rename_i hl
        have hl' := (lg_cmp_ge _ _).mp hl
        rw [y_le] at hl'
        rw [gb_270_199, gb_270_200]
        refine P 0 ?_ fun I' J' hq' => ?_
        · rw [gj_60, if_neg (by omega)]; rfl
        · simp only [Option.toList_none, List.nil_append, gb_270_203, gb_270_273]; exact hq'
      · rename_i hl
        have hl' : ¬ B ≤ A := fun e => hl ((lg_cmp_ge _ _).mpr e)
        rw [y_le] at hl'
        rw [gb_270_195, gb_270_200]
        refine P 1 ?_ fun I' J' hq' => ?_
        · rw [gj_60, if_pos (by omega)]; rfl
        · simp only [Option.toList_none, List.nil_append, gb_270_203, gb_270_273]; exact hq'
    · obtain rfl : a1 = 9 := z_inj h1
      simp [gb_270_23, gb_270_225]
      split
      · rename_i hl
        have hl' := (lg_cmp_eq _ _).mp hl
        rw [y_eq] at hl'
        rw [gb_270_233, gb_270_238]
        refine P 1 ?_ fun I' J' hq' => ?_
        · rw [gj_61, if_pos (by omega)]; rfl
        · simp only [Option.toList_none, List.nil_append, gb_270_241, gb_270_273]; exact hq'
      · rename_i hl
        have hl' : ¬ A = B := fun e => hl ((lg_cmp_eq _ _).mpr e)
        rw [y_eq] at hl'
        rw [gb_270_237, gb_270_238]
        refine P 0 ?_ fun I' J' hq' => ?_
        · rw [gj_61, if_neg (by omega)]; rfl
        · simp only [Option.toList_none, List.nil_append, gb_270_241, gb_270_273]; exact hq'
    · obtain rfl : a1 = 8 := z_inj h1
      simp [gb_270_23, gb_270_206]
      split
      · rename_i hl
        have hl' := (lg_cmp_le _ _).mp hl
        rw [y_le] at hl'
        rw [gb_270_218, gb_270_219]
        refine P 0 ?_ fun I' J' hq' => ?_
        · rw [gj_62, if_neg (by omega)]; rfl
        · simp only [Option.toList_none, List.nil_append, gb_270_222, gb_270_273]; exact hq'
      · rename_i hl
        have hl' : ¬ A ≤ B := fun e => hl ((lg_cmp_le _ _).mpr e)
        rw [y_le] at hl'
        rw [gb_270_214, gb_270_219]
        refine P 1 ?_ fun I' J' hq' => ?_
        · rw [gj_62, if_pos (by omega)]; rfl
        · simp only [Option.toList_none, List.nil_append, gb_270_222, gb_270_273]; exact hq'
