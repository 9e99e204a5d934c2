/-! The class's formulas. -/
theorem z_xor {a b : Int32} : 0 ≤ (a ^^^ b).toInt ↔ (a.toInt < 0 ↔ b.toInt < 0) := by
  have e : (a ^^^ b).toBitVec.msb = (a.toBitVec.msb ^^ b.toBitVec.msb) := by rw [Int32.toBitVec_xor, BitVec.msb_xor]
  rw [BitVec.msb_eq_toInt, BitVec.msb_eq_toInt, BitVec.msb_eq_toInt, Int32.toInt_toBitVec, Int32.toInt_toBitVec, Int32.toInt_toBitVec] at e
  by_cases h1 : a.toInt < 0 <;> by_cases h2 : b.toInt < 0 <;> simp [h1, h2] at e ⊢ <;> omega
theorem zfd_i {a b : Int32} (ha : -1000000 ≤ a.toInt ∧ a.toInt ≤ 1000000) (hb : -1000000 ≤ b.toInt ∧ b.toInt ≤ 1000000) (h0 : b.toInt ≠ 0) : (zfd a b).toInt = a.toInt.fdiv b.toInt := by
  have hm : a ≠ Int32.minValue := fun e => by
    rw [e] at ha
    exact absurd ha.1 (by decide)
  have e1 : (a / b).toInt = a.toInt.tdiv b.toInt := Int32.toInt_div_of_ne_left _ _ hm
  have hr : -1000000 ≤ a.toInt.tmod b.toInt ∧ a.toInt.tmod b.toInt ≤ 1000000 := by
    by_cases hp : 0 < b.toInt
    · have := Int.tmod_lt_of_pos a.toInt hp
      have := Int.lt_tmod_of_pos a.toInt hp
      omega
    · have hp' : 0 < -b.toInt := by omega
      have h1 := Int.tmod_lt_of_pos a.toInt hp'
      have h2 := Int.lt_tmod_of_pos a.toInt hp'
      rw [Int.tmod_neg] at h1 h2
      omega
  have e2 := Int.tdiv_mul_add_tmod a.toInt b.toInt
  have e3 : (a / b * b).toInt = a.toInt.tdiv b.toInt * b.toInt := by
    have : (a / b).toInt * b.toInt = a.toInt.tdiv b.toInt * b.toInt := by rw [e1]
    rw [z_mul (by omega) (by omega), e1]
  have e4 : (a / b * b = a) ↔ b.toInt ∣ a.toInt := by
    rw [z_eq, e3]
    exact ⟨fun h => ⟨a.toInt.tdiv b.toInt, by rw [Int.mul_comm]; exact h.symm⟩, fun h => Int.tdiv_mul_cancel h⟩
  have hf := gfdiv_r ha h0
  simp only [zfd, z_le, z_0, z_xor]
  rw [Int.fdiv_eq_tdiv]
  by_cases hd : b.toInt ∣ a.toInt
  · rw [if_pos hd, if_pos (e4.mpr hd)]
    split <;> omega
  · rw [if_neg hd, if_neg (fun e => hd (e4.mp e))]
    have hf2 := hf
    rw [Int.fdiv_eq_tdiv, if_neg hd] at hf2
    by_cases h1 : 0 ≤ a.toInt <;> by_cases h2 : 0 ≤ b.toInt
    · rw [if_pos h1, if_pos h2, if_pos (by omega), e1]; omega
    · rw [if_pos h1, if_neg h2, if_neg (by omega)]
      rw [if_pos h1, if_neg h2] at hf2
      rw [z_sub (by rw [e1]; have : (1 : Int32).toInt = 1 := rfl; omega) (by rw [e1]; have : (1 : Int32).toInt = 1 := rfl; omega), e1]; rfl
    · rw [if_neg h1, if_pos h2, if_neg (by omega), Int.sign_eq_one_of_pos (by omega)]
      rw [if_neg h1, if_pos h2, Int.sign_eq_one_of_pos (by omega)] at hf2
      rw [z_sub (by rw [e1]; have : (1 : Int32).toInt = 1 := rfl; omega) (by rw [e1]; have : (1 : Int32).toInt = 1 := rfl; omega), e1]; rfl
    · rw [if_neg h1, if_neg h2, if_pos (by omega), Int.sign_eq_neg_one_of_neg (by omega), e1]; omega
variable {d S : Nat} {h : Nat × Option gNm} {I : Nat → Nat → Nat → Int32} {J : Nat → Nat → Nat → Int64} {Q : Option gV → gW → Prop}
theorem m_limited {a0 : Int64} {x1 : Option gV} (k : ∀ x : Int32, x.toInt = gclip a0.toInt → Q (some (.inl x)) (gwd S I J h)) : (gq d 86 0 [some (.inr (.inl (a0))), x1] [] (gwd S I J h) Q) := by
  have e1 : (1000000 : Int64).toInt = 1000000 := rfl
  have e2 : (Int64.ofNat 18446744073708551616).toInt = -1000000 := rfl
  simp only [gb_86_0, gb_86_8, gb_86_13, gb_86_17, gb_86_21, gb_86_23, gb_86_26, gb_86_28, lg_cmp_le, lg_cmp_ge, y_le, e1, e2]
  split
  · split
    · exact k _ (by rw [y_32 (by omega) (by omega)]; unfold gclip; rw [if_neg (by omega), if_neg (by omega)])
    · exact k _ (by unfold gclip; rw [if_neg (by omega), if_pos (by omega)]; rfl)
  · exact k _ (by unfold gclip; rw [if_pos (by omega)]; rfl)
theorem m_joined {a0 a1 a2 : Int32} {w a b : Int} (h0 : a0.toInt = w) (h1 : a1.toInt = a) (h2 : a2.toInt = b) (ht : (gBop w = true ∧ eVal true a ∧ eVal true b) ∨ ((gNop w = true ∨ gCop w = true) ∧ eVal false a ∧ eVal false b)) (k : ∀ x : Int32, x.toInt = gjoin w a b → Q (some (.inl x)) (gwd S I J h)) : (gq (d + 1) 85 0 [some (.inl (a0)), some (.inl (a1)), some (.inl (a2))] [] (gwd S I J h) Q) := by
  rcases ht with ⟨hw, ha, hb⟩ | ⟨hw, ha, hb⟩
  · have hw' : w = 15 ∨ w = 16 := of_decide_eq_true hw
    simp only [eVal, if_true] at ha hb
    have ea : a1 = 0 ∨ a1 = 1 := ha.elim (fun e => Or.inl (z_inj (by rw [h1, e]; rfl))) (fun e => Or.inr (z_inj (by rw [h1, e]; rfl)))
    have eb : a2 = 0 ∨ a2 = 1 := hb.elim (fun e => Or.inl (z_inj (by rw [h2, e]; rfl))) (fun e => Or.inr (z_inj (by rw [h2, e]; rfl)))
    subst h1 h2
    rcases hw' with rfl | rfl
    · obtain rfl : a0 = 15 := z_inj h0
      simp only [gb_85_0, gb_85_100, if_true]
      exact k _ (by rw [gj_15]; rcases ea with rfl | rfl <;> rcases eb with rfl | rfl <;> decide)
    · obtain rfl : a0 = 16 := z_inj h0
      simp only [gb_85_0, gb_85_104, if_true]
      rw [if_neg (by decide)]
      exact k _ (by rw [gj_16]; rcases ea with rfl | rfl <;> rcases eb with rfl | rfl <;> decide)
  · have hw' : w = 17 ∨ w = 18 ∨ w = 43 ∨ w = 45 ∨ w = 42 ∨ w = 47 ∨ w = 60 ∨ w = 61 ∨ w = 62 := by
      rcases hw with hw | hw
      · have := of_decide_eq_true hw; omega
      · have := of_decide_eq_true hw; omega
    have ha' : -1000000 ≤ a ∧ a ≤ 1000000 := ha
    have hb' : -1000000 ≤ b ∧ b ≤ 1000000 := hb
    rcases hw' with rfl | rfl | rfl | rfl | rfl | rfl | rfl | rfl | rfl
    · obtain rfl : a0 = 17 := z_inj h0
      simp [gb_85_0, gb_85_108, gb_85_113, m_min]
      exact k _ (by rw [zmin_i, h1, h2, gj_17])
    · obtain rfl : a0 = 18 := z_inj h0
      simp [gb_85_0, gb_85_114, gb_85_119, m_max]
      exact k _ (by rw [zmax_i, h1, h2, gj_18])
    · obtain rfl : a0 = 43 := z_inj h0
      simp [gb_85_0, gb_85_153]
      refine m_limited fun x hx => ?_
      simp [gb_85_161]
      exact k _ (by rw [hx, y_add (by rw [z_64, z_64]; omega) (by rw [z_64, z_64]; omega), z_64, z_64, h1, h2, gj_43])
    · obtain rfl : a0 = 45 := z_inj h0
      simp [gb_85_0, gb_85_162]
      refine m_limited fun x hx => ?_
      simp [gb_85_170]
      exact k _ (by rw [hx, y_sub (by rw [z_64, z_64]; omega) (by rw [z_64, z_64]; omega), z_64, z_64, h1, h2, gj_45])
    · obtain rfl : a0 = 42 := z_inj h0
      simp [gb_85_0, gb_85_171]
      refine m_limited fun x hx => ?_
      simp [gb_85_179]
      have hm : -1000000000000 ≤ a * b ∧ a * b ≤ 1000000000000 := by
        have p1 : 0 ≤ (1000000 - a) * (1000000 - b) := Int.mul_nonneg (by omega) (by omega)
        have p2 : 0 ≤ (1000000 + a) * (1000000 + b) := Int.mul_nonneg (by omega) (by omega)
        have p3 : 0 ≤ (1000000 - a) * (1000000 + b) := Int.mul_nonneg (by omega) (by omega)
        have p4 : 0 ≤ (1000000 + a) * (1000000 - b) := Int.mul_nonneg (by omega) (by omega)
        simp only [Int.sub_mul, Int.mul_sub, Int.add_mul, Int.mul_add] at p1 p2 p3 p4
        have c1 := Int.mul_comm a 1000000
        have c2 := Int.mul_comm b 1000000
        omega
      exact k _ (by rw [hx, y_mul (by rw [z_64, z_64, h1, h2]; omega) (by rw [z_64, z_64, h1, h2]; omega), z_64, z_64, h1, h2, gj_42])
    · obtain rfl : a0 = 47 := z_inj h0
      simp [gb_85_0, gb_85_180]
      by_cases hz : b = 0
      · rw [if_pos (z_inj (by rw [h2, hz]; rfl))]
        simp [gb_85_184, gb_85_193]
        exact k _ (by rw [gj_47, if_pos hz]; rfl)
      · have hz' : ¬ a2 = 0 := fun e => hz (by rw [← h2, e]; rfl)
        rw [if_neg hz']
        simp [gb_85_188, gb_85_193, m_fdiv, hz']
        exact k _ (by rw [gj_47, if_neg hz, ← h1, ← h2]; exact zfd_i (by omega) (by omega) (by omega))
    · obtain rfl : a0 = 60 := z_inj h0
      simp [gb_85_0, gb_85_120, gb_85_125, gb_85_129, gb_85_130, z_le]
      split
      · exact k _ (by rw [gj_60, if_neg (by omega)]; rfl)
      · exact k _ (by rw [gj_60, if_pos (by omega)]; rfl)
    · obtain rfl : a0 = 61 := z_inj h0
      simp [gb_85_0, gb_85_142, gb_85_147, gb_85_151, gb_85_152, z_eq]
      split
      · exact k _ (by rw [gj_61, if_pos (by omega)]; rfl)
      · exact k _ (by rw [gj_61, if_neg (by omega)]; rfl)
    · obtain rfl : a0 = 62 := z_inj h0
      simp [gb_85_0, gb_85_131, gb_85_136, gb_85_140, gb_85_141, z_le]
      split
      · exact k _ (by rw [gj_62, if_neg (by omega)]; rfl)
      · exact k _ (by rw [gj_62, if_pos (by omega)]; rfl)
theorem m_push {i1 : Nat} {a1 : Int32} (h0 : 0 ≤ (I 14 i1 5).toInt) (h1 : (I 14 i1 5).toInt < 64) : (gq d 83 0 [some (.inr (.inr (some (14, i1)))), some (.inl (a1))] [] (gwd S I J h) Q) ↔ Q none (gwd S (gup (gup I 16 i1 (I 14 i1 5).toInt.toNat a1) 14 i1 5 (I 14 i1 5 + 1)) J h) := by
  have e : (Int32.ofNat 64).toInt = 64 := rfl
  simp only [gb_83_0, gb_83_7, gb_83_19, gb_83_29, gb_83_39, z_lt, z_le, z_0, e, g_in, z_n]
  rw [if_neg (by omega), if_neg (by omega)]
  simp only [u_k (show (14 : Nat) ≠ 16 by decide)]
  exact ⟨fun h => h.2, fun h => ⟨⟨h0, by omega⟩, h⟩⟩
theorem m_pop {i1 : Nat} (h0 : 0 < (I 14 i1 5).toInt) (h1 : (I 14 i1 5).toInt ≤ 64) : (gq d 84 0 [some (.inr (.inr (some (14, i1))))] [] (gwd S I J h) Q) ↔ Q (some (.inl (I 16 i1 ((I 14 i1 5).toInt - 1).toNat))) (gwd S (gup I 14 i1 5 (I 14 i1 5 - 1)) J h) := by
  have e : (Int32.ofNat 64).toInt = 64 := rfl
  have e1 : (1 : Int32).toInt = 1 := rfl
  simp only [gb_84_0, gb_84_7, gb_84_19, gb_84_21, gb_84_40, z_lt, z_le, z_0, e, g_in, z_n, u_eq]
  rw [if_neg (by omega), if_pos (by omega)]
  rw [z_sub (by omega) (by omega), e1]
  exact ⟨fun h => h.2, fun h => ⟨⟨by omega, by omega⟩, h⟩⟩
theorem gHp_push {H H' : Nat → Int32} {v : Int} {s : List Int} (h : gHp H s) (e : ∀ k, k < s.length → H' k = H k) (hv : (H' s.length).toInt = v) : gHp H' (v :: s) := ⟨hv, gHp_congr e h⟩
theorem m_work_step {al : Nat → Bool} {V : Nat → Int} {c : Int} {T T' : List Bool} {s : List Int} {a b : Nat} {i1 i2 : Nat} {x2 x3 : Option gV}
    (ht : gTy1 al c T = some T') (hq : gAsks c = false) (hs : eVs T s) (hT : T.length ≤ 60)
    (hV : ∀ w, w < 11 → al w = true → (I 18 i2 w).toInt = V w)
    (ha : (I 14 i1 3).toInt = a) (hb : (I 14 i1 4).toInt = b) (hab : a < b) (hb2 : b ≤ 1600) (hask : (I 14 i1 6).toInt = -1) (htop : (I 14 i1 5).toInt = s.length) (hh : gHp (I 16 i1) s) (hc : (I 15 i1 a).toInt = c)
    (k : ∀ (I' : Nat → Nat → Nat → Int32) x2 x3, (∀ k i j, ¬ ((k = 14 ∧ i = i1 ∧ (j = 3 ∨ j = 5)) ∨ (k = 16 ∧ i = i1)) → I' k i j = I k i j) → (I' 14 i1 3).toInt = (a : Int) + 1 → (I' 14 i1 5).toInt = (gStep V c s).length → gHp (I' 16 i1) (gStep V c s) → (gq (d + 2) 82 5 [some (.inr (.inr (some (14, i1)))), some (.inr (.inr (some (18, i2)))), x2, x3] [] (gwd S I' J h) Q)) : (gq (d + 2) 82 5 [some (.inr (.inr (some (14, i1)))), some (.inr (.inr (some (18, i2)))), x2, x3] [] (gwd S I J h) Q) := by
  have hl := eVs_len hs
  have e1 : (1 : Int32).toInt = 1 := rfl
  have eW : (Int32.ofInt (-1) - I 15 i1 a).toInt = -1 - c := by
    have := z_lo (I 15 i1 a)
    have := z_hi (I 15 i1 a)
    rw [z_sub (by rw [z_m1]; omega) (by rw [z_m1]; omega), z_m1, hc]
  have ean : (I 14 i1 3).toInt.toNat = a := by omega
  have r1 := z_lo (I 15 i1 a)
  have r2 := z_hi (I 15 i1 a)
  have eask : I 14 i1 6 = Int32.ofInt (-1) := z_inj (by rw [hask, z_m1])
  have ea1 : (I 14 i1 3 + 1).toInt = a + 1 := by rw [z_add (by omega) (by omega), ha, e1]
  rw [gb_82_5, if_neg (by rw [z_le]; omega), gb_82_16, gb_82_21, if_pos eask, gb_82_24, gb_82_25]
  refine ⟨g_in.mpr (by omega), ?_⟩
  rw [z_n, ean, gb_82_34]
  generalize hWd : Int32.ofInt (-1) - I 15 i1 a = W at *
  unfold gTy1 at ht
  unfold gStep at k
  by_cases h0 : 0 ≤ c
  · rw [if_neg (by rw [z_le, z_0]; omega), gb_82_50, gb_82_52, m_push (by rw [u_j (by decide)]; omega) (by rw [u_j (by decide)]; omega), Option.toList_none, List.nil_append, gb_82_57, gb_82_157]
    rw [if_pos h0] at k
    have e2 : (gup I 14 i1 3 (I 14 i1 3 + 1) 14 i1 5) = I 14 i1 5 := u_j (by decide)
    rw [e2, htop]
    have e3 : (Int32.ofInt (-1) - W).toInt = c := by rw [z_sub (by rw [z_m1]; omega) (by rw [z_m1]; omega), z_m1, eW]; omega
    refine k _ _ _ (fun k i j hn => ?_) ?_ ?_ ?_
    · repeat rw [u_ne (by omega)]
    · simp [gup, ea1]
    · simp only [u_eq]; rw [z_add (by omega) (by omega), htop, List.length_cons]; simp [e1]
    · exact gHp_push hh (fun k hk => by repeat rw [u_ne (by omega)]) (by rw [u_k (by decide), Int.toNat_natCast, u_eq]; exact e3)
  · rw [if_pos (by rw [z_le, z_0]; omega), gb_82_60]
    rw [if_neg h0] at ht k
    by_cases h1 : -1 - c < 11
    · have e11 : (11 : Int32).toInt = 11 := rfl
      have e11' : (Int32.ofNat 11).toInt = 11 := rfl
      rw [if_neg (by rw [z_le]; omega), gb_82_66, if_neg (by rw [z_le]; omega), gb_82_73]
      refine ⟨g_in.mpr (by omega), ?_⟩
      have e2 : (gup I 14 i1 3 (I 14 i1 3 + 1) 14 i1 5) = I 14 i1 5 := u_j (by decide)
      rw [gb_82_76, gb_82_80, m_push (by rw [e2]; omega) (by rw [e2]; omega), Option.toList_none, List.nil_append, gb_82_83, gb_82_157]
      rw [if_pos h1] at ht k
      rw [e2, htop]
      split at ht
      · rename_i hal
        have e3 : (I 18 i2 W.toInt.toNat).toInt = V (-1 - c).toNat := by rw [eW]; exact hV _ (by omega) hal
        refine k _ _ _ (fun k i j hn => ?_) ?_ ?_ ?_
        · repeat rw [u_ne (by omega)]
        · simp [gup, ea1]
        · simp only [u_eq]; rw [z_add (by omega) (by omega), htop, List.length_cons]; simp [e1]
        · exact gHp_push hh (fun k hk => by repeat rw [u_ne (by omega)]) (by rw [u_k (by decide), Int.toNat_natCast, u_eq, u_k (by decide)]; exact e3)
      · cases ht
    · have e11 : (11 : Int32).toInt = 11 := rfl
      have e12 : (12 : Int32).toInt = 12 := rfl
      have e13 : (13 : Int32).toInt = 13 := rfl
      have e14 : (14 : Int32).toInt = 14 := rfl
      have hnq : ¬ (c = -12 ∨ c = -13) := of_decide_eq_false hq
      rw [if_pos (by rw [z_le]; omega), gb_82_86, if_neg (by rw [z_eq]; omega), gb_82_92, if_neg (by rw [z_eq]; omega), gb_82_106]
      rw [if_neg h1] at ht k
      rw [if_neg (by rw [hq]; exact Bool.false_ne_true)] at ht
      have e2 : (gup I 14 i1 3 (I 14 i1 3 + 1) 14 i1 5) = I 14 i1 5 := u_j (by decide)
      by_cases h2 : c = -15
      · rw [if_pos (by rw [z_eq]; omega), gb_82_112, m_push (by rw [e2]; omega) (by rw [e2]; omega), Option.toList_none, List.nil_append, gb_82_117, gb_82_157]
        rw [if_pos h2] at k
        rw [e2, htop]
        refine k _ _ _ (fun k i j hn => ?_) ?_ ?_ ?_
        · repeat rw [u_ne (by omega)]
        · simp [gup, ea1]
        · simp only [u_eq]; rw [z_add (by omega) (by omega), htop, List.length_cons]; simp [e1]
        · exact gHp_push hh (fun k hk => by repeat rw [u_ne (by omega)]) (by simp [gup])
      · rw [if_neg (by rw [z_eq]; omega), gb_82_120]
        rw [if_neg h2] at ht k
        by_cases h3 : c = -14
        · rw [if_pos h3] at ht k
          obtain ⟨T0, rfl, rfl⟩ := gT1_inv ht
          obtain ⟨v, s', rfl, hv, hs'⟩ := eVs_cons hs
          have hv' : v = 0 ∨ v = 1 := hv
          simp only [List.length_cons] at htop hl hT
          have hp := hh.1
          rw [if_pos (by rw [z_eq]; omega), gb_82_126, m_pop (by rw [e2]; omega) (by rw [e2]; omega), Option.toList_some, List.singleton_append, gb_82_132]
          rw [e2, u_k (by decide), htop, show ((s'.length + 1 : Nat) : Int) - 1 = (s'.length : Int) by omega, Int.toNat_natCast]
          have e5 : (I 14 i1 5 - 1).toInt = s'.length := by rw [z_sub (by omega) (by omega), htop, e1]; omega
          have e6 : (1 - I 16 i1 s'.length).toInt = 1 - v := by rw [z_sub (by omega) (by omega), hp, e1]
          rw [m_push (by rw [u_eq, e5]; omega) (by rw [u_eq, e5]; omega), Option.toList_none, List.nil_append, gb_82_136, gb_82_157]
          rw [u_eq, e5, Int.toNat_natCast]
          refine k _ _ _ (fun k i j hn => ?_) ?_ ?_ ?_
          · repeat rw [u_ne (by omega)]
          · simp [gup, ea1]
          · simp only [u_eq, gPop1]; rw [z_add (by omega) (by omega), e5, List.length_cons]; simp [e1]
          · exact gHp_push (v := 1 - v) hh.2 (fun k hk => by repeat rw [u_ne (by omega)]) (by rw [u_k (by decide), u_eq]; exact e6)
        · rw [if_neg (by rw [z_eq]; omega), gb_82_139]
          rw [if_neg h3] at ht k
          have hj : ∃ x y T0, T = x :: x :: T0 ∧ T' = y :: T0 ∧ ((gBop (-1 - c) = true ∧ x = true) ∨ ((gNop (-1 - c) = true ∨ gCop (-1 - c) = true) ∧ x = false)) := by
            split at ht
            · obtain ⟨T0, h5, h6⟩ := gT2_inv ht; exact ⟨true, true, T0, h5, h6, Or.inl ⟨‹_›, rfl⟩⟩
            · split at ht
              · obtain ⟨T0, h5, h6⟩ := gT2_inv ht; exact ⟨false, false, T0, h5, h6, Or.inr ⟨Or.inl ‹_›, rfl⟩⟩
              · split at ht
                · obtain ⟨T0, h5, h6⟩ := gT2_inv ht; exact ⟨false, true, T0, h5, h6, Or.inr ⟨Or.inr ‹_›, rfl⟩⟩
                · cases ht
          obtain ⟨x, y, T0, rfl, rfl, hx⟩ := hj
          obtain ⟨v, s', rfl, hv, hs'⟩ := eVs_cons hs
          obtain ⟨u, s2, rfl, hu, hs2⟩ := eVs_cons hs'
          simp only [List.length_cons] at htop hl hT
          have hp := hh.1
          have hp2 := hh.2.1
          simp only [List.length_cons] at hp
          have e5 : (I 14 i1 5 - 1).toInt = s2.length + 1 := by rw [z_sub (by omega) (by omega), htop, e1]; omega
          have e6 : (I 14 i1 5 - 1 - 1).toInt = s2.length := by rw [z_sub (by omega) (by omega), e5, e1]; omega
          rw [m_pop (by rw [e2]; omega) (by rw [e2]; omega), Option.toList_some, List.singleton_append, gb_82_143]
          rw [e2, u_k (by decide), htop, show ((s2.length + 1 + 1 : Nat) : Int) - 1 = ((s2.length + 1 : Nat) : Int) by omega, Int.toNat_natCast]
          rw [m_pop (by rw [u_eq]; omega) (by rw [u_eq]; omega), Option.toList_some, List.singleton_append, gb_82_150]
          rw [u_eq, u_k (by decide), u_k (by decide), e5, show ((s2.length : Int) + 1) - 1 = (s2.length : Int) by omega, Int.toNat_natCast]
          refine m_joined (w := -1 - c) eW hp2 hp ?_ fun z hz => ?_
          · rcases hx with ⟨h5, rfl⟩ | ⟨h5, rfl⟩
            · exact Or.inl ⟨h5, hu, hv⟩
            · exact Or.inr ⟨h5, hu, hv⟩
          rw [Option.toList_some, List.singleton_append, gb_82_154, m_push (by rw [u_eq, e6]; omega) (by rw [u_eq, e6]; omega), Option.toList_none, List.nil_append, gb_82_157]
          rw [u_eq, e6, Int.toNat_natCast]
          refine k _ _ _ (fun k i j hn => ?_) ?_ ?_ ?_
          · repeat rw [u_ne (by omega)]
          · simp [gup, ea1]
          · simp only [u_eq, gPop2]; rw [z_add (by omega) (by omega), e6, List.length_cons]; simp [e1]
          · exact gHp_push hh.2.2 (fun k hk => by repeat rw [u_ne (by omega)]) (by rw [u_k (by decide), u_eq]; exact hz)
theorem m_work_loop {al : Nat → Bool} {V : Nat → Int} {i1 i2 b : Nat} (hb2 : b ≤ 1600) (hVr : ∀ w, w < 11 → al w = true → -1000000 ≤ V w ∧ V w ≤ 1000000) :
    ∀ (l : List Int) (s : List Int) (T T' : List Bool) (a : Nat) (I : Nat → Nat → Nat → Int32) (x2 x3 : Option gV),
    gTy al l T = some T' → eVs T s → T.length ≤ 60 → (∀ w, w < 11 → al w = true → (I 18 i2 w).toInt = V w) → (I 14 i1 3).toInt = a → (I 14 i1 4).toInt = b → a + l.length = b → (I 14 i1 6).toInt = -1 → (I 14 i1 5).toInt = s.length → gHp (I 16 i1) s → gCd (I 15 i1) id a l →
    (∀ (I' : Nat → Nat → Nat → Int32) x2 x3, (∀ k i j, ¬ ((k = 14 ∧ i = i1 ∧ (j = 3 ∨ j = 5 ∨ j = 6)) ∨ (k = 16 ∧ i = i1)) → I' k i j = I k i j) → (I' 14 i1 3).toInt + (gRun1 V l s).1.length = b → (I' 14 i1 6).toInt = (gRun1 V l s).2.1 → (I' 14 i1 5).toInt = (gRun1 V l s).2.2.length → gHp (I' 16 i1) (gRun1 V l s).2.2 → (gq (d + 2) 82 160 [some (.inr (.inr (some (14, i1)))), some (.inr (.inr (some (18, i2)))), x2, x3] [] (gwd S I' J h) Q)) → (gq (d + 2) 82 5 [some (.inr (.inr (some (14, i1)))), some (.inr (.inr (some (18, i2)))), x2, x3] [] (gwd S I J h) Q)
  | [], s, T, T', a, I, x2, x3, _, _, _, _, ha, hb, hab, hask, htop, hh, _, k => by
    rw [gb_82_5, if_pos (by rw [z_le]; simp at hab; omega)]
    exact k I x2 x3 (fun _ _ _ _ => rfl) (by simp [gRun1] at hab ⊢; omega) hask htop hh
  | c :: cs, s, T, T', a, I, x2, x3, ht, hs, hT, hV, ha, hb, hab, hask, htop, hh, hc, k => by
    simp only [List.length_cons] at hab
    unfold gTy at ht
    split at ht
    · rename_i T1 h1
      split at ht
      · rename_i hT1
        unfold gRun1 at k
        by_cases hq : gAsks c = true
        · have hq' : c = -12 ∨ c = -13 := of_decide_eq_true hq
          simp only [if_pos hq] at k
          have e1 : (1 : Int32).toInt = 1 := rfl
          have eW : (Int32.ofInt (-1) - I 15 i1 a).toInt = -1 - c := by
            have := hc.1
            have h6 : id c = c := rfl
            rw [z_sub (by rw [z_m1]; omega) (by rw [z_m1]; omega), z_m1, hc.1]; rfl
          have ean : (I 14 i1 3).toInt.toNat = a := by omega
          have eask : I 14 i1 6 = Int32.ofInt (-1) := z_inj (by rw [hask, z_m1])
          have ea1 : (I 14 i1 3 + 1).toInt = a + 1 := by rw [z_add (by omega) (by omega), ha, e1]
          rw [gb_82_5, if_neg (by rw [z_le]; omega), gb_82_16, gb_82_21, if_pos eask, gb_82_24, gb_82_25]
          refine ⟨g_in.mpr (by omega), ?_⟩
          rw [z_n, ean, gb_82_34]
          generalize hWd : Int32.ofInt (-1) - I 15 i1 a = W at *
          have e11 : (11 : Int32).toInt = 11 := rfl
          have e12 : (12 : Int32).toInt = 12 := rfl
          have ek : ∀ I1 : Nat → Nat → Nat → Int32, I1 = gup (gup I 14 i1 3 (I 14 i1 3 + 1)) 14 i1 6 W → (gq (d + 2) 82 157 [some (.inr (.inr (some (14, i1)))), some (.inr (.inr (some (18, i2)))), some (.inl (W)), x3] [] (gwd S I1 J h) Q) := fun I1 hI1 => by
            rw [gb_82_157, gb_82_5]
            have e3 : I1 14 i1 6 = W := by rw [hI1, u_eq]
            have e4 : I1 14 i1 3 = I 14 i1 3 + 1 := by rw [hI1, u_j (by decide), u_eq]
            have e5 : I1 14 i1 4 = I 14 i1 4 := by rw [hI1, u_j (by decide), u_j (by decide)]
            have e6 : I1 14 i1 5 = I 14 i1 5 := by rw [hI1, u_j (by decide), u_j (by decide)]
            have e7 : I1 16 i1 = I 16 i1 := by funext z; rw [hI1, u_k (by decide), u_k (by decide)]
            have kk : ∀ x2 x3, (gq (d + 2) 82 160 [some (.inr (.inr (some (14, i1)))), some (.inr (.inr (some (18, i2)))), x2, x3] [] (gwd S I1 J h) Q) := fun x2 x3 => k I1 x2 x3 (fun k i j hn => by rw [hI1]; repeat rw [u_ne (by omega)]) (by rw [e4, ea1]; omega) (by rw [e3, eW]) (by rw [e6]; exact htop) (by rw [e7]; exact hh)
            by_cases hz : I1 14 i1 4 ≤ I1 14 i1 3
            · rw [if_pos hz]; exact kk _ _
            · rw [if_neg hz, gb_82_16, gb_82_21, if_neg (by rw [e3, z_eq, z_m1]; omega)]; exact kk _ _
          rw [if_pos (by rw [z_le, z_0]; omega), gb_82_60, if_pos (by rw [z_le]; omega), gb_82_86]
          by_cases h12 : W = 11
          · rw [if_pos h12, gb_82_98]; exact ek _ rfl
          · rw [if_neg h12, gb_82_92, if_pos (by rw [z_eq] at h12 ⊢; omega), gb_82_98]; exact ek _ rfl
        · have hq' : gAsks c = false := Bool.eq_false_iff.mpr hq
          simp only [if_neg hq] at k
          refine m_work_step h1 hq' hs hT hV ha hb (by omega) hb2 hask htop hh hc.1 fun I1 y2 y3 hF h3 h5 hH => ?_
          refine m_work_loop hb2 hVr cs (gStep V c s) T1 T' (a + 1) I1 y2 y3 ht (gStep_ok h1 hq' hVr hs) hT1 (fun w hw h2 => by rw [hF _ _ _ (by omega)]; exact hV w hw h2) (by rw [h3]; rfl) (by rw [hF _ _ _ (by omega)]; exact hb) (by omega) (by rw [hF _ _ _ (by omega)]; exact hask) h5 hH (gCd_congr (fun z _ _ => hF _ _ _ (by omega)) hc.2) fun I2 z2 z3 hF2 g1 g2 g3 g4 => k I2 z2 z3 (fun k i j hn => by rw [hF2 _ _ _ (by omega), hF _ _ _ (by omega)]) g1 g2 g3 g4
      · cases ht
    · cases ht
