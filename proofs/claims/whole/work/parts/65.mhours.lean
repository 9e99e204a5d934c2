/-! The model: set aside, hours, the seed, hours by the seed. Draws of both. -/
variable {d S : Nat} {h : Nat × Option gNm} {I : Nat → Nat → Nat → Int32} {J : Nat → Nat → Nat → Int64} {Q : Option gV → gW → Prop}
theorem y_div {a b : Int64} (ha : 0 ≤ a.toInt) (hb : 0 < b.toInt) : (a / b).toInt = a.toInt / b.toInt := by
  have h1 : b ≠ -1 := fun e => by rw [e] at hb; exact absurd hb (by decide)
  rw [Int64.toInt_div_of_ne_right _ _ h1, Int.tdiv_eq_ediv_of_nonneg ha]
theorem y_rem {a b : Int64} (ha : 0 ≤ a.toInt) (hb : 0 < b.toInt) : (a - a / b * b).toInt = a.toInt % b.toInt := by
  have h2 := y_div ha hb
  have h3 := Int.mul_ediv_add_emod a.toInt b.toInt
  have h4 := Int.emod_nonneg a.toInt (Int.ne_of_gt hb)
  have h5 := y_hi a
  have h8 : a.toInt / b.toInt * b.toInt = b.toInt * (a.toInt / b.toInt) := Int.mul_comm _ _
  have h7 : 0 ≤ b.toInt * (a.toInt / b.toInt) := Int.mul_nonneg (by omega) (Int.ediv_nonneg ha (by omega))
  have h6 : (a / b * b).toInt = a.toInt / b.toInt * b.toInt := by
    have e : (a / b).toInt * b.toInt = b.toInt * (a.toInt / b.toInt) := by rw [h2, Int.mul_comm]
    rw [y_mul (by omega) (by omega), h2]
  rw [y_sub (by omega) (by omega), h6]
  omega
theorem y_mask {x : Int64} (h0 : 0 ≤ x.toInt) : (x &&& 2147483647).toInt = x.toInt % 2147483648 := by
  have hx := y_hi x
  have e1 : x = Int64.ofNat x.toInt.toNat := y_inj (by
    rw [Int64.toInt_ofNat', Int.toNat_of_nonneg h0]; exact (y_bm (by omega) (by omega)).symm)
  have e2 : Int64.ofNat x.toInt.toNat &&& Int64.ofNat (2 ^ 31 - 1) = Int64.ofNat (x.toInt.toNat &&& (2 ^ 31 - 1)) := by
    apply Int64.toBitVec_inj.1
    show BitVec.ofNat 64 x.toInt.toNat &&& BitVec.ofNat 64 (2 ^ 31 - 1) = BitVec.ofNat 64 (x.toInt.toNat &&& (2 ^ 31 - 1))
    apply BitVec.eq_of_getLsbD_eq
    intro i hi
    simp only [BitVec.getLsbD_and, BitVec.getLsbD_ofNat, hi, decide_true, Bool.true_and, Nat.testBit_and]
  have e3 : (x &&& 2147483647) = Int64.ofNat (x.toInt.toNat % 2 ^ 31) := by
    rw [← Nat.and_two_pow_sub_one_eq_mod, ← e2, ← e1]; rfl
  rw [e3, Int64.toInt_ofNat', y_bm (by omega) (by omega)]
  omega
theorem y_draw {x : Int64} {dr : Int} (hx : x.toInt = dr) (h0 : 0 ≤ dr) (h1 : dr < 2147483648) : (1103515245 * x + 12345).toInt = 1103515245 * dr + 12345 := by
  have e1 : (1103515245 : Int64).toInt = 1103515245 := rfl
  have e2 : (12345 : Int64).toInt = 12345 := rfl
  have e3 : (1103515245 * x).toInt = 1103515245 * dr := by rw [y_mul (by rw [e1, hx]; omega) (by rw [e1, hx]; omega), e1, hx]
  rw [y_add (by omega) (by omega), e3, e2]
/-- a seed's row as it is behind a draw -/
theorem n_draw {a1 : Int32} {dr m : Int} (hj : (J 50 0 72).toInt = dr) (h0 : 0 ≤ dr) (h1 : dr < 2147483648) (ha : a1.toInt = m) (hm : 0 < m ∧ m ≤ 1000) (K : ∀ (J' : Nat → Nat → Nat → Int64) x, (∀ k i j, ¬ (k = 50 ∧ i = 0 ∧ j = 72) → J' k i j = J k i j) → (J' 50 0 72).toInt = gDr dr → x.toInt = gDv dr m → Q (some (.inl x)) (gwd S I J' h)) : (gq d 246 0 [some (.inr (.inr (some (50, 0)))), some (.inl (a1))] [] (gwd S I J h) Q) := by
  have e0 : (2147483648 : Int64).toInt = 2147483648 := rfl
  have e64 : (64 : Int64).toInt = 64 := rfl
  have hd := gDr_r dr
  have hv := gDv_r dr hm.1
  have q := y_draw hj h0 h1
  rw [gb_246_0, gb_246_16]
  generalize hX : 1103515245 * J 50 0 72 + 12345 = X at q
  have r1 : (X - X / 2147483648 * 2147483648).toInt = gDr dr := by rw [y_rem (by omega) (by omega), q, e0]; rfl
  generalize hY : X - X / 2147483648 * 2147483648 = Y at r1
  have r2 : (Y / 64).toInt = gDr dr / 64 := by rw [y_div (by omega) (by omega), r1, e64]
  have ha64 : (a1.toInt64).toInt = m := by rw [z_64, ha]
  have r3 : (Y / 64 - Y / 64 / a1.toInt64 * a1.toInt64).toInt = gDv dr m := by rw [y_rem (by omega) (by omega), r2, ha64]; rfl
  refine ⟨by decide, fun e => by rw [e, yi_0] at ha64; omega, ?_⟩
  exact K _ _ (fun k i j hn => u_ne hn) (by rw [u_eq]; exact r1) (by rw [y_32 (by omega) (by omega)]; exact r3)
theorem m_drawOf {a1 : Int32} {dr m : Int} (hj : (J 10 0 11).toInt = dr) (h0 : 0 ≤ dr) (h1 : dr < 2147483648) (ha : a1.toInt = m) (hm : 0 < m ∧ m ≤ 1000) (K : ∀ (J' : Nat → Nat → Nat → Int64) x, (∀ k i j, ¬ (k = 10 ∧ i = 0 ∧ j = 11) → J' k i j = J k i j) → (J' 10 0 11).toInt = gDr dr → x.toInt = gDv dr m → Q (some (.inl x)) (gwd S I J' h)) : (gq d 155 0 [some (.inr (.inr (some (10, 0)))), some (.inl (a1))] [] (gwd S I J h) Q) := by
  have e64 : (64 : Int64).toInt = 64 := rfl
  have hd := gDr_r dr
  have hv := gDv_r dr hm.1
  have q := y_draw hj h0 h1
  rw [gb_155_0, if_neg (by rw [z_le, z_0]; omega), gb_155_24]
  generalize hX : 1103515245 * J 10 0 11 + 12345 = X at q
  have r1 : (X &&& 2147483647).toInt = gDr dr := by rw [y_mask (by omega), q]; rfl
  generalize hY : X &&& 2147483647 = Y at r1
  rw [u_eq]
  have r2 : (Y / 64).toInt = gDr dr / 64 := by rw [y_div (by omega) (by omega), r1, e64]
  have ha64 : (a1.toInt64).toInt = m := by rw [z_64, ha]
  have r3 : (Y / 64 - Y / 64 / a1.toInt64 * a1.toInt64).toInt = gDv dr m := by rw [y_rem (by omega) (by omega), r2, ha64]; rfl
  refine ⟨fun e => by rw [e, yi_0] at ha64; omega, ?_⟩
  rw [gb_155_40]
  exact K _ _ (fun k i j hn => u_ne hn) (by rw [u_eq]; exact r1) (by rw [y_32 (by omega) (by omega)]; exact r3)
theorem mS_up4 {C : gCo} {t : gSt} {x : Int32} {b : Nat} {v : Int} (hc : cOk C) (hb : (b : Int) < C.1 2) (hS : mS I C t) (hx : x.toInt = gBi v b) (ho : ∀ u, u ≠ b → gBi v u = gBi (t 4) u) : mS (gup I 61 0 (5 + 2 * b) x) C (sUp t 4 v) := by
  have rB := hc.2.2.1
  obtain ⟨⟨s0, s1, s2, s3⟩, p2, p3⟩ := hS
  refine ⟨⟨?_, ?_, ?_, ?_⟩, fun u hu => ⟨?_, ?_⟩, fun u hu => ?_⟩
  · rw [u_j (by omega), sUp_ne (by decide)]; exact s0
  · rw [u_j (by omega), sUp_ne (by decide)]; exact s1
  · rw [u_j (by omega), sUp_ne (by decide)]; exact s2
  · rw [u_j (by omega), sUp_ne (by decide)]; exact s3
  · rw [u_j (by omega), sUp_ne (by omega)]; exact (p2 u hu).1
  · rw [u_at, sUp_eq]
    by_cases e : u = b
    · rw [if_pos (by omega), e]; exact hx
    · rw [if_neg (by omega), ho u e]; exact (p2 u hu).2
  · rw [u_j (by omega), sUp_ne (by decide)]; exact p3 u hu
theorem gBi_tog {m : Int} {b u : Nat} : gBi (gTog m b) u = if u = b then 1 - gBi m b else gBi m u := by
  unfold gBi
  rw [gBit_tog]
  by_cases e : u = b
  · subst e
    rw [if_pos rfl]
    cases gBit m u <;> simp
  · rw [if_neg e, decide_eq_false (show ¬ b = u from fun f => e f.symm)]
    cases gBit m u <;> simp
theorem n_asides {a1 a2 : Int32} {x3 : Option gV} {C : gCo} {t : gSt} {lg : Nat → Int} {nl : Int} {ac : List (gSt × Int)} {rf : Nat → Int32} (hc : cOk C) (hC : mCo I C) (hS : mS I C t) (hk : mKp I lg nl) (hp : mPa I C lg ac) (hf : mRf I rf)
    (K0 : ¬ (((0 ≤ a1.toInt ∧ a1.toInt < C.1 2) ∧ a1.toInt ≠ t 3) ∧ (0 ≤ a2.toInt ∧ a2.toInt ≤ 1) ∧ gBi (t 4) a1.toInt.toNat ≠ a2.toInt) → ∀ (I' : Nat → Nat → Nat → Int32), (∀ k i j, ¬ ((k = 52 ∧ i = 0)) → I' k i j = I k i j) → mRf I' (gRef rf 2) → Q (some (.inl 0)) (gwd S I' J h))
    (K1 : (((0 ≤ a1.toInt ∧ a1.toInt < C.1 2) ∧ a1.toInt ≠ t 3) ∧ (0 ≤ a2.toInt ∧ a2.toInt ≤ 1) ∧ gBi (t 4) a1.toInt.toNat ≠ a2.toInt) → ∀ (I' : Nat → Nat → Nat → Int32), (∀ k i j, ¬ ((k = 50 ∧ i = 0 ∧ (j = 70 ∨ j = 71)) ∨ (k = 67 ∧ i = 0) ∨ (k = 61 ∧ i = 0)) → I' k i j = I k i j) → mS I' C (sUp t 4 (gTog (t 4) a1.toInt.toNat)) → mKp I' lg nl → mPa I' C lg ((t, nl) :: ac.take 19) → Q (some (.inl 1)) (gwd S I' J h)) : (gq (d + 3) 242 0 [some (.inr (.inr (some (50, 0)))), some (.inl (a1)), some (.inl (a2)), x3] [] (gwd S I J h) Q) := by
  have e2 : (2 : Int32).toInt = 2 := rfl
  have e5 : (5 : Int32).toInt = 5 := rfl
  have rB := hc.2.2.1
  rw [gb_242_0, n_waits hc hC hS, Option.toList_some, List.singleton_append, gb_242_5]
  have go : ∀ y : Int32, (y = 0 ∨ y = 1) → (y = 1 ↔ ((0 ≤ a1.toInt ∧ a1.toInt < C.1 2) ∧ a1.toInt ≠ t 3) ∧ (0 ≤ a2.toInt ∧ a2.toInt ≤ 1)) → (gq (d + 3) 242 23 [some (.inr (.inr (some (50, 0)))), some (.inl (a1)), some (.inl (a2)), x3] [.inl (y)] (gwd S I J h) Q) := fun y hy hy1 => by
    have fin : ∀ z : Int32, (y = 1 → z.toInt = ((5 + 2 * a1.toInt.toNat : Nat) : Int)) → (gq (d + 3) 242 39 [some (.inr (.inr (some (50, 0)))), some (.inl (a1)), some (.inl (a2)), some (.inl (y))] [.inl (z), .inl (y), .inr (.inr (some (50, 0)))] (gwd S I J h) Q) := fun z hz => by
      rw [gb_242_39]
      by_cases hb : 5 + 2 * a1.toInt.toNat < 28
      · refine n_isChanged (k := 5 + 2 * a1.toInt.toNat) hc hS hk hp hf hy hz hb (fun hno I1 hF1 hf1 => ?_) (fun h1 hne I1 hF1 hp1 => ?_)
        · rw [Option.toList_some, List.singleton_append, gb_242_43, g_t0, true_and]
          refine K0 (fun e => ?_) I1 hF1 hf1
          rcases hno with h | h
          · rw [hy1.mpr ⟨e.1, e.2.1⟩] at h; exact absurd h (by decide)
          · have := (hS.2.1 a1.toInt.toNat (by omega)).2; rw [h] at this; exact e.2.2 this.symm
        · have hcan := hy1.mp h1
          rw [Option.toList_some, List.singleton_append, gb_242_43, g_t1, true_and]
          have hne' : gBi (t 4) a1.toInt.toNat ≠ a2.toInt := fun e => hne (z_inj (by rw [(hS.2.1 a1.toInt.toNat (by omega)).2, e]))
          have hg := @gBi_r (t 4) a1.toInt.toNat
          refine K1 ⟨hcan.1, hcan.2, hne'⟩ _ (fun k i j hn => by rw [u_ne (by omega), hF1 _ _ _ (by omega)]) (mS_up4 hc (by omega) (mS_congr hc hS fun j _ => hF1 _ _ _ (by omega)) (by rw [gBi_tog, if_pos rfl]; omega) (fun u hu => by rw [gBi_tog, if_neg hu])) (mKp_congr hk fun j hj => by rw [u_j (by omega), hF1 _ _ _ (by omega)]) (mPa_congr hp1 fun k j hk => u_ne (by omega))
      · have hy0 : y = 0 := hy.resolve_right fun e => hb (by have := hy1.mp e; omega)
        refine n_isChanged (k := 0) hc hS hk hp hf hy (fun e => by rw [hy0] at e; exact absurd e (by decide)) (by decide) (fun hno I1 hF1 hf1 => ?_) (fun h1 hne I1 hF1 hp1 => ?_)
        · rw [Option.toList_some, List.singleton_append, gb_242_43, g_t0, true_and]
          refine K0 (fun e => ?_) I1 hF1 hf1
          have := hy1.mpr ⟨e.1, e.2.1⟩
          rw [hy0] at this; exact absurd this (by decide)
        · rw [hy0] at h1; exact absurd h1 (by decide)
    rw [gb_242_23]
    by_cases hz : y = 0
    · rw [if_pos hz, gb_242_38]
      exact fin 0 (fun e => by rw [hz] at e; exact absurd e (by decide))
    · rw [if_neg hz, gb_242_30]
      refine fin _ (fun e => ?_)
      have hcan := hy1.mp e
      have q0 : (2 * a1).toInt = 2 * a1.toInt := by rw [z_mul (by rw [e2]; omega) (by rw [e2]; omega), e2]
      rw [z_add (by omega) (by omega), q0, e5]; omega
  have yo : (1 : Int64).toInt = 1 := rfl
  by_cases w1 : (0 ≤ a1.toInt ∧ a1.toInt < C.1 2) ∧ a1.toInt ≠ t 3
  case neg =>
    rw [if_pos (zb_neg w1), gb_242_22]
    exact go 0 (Or.inl rfl) ⟨fun e => absurd e (by decide), fun e => absurd e.1 w1⟩
  rw [if_neg (by rw [zb_pos w1]; decide), gb_242_8, n_isIn, Option.toList_some, List.singleton_append, gb_242_15, z_64, yi_0, yo]
  by_cases w2 : 0 ≤ a2.toInt ∧ a2.toInt ≤ 1
  · rw [if_neg (by rw [zb_pos w2]; decide), gb_242_18]
    exact go 1 (Or.inr rfl) ⟨fun _ => ⟨w1, w2⟩, fun _ => rfl⟩
  · rw [if_pos (zb_neg w2), gb_242_22]
    exact go 0 (Or.inl rfl) ⟨fun e => absurd e (by decide), fun e => absurd e.2 w2⟩
theorem n_hoursR_loop {C : gCo} {ac : List (gSt × Int)} {a1 : Int32} (hc : cOk C) : ∀ (n : Nat) (k : Int) (t : gSt) (lg : Nat → Int) (nl r : Int) (I : Nat → Nat → Nat → Int32) (J : Nat → Nat → Nat → Int64) (a2 : Int32), a1.toInt = k + n → 0 ≤ k → k + n ≤ 100 → a2.toInt = k → mCo I C → tOk C t → t 0 + n ≤ 999 → mS I C t → I 50 0 62 = 0 → mKp I lg nl → 0 ≤ nl → nl ≤ t 1 → mPa I C lg ac → acLe nl ac → (I 50 0 63).toInt = r → 0 ≤ r → r ≤ 9 * k →
    (∀ I' (J' : Nat → Nat → Nat → Int64), (∀ k i j, ¬ ((k = 50 ∧ i = 0 ∧ (j = 49 ∨ j = 52 ∨ j = 53 ∨ j = 54 ∨ j = 55 ∨ j = 56 ∨ j = 57 ∨ j = 58 ∨ j = 59 ∨ j = 63 ∨ j = 105)) ∨ (k = 61 ∧ i = 0)) → I' k i j = I k i j) → FJ J J' → mS I' C (gHrs C n t lg nl r).1 → mKp I' (gHrs C n t lg nl r).2.1 (gHrs C n t lg nl r).2.2.1 → mPa I' C (gHrs C n t lg nl r).2.1 ac → (I' 50 0 63).toInt = (gHrs C n t lg nl r).2.2.2 → Q none (gwd S I' J' h)) → (gq (d + 8) 207 7 [some (.inr (.inr (some (50, 0)))), some (.inl (a1)), some (.inl (a2))] [] (gwd S I J h) Q)
  | 0, k, t, lg, nl, r, I, J, a2, h1, hk, hk1, h2, hC, hto, h9, hS, h62, hkp, hn0, hn1, hp, hal, h63, hr0, hr1, K => by
    rw [gb_207_7, if_pos (by rw [z_le]; omega), gb_207_22]
    exact K I J (fun _ _ _ _ => rfl) FJ_refl hS hkp hp h63
  | n + 1, k, t, lg, nl, r, I, J, a2, h1, hk, hk1, h2, hC, hto, h9, hS, h62, hkp, hn0, hn1, hp, hal, h63, hr0, hr1, K => by
    have e1 : (1 : Int32).toInt = 1 := rfl
    have hnl := hour_nl hc hto hn0 hn1
    have hmi := gMiles_r hc hto
    rw [gb_207_7, if_neg (by rw [z_le]; omega), gb_207_12]
    refine n_hourGoes (th := false) (lg := lg) (nl := nl) hc hC hto (by omega) hS ⟨h62, hkp, hn0, hnl.2.2⟩ fun I1 J1 hF1 hFJ1 h631 hS1 _ hk1' => ?_
    rw [gHourM_eq (by omega)] at hS1
    rw [Option.toList_none, List.nil_append, gb_207_16]
    refine n_hoursR_loop hc n (k + 1) (gHour C t) (gLgH C t lg nl) (gNlH C t nl) (r + gMiles C t) I1 J1 _ (by omega) (by omega) (by omega) (by rw [z_add (by omega) (by omega), h2, e1]) (mCo_congr hC fun k j hk => hF1 _ _ _ (by omega)) (tOk_hour hc hto) (by rw [gHour_0]; omega) hS1 (by rw [hF1 _ _ _ (by omega)]; exact h62) (hk1' rfl) (by omega) hnl.2.1 (mPa_hour (mPa_congr hp fun k j hk => hF1 _ _ _ (by omega)) hal) (acLe_up hal hnl.1) ?_ (by omega) (by omega) fun I2 J2 hF2 hFJ2 g1 g2 g3 g4 => K I2 J2 (fun k i j hn => by rw [hF2 _ _ _ hn, hF1 _ _ _ hn]) (FJ_trans hFJ1 hFJ2) g1 g2 g3 g4
    rw [h631, z_add (by rw [z_of (by omega) (by omega)]; omega) (by rw [z_of (by omega) (by omega)]; omega), z_of (by omega) (by omega), h63]
theorem n_hours {a1 : Int32} {C : gCo} {t : gSt} {lg : Nat → Int} {nl : Int} {ac : List (gSt × Int)} {rf : Nat → Int32} (hc : cOk C) (hC : mCo I C) (hto : tOk C t) (h9 : t 0 ≤ 999) (hS : mS I C t) (hk : mKp I lg nl) (hn0 : 0 ≤ nl) (hn1 : nl ≤ t 1) (hp : mPa I C lg ac) (hal : acLe nl ac) (hf : mRf I rf) (h62 : I 50 0 62 = 0)
    (K0 : ¬ (1 ≤ a1.toInt ∧ a1.toInt ≤ 100 ∧ t 0 + a1.toInt ≤ 999) → ∀ (I' : Nat → Nat → Nat → Int32), (∀ k i j, ¬ ((k = 52 ∧ i = 0)) → I' k i j = I k i j) → mRf I' (gRef rf 3) → Q (some (.inl (Int32.ofInt (-1)))) (gwd S I' J h))
    (K1 : (1 ≤ a1.toInt ∧ a1.toInt ≤ 100 ∧ t 0 + a1.toInt ≤ 999) → ∀ I' (J' : Nat → Nat → Nat → Int64) x, (∀ k i j, ¬ ((k = 50 ∧ i = 0 ∧ (j = 49 ∨ j = 52 ∨ j = 53 ∨ j = 54 ∨ j = 55 ∨ j = 56 ∨ j = 57 ∨ j = 58 ∨ j = 59 ∨ j = 63 ∨ j = 70 ∨ j = 71 ∨ j = 105)) ∨ (k = 61 ∧ i = 0) ∨ (k = 67 ∧ i = 0)) → I' k i j = I k i j) → FJ J J' → mS I' C (gHrs C a1.toInt.toNat t lg nl 0).1 → mKp I' (gHrs C a1.toInt.toNat t lg nl 0).2.1 (gHrs C a1.toInt.toNat t lg nl 0).2.2.1 → mPa I' C (gHrs C a1.toInt.toNat t lg nl 0).2.1 ((t, nl) :: ac.take 19) → x.toInt = (gHrs C a1.toInt.toNat t lg nl 0).2.2.2 → Q (some (.inl x)) (gwd S I' J' h)) : (gq (d + 9) 244 0 [some (.inr (.inr (some (50, 0)))), some (.inl (a1))] [] (gwd S I J h) Q) := by
  have e1 : (1 : Int32).toInt = 1 := rfl
  have e100 : (100 : Int32).toInt = 100 := rfl
  rw [gb_244_0, n_isAhead hC hS hto.1 (by decide) (by decide), Option.toList_some, List.singleton_append, gb_244_8, e1, e100]
  by_cases w : 1 ≤ a1.toInt ∧ a1.toInt ≤ 100 ∧ t 0 + a1.toInt ≤ 999
  case neg =>
    rw [if_pos (zb_neg w), gb_244_11]
    refine n_refuses (w := 3) rfl (by decide) hf fun I1 hF1 hf1 => ?_
    rw [Option.toList_some, List.singleton_append, gb_244_16]
    exact K0 w I1 hF1 hf1
  rw [if_neg (by rw [zb_pos w]; decide), gb_244_17]
  refine n_keeps hc hS hk hp fun I1 hF1 hp1 => ?_
  rw [Option.toList_none, List.nil_append, gb_244_21, gb_207_0]
  refine n_hoursR_loop hc a1.toInt.toNat 0 t lg nl 0 _ J _ (by omega) (by omega) (by omega) rfl (mCo_congr hC fun k j hk => by rw [u_ne (by omega), hF1 _ _ _ (by omega)]) hto (by omega) (mS_congr hc hS fun j _ => by rw [u_ne (by omega), hF1 _ _ _ (by omega)]) (by rw [u_ne (by omega), hF1 _ _ _ (by omega)]; exact h62) (mKp_congr hk fun j _ => by rw [u_ne (by omega), hF1 _ _ _ (by omega)]) hn0 hn1 (mPa_congr hp1 fun k j hk => u_ne (by omega)) (fun x hx => ?_) (by rw [u_eq]; rfl) (by omega) (by omega) fun I2 J2 hF2 hFJ2 g1 g2 g3 g4 => ?_
  · rcases List.mem_cons.mp hx with e | e
    · rw [e]; exact ⟨hn0, Int.le_refl _⟩
    · exact hal x (List.mem_of_mem_take e)
  · rw [Option.toList_none, List.nil_append, gb_244_26]
    exact K1 w I2 J2 _ (fun k i j hn => by rw [hF2 _ _ _ (by omega), u_ne (by omega), hF1 _ _ _ (by omega)]) hFJ2 g1 g2 g3 g4
