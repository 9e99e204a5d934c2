/-! The model: the seed, hours by the seed, what is seen. -/
def mTp (I : Nat → Nat → Nat → Int32) (tp : Nat → Int) (ln : Int) : Prop := (I 50 0 1).toInt = ln ∧ ∀ j : Nat, (j : Int) < ln → (I 51 0 j).toInt = tp j
theorem mTp_congr {I I' : Nat → Nat → Nat → Int32} {tp : Nat → Int} {ln : Int} (h : mTp I tp ln) (e1 : I' 50 0 1 = I 50 0 1) (e2 : ∀ j, I' 51 0 j = I 51 0 j) : mTp I' tp ln := ⟨by rw [e1]; exact h.1, fun j hj => by rw [e2]; exact h.2 j hj⟩
def FJs (J J' : Nat → Nat → Nat → Int64) : Prop := ∀ k i j, ¬ (k = 70 ∧ i = 0 ∨ k = 50 ∧ i = 0 ∧ j = 72) → J' k i j = J k i j
variable {d S : Nat} {h : Nat × Option gNm} {I : Nat → Nat → Nat → Int32} {J : Nat → Nat → Nat → Int64} {Q : Option gV → gW → Prop}
theorem mRf_up {w : Nat} {rf : Nat → Int32} (hw : w < 6) (hf : mRf I rf) : mRf (gup I 52 0 w (I 52 0 w + 1)) (gRef rf w) := fun k hk => by
  rw [u_at]
  unfold gRef
  split
  · rename_i e; rw [e, hf w hw]
  · exact hf k hk
theorem n_seed {a1 : Int32} {rf : Nat → Int32} (hf : mRf I rf) (K0 : a1.toInt < 0 → ∀ (I' : Nat → Nat → Nat → Int32), (∀ k i j, ¬ ((k = 52 ∧ i = 0)) → I' k i j = I k i j) → mRf I' (gRef rf 5) → Q (some (.inl 0)) (gwd S I' J h))
    (K1 : 0 ≤ a1.toInt → ∀ (J' : Nat → Nat → Nat → Int64), (∀ k i j, ¬ (k = 50 ∧ i = 0 ∧ j = 72) → J' k i j = J k i j) → (J' 50 0 72).toInt = a1.toInt → Q (some (.inl 1)) (gwd S I J' h)) : (gq d 245 0 [some (.inr (.inr (some (50, 0)))), some (.inl (a1))] [] (gwd S I J h) Q) := by
  rw [gb_245_0]
  by_cases w : 0 ≤ a1.toInt
  · rw [if_pos (by rw [z_le, z_0]; exact w), gb_245_16]
    exact K1 w _ (fun k i j hn => u_ne hn) (by rw [u_eq, z_64])
  · rw [if_neg (by rw [z_le, z_0]; exact w), gb_245_4]
    refine ⟨rfl, ?_⟩
    rw [gb_245_11]
    refine ⟨rfl, ?_⟩
    rw [show (5 : Int32).toNatClampNeg = 5 from rfl, gb_245_14]
    exact K0 (by omega) _ (fun k i j hn => u_ne (by omega)) (mRf_up (by decide) hf)
theorem n_chance_loop {C : gCo} {ac : List (gSt × Int)} {a1 : Int32} (hc : cOk C) : ∀ (n : Nat) (k : Int) (t : gSt) (lg : Nat → Int) (nl dr r : Int) (I : Nat → Nat → Nat → Int32) (J : Nat → Nat → Nat → Int64) (a2 a3 : Int32), a1.toInt = k + n → 0 ≤ k → k + n ≤ 100 → a3.toInt = k → mCo I C → tOk C t → t 0 + n ≤ 999 → mS I C t → I 50 0 62 = 0 → mKp I lg nl → 0 ≤ nl → nl ≤ t 1 → mPa I C lg ac → acLe nl ac → (J 50 0 72).toInt = dr → 0 ≤ dr → dr < 2147483648 → a2.toInt = r → 0 ≤ r → r ≤ k →
    (∀ I' (J' : Nat → Nat → Nat → Int64) a2 a3, (∀ k i j, ¬ ((k = 50 ∧ i = 0 ∧ (j = 49 ∨ j = 52 ∨ j = 53 ∨ j = 54 ∨ j = 55 ∨ j = 56 ∨ j = 57 ∨ j = 58 ∨ j = 59 ∨ j = 63 ∨ j = 105)) ∨ (k = 61 ∧ i = 0)) → I' k i j = I k i j) → FJs J J' → mS I' C (gChn C n t lg nl dr r).1 → mKp I' (gChn C n t lg nl dr r).2.1 (gChn C n t lg nl dr r).2.2.1 → mPa I' C (gChn C n t lg nl dr r).2.1 ac → (J' 50 0 72).toInt = (gChn C n t lg nl dr r).2.2.2.1 → a2.toInt = (gChn C n t lg nl dr r).2.2.2.2 → (gq (d + 8) 247 69 [some (.inr (.inr (some (50, 0)))), some (.inl (a1)), some (.inl (a2)), some (.inl (a3))] [] (gwd S I' J' h) Q)) → (gq (d + 8) 247 25 [some (.inr (.inr (some (50, 0)))), some (.inl (a1)), some (.inl (a2)), some (.inl (a3))] [] (gwd S I J h) Q)
  | 0, k, t, lg, nl, dr, r, I, J, a2, a3, h1, hk, hk1, h2, hC, hto, h9, hS, h62, hkp, hn0, hn1, hp, hal, hJ, hd0, hd1, har, hr0, hr1, K => by
    rw [gb_247_25, if_pos (by rw [z_le]; omega)]
    exact K I J _ _ (fun _ _ _ _ => rfl) (fun _ _ _ _ => rfl) hS hkp hp hJ har
  | n + 1, k, t, lg, nl, dr, r, I, J, a2, a3, h1, hk, hk1, h2, hC, hto, h9, hS, h62, hkp, hn0, hn1, hp, hal, hJ, hd0, hd1, har, hr0, hr1, K => by
    have e1 : (1 : Int32).toInt = 1 := rfl
    have e100 : (100 : Int32).toInt = 100 := rfl
    have e10 : (10 : Int32).toInt = 10 := rfl
    have rd1 := gDr_r dr
    have rd2 := gDr_r (gDr dr)
    have rv := gDv_r (gDr dr) (show (0 : Int) < 10 by decide)
    have r2 := hto.2.2.1
    rw [gb_247_25, if_neg (by rw [z_le]; omega), gb_247_30]
    refine n_draw (dr := dr) (m := 100) hJ hd0 hd1 e100 (by omega) fun J1 x hJ1 hx1 hx => ?_
    rw [Option.toList_some, List.singleton_append, gb_247_36]
    refine ⟨rfl, ?_⟩
    rw [show (9 : Int32).toNatClampNeg = 9 from rfl, gb_247_43]
    have go : ∀ (t1 : gSt) (dr1 r1 : Int) (I1 : Nat → Nat → Nat → Int32) (J1 : Nat → Nat → Nat → Int64) (b2 : Int32), tOk C t1 → t1 0 = t 0 → t1 1 = t 1 → (∀ k i j, ¬ ((k = 61 ∧ i = 0 ∧ j = 2)) → I1 k i j = I k i j) → FJs J J1 → mS I1 C t1 → (J1 50 0 72).toInt = dr1 → 0 ≤ dr1 → dr1 < 2147483648 → b2.toInt = r1 → 0 ≤ r1 → r1 ≤ k + 1 → gChn C (n + 1) t lg nl dr r = gChn C n (gHour C t1) (gLgH C t1 lg nl) (gNlH C t1 nl) dr1 r1 → (gq (d + 8) 247 59 [some (.inr (.inr (some (50, 0)))), some (.inl (a1)), some (.inl (b2)), some (.inl (a3))] [] (gwd S I1 J1 h) Q) := fun t1 dr1 r1 I1 J1 b2 hto1 t0 t1' hF1 hFJ1 hS1 hJ1 hd10 hd11 hb hr10 hr11 e => by
      have hnl := hour_nl hc hto1 hn0 (by omega : nl ≤ t1 1)
      rw [gb_247_59]
      refine n_hourGoes (th := false) (lg := lg) (nl := nl) hc (mCo_congr hC fun k j hk => hF1 _ _ _ (by omega)) hto1 (by omega) hS1 ⟨by rw [hF1 _ _ _ (by omega)]; exact h62, mKp_congr hkp fun j hj => hF1 _ _ _ (by omega), hn0, hnl.2.2⟩ fun I2 J2 hF2 hFJ2 h632 hS2 _ hk2 => ?_
      rw [gHourM_eq (by omega)] at hS2
      rw [Option.toList_none, List.nil_append, gb_247_63]
      rw [e] at K
      refine n_chance_loop hc n (k + 1) (gHour C t1) (gLgH C t1 lg nl) (gNlH C t1 nl) dr1 r1 I2 J2 _ _ (by omega) (by omega) (by omega) (by rw [z_add (by omega) (by omega), h2, e1]) (mCo_congr hC fun k j hk => by rw [hF2 _ _ _ (by omega), hF1 _ _ _ (by omega)]) (tOk_hour hc hto1) (by rw [gHour_0]; omega) hS2 (by rw [hF2 _ _ _ (by omega), hF1 _ _ _ (by omega)]; exact h62) (hk2 rfl) (by omega) hnl.2.1 (mPa_hour (mPa_congr hp fun k j hk => by rw [hF2 _ _ _ (by omega), hF1 _ _ _ (by omega)]) hal) (acLe_up hal hnl.1) (by rw [hFJ2 _ _ _ (by omega)]; exact hJ1) hd10 hd11 hb hr10 hr11 fun I3 J3 b2 b3 hF3 hFJ3 g1 g2 g3 g4 g5 => K I3 J3 b2 b3 (fun k i j hn => by rw [hF3 _ _ _ hn, hF2 _ _ _ hn, hF1 _ _ _ (by omega)]) (fun k i j hn => by rw [hFJ3 _ _ _ hn, hFJ2 _ _ _ (by omega), hFJ1 _ _ _ hn]) g1 g2 g3 g4 g5
    have c5 := hC.1.2.2.2.2
    by_cases w : gDv dr 100 < C.1 5
    · rw [if_neg (by rw [z_le]; omega), gb_247_46]
      refine n_draw (dr := gDr dr) (m := 10) hx1 rd1.1 rd1.2 e10 (by omega) fun J2 y hJ2 hy1 hy => ?_
      rw [Option.toList_some, List.singleton_append, gb_247_53]
      refine n_trips hS r2 (by omega) fun I1 hF1 hS1 => ?_
      rw [hy] at hS1
      rw [Option.toList_none, List.nil_append, gb_247_56]
      exact go _ _ (r + 1) I1 J2 _ (tOk_up2 hto _ (by omega)) (sUp_ne (by decide)) (sUp_ne (by decide)) hF1 (fun k i j hn => by rw [hJ2 _ _ _ (by omega), hJ1 _ _ _ (by omega)]) hS1 hy1 rd2.1 rd2.2 (by rw [z_add (by omega) (by omega), har, e1]) (by omega) (by omega) (by rw [gChn, if_pos w])
    · rw [if_pos (by rw [z_le]; omega)]
      exact go t _ r I J1 _ hto rfl rfl (fun _ _ _ _ => rfl) (fun k i j hn => by rw [hJ1 _ _ _ (by omega)]) hS hx1 rd1.1 rd1.2 har (by omega) (by omega) (by rw [gChn, if_neg w])
theorem n_chance {a1 : Int32} {x2 x3 : Option gV} {C : gCo} {t : gSt} {lg : Nat → Int} {nl dr : Int} {ac : List (gSt × Int)} {rf : Nat → Int32} (hc : cOk C) (hC : mCo I C) (hto : tOk C t) (h9 : t 0 ≤ 999) (hS : mS I C t) (hk : mKp I lg nl) (hn0 : 0 ≤ nl) (hn1 : nl ≤ t 1) (hp : mPa I C lg ac) (hal : acLe nl ac) (hf : mRf I rf) (h62 : I 50 0 62 = 0) (hJ : (J 50 0 72).toInt = dr) (hd0 : 0 ≤ dr) (hd1 : dr < 2147483648)
    (K0 : ¬ (1 ≤ a1.toInt ∧ a1.toInt ≤ 100 ∧ t 0 + a1.toInt ≤ 999) → ∀ (I' : Nat → Nat → Nat → Int32), (∀ k i j, ¬ ((k = 52 ∧ i = 0)) → I' k i j = I k i j) → mRf I' (gRef rf 3) → Q (some (.inl (Int32.ofInt (-1)))) (gwd S I' J h))
    (K1 : (1 ≤ a1.toInt ∧ a1.toInt ≤ 100 ∧ t 0 + a1.toInt ≤ 999) → ∀ I' (J' : Nat → Nat → Nat → Int64) x, (∀ k i j, ¬ ((k = 50 ∧ i = 0 ∧ (j = 49 ∨ j = 52 ∨ j = 53 ∨ j = 54 ∨ j = 55 ∨ j = 56 ∨ j = 57 ∨ j = 58 ∨ j = 59 ∨ j = 63 ∨ j = 70 ∨ j = 71 ∨ j = 105)) ∨ (k = 61 ∧ i = 0) ∨ (k = 67 ∧ i = 0)) → I' k i j = I k i j) → FJs J J' → mS I' C (gChn C a1.toInt.toNat t lg nl dr 0).1 → mKp I' (gChn C a1.toInt.toNat t lg nl dr 0).2.1 (gChn C a1.toInt.toNat t lg nl dr 0).2.2.1 → mPa I' C (gChn C a1.toInt.toNat t lg nl dr 0).2.1 ((t, nl) :: ac.take 19) → (J' 50 0 72).toInt = (gChn C a1.toInt.toNat t lg nl dr 0).2.2.2.1 → x.toInt = (gChn C a1.toInt.toNat t lg nl dr 0).2.2.2.2 → Q (some (.inl x)) (gwd S I' J' h)) : (gq (d + 8) 247 0 [some (.inr (.inr (some (50, 0)))), some (.inl (a1)), x2, x3] [] (gwd S I J h) Q) := by
  have e1 : (1 : Int32).toInt = 1 := rfl
  have e100 : (100 : Int32).toInt = 100 := rfl
  rw [gb_247_0, n_isAhead hC hS hto.1 (by decide) (by decide), Option.toList_some, List.singleton_append, gb_247_8, e1, e100]
  by_cases w : 1 ≤ a1.toInt ∧ a1.toInt ≤ 100 ∧ t 0 + a1.toInt ≤ 999
  case neg =>
    rw [if_pos (zb_neg w), gb_247_11]
    refine n_refuses (w := 3) rfl (by decide) hf fun I1 hF1 hf1 => ?_
    rw [Option.toList_some, List.singleton_append, gb_247_16]
    exact K0 w I1 hF1 hf1
  rw [if_neg (by rw [zb_pos w]; decide), gb_247_17]
  refine n_keeps hc hS hk hp fun I1 hF1 hp1 => ?_
  rw [Option.toList_none, List.nil_append, gb_247_21]
  refine n_chance_loop hc a1.toInt.toNat 0 t lg nl dr 0 _ J _ _ (by omega) (by omega) (by omega) rfl (mCo_congr hC fun k j hk => hF1 _ _ _ (by omega)) hto (by omega) (mS_congr hc hS fun j _ => hF1 _ _ _ (by omega)) (by rw [hF1 _ _ _ (by omega)]; exact h62) (mKp_congr hk fun j _ => hF1 _ _ _ (by omega)) hn0 hn1 hp1 (fun x hx => ?_) hJ hd0 hd1 rfl (by omega) (by omega) fun I2 J2 b2 b3 hF2 hFJ2 g1 g2 g3 g4 g5 => ?_
  · rcases List.mem_cons.mp hx with e | e
    · rw [e]; exact ⟨hn0, Int.le_refl _⟩
    · exact hal x (List.mem_of_mem_take e)
  · rw [gb_247_69]
    exact K1 w I2 J2 _ (fun k i j hn => by rw [hF2 _ _ _ (by omega), hF1 _ _ _ (by omega)]) hFJ2 g1 g2 g3 g4 g5
theorem n_see_test {C : gCo} {tp : Nat → Int} {ln : Int} {a1 : Int32} (hc : cOk C) (hC : mCo I C) (hp : ∀ j : Nat, (j : Int) < ln → (I 51 0 j).toInt = tp j) (ho : tpOk tp ln) (hl : a1.toInt = ln) : ∀ (n i : Nat) (a3 : Int32), ln = 3 * ((i + n : Nat) : Int) → a3.toInt = 3 * i →
    (∀ a2 a3 : Int32, a2 = zb (gSeeOk C tp ln n i = true) → (gq (d + 2) 231 95 [some (.inr (.inr (some (50, 0)))), some (.inl (a1)), some (.inl (a2)), some (.inl (a3))] [] (gwd S I J h) Q)) → (gq (d + 2) 231 36 [some (.inr (.inr (some (50, 0)))), some (.inl (a1)), some (.inl (1)), some (.inl (a3))] [] (gwd S I J h) Q)
  | 0, i, a3, hn, h3, K => by
    rw [gb_231_36, if_pos (by rw [z_le]; omega)]
    exact K _ _ (zb_pos rfl).symm
  | n + 1, i, a3, hn, h3, K => by
    have e1 : (1 : Int32).toInt = 1 := rfl
    have e2 : (2 : Int32).toInt = 2 := rfl
    have e3 : (3 : Int32).toInt = 3 := rfl
    have e30 : (30 : Int32).toInt = 30 := rfl
    have r1 := ho.1
    have n0 : a3.toNatClampNeg = 3 * i := by rw [z_n]; omega
    have q1 : (a3 + 1).toInt = 3 * i + 1 := by rw [z_add (by omega) (by omega), h3, e1]
    have q2 : (a3 + 2).toInt = 3 * i + 2 := by rw [z_add (by omega) (by omega), h3, e2]
    have n1 : (a3 + 1).toNatClampNeg = 3 * i + 1 := by rw [z_n]; omega
    have n2 : (a3 + 2).toNatClampNeg = 3 * i + 2 := by rw [z_n]; omega
    have b0 : gByt tp ln (3 * i) = tp (3 * i) := by unfold gByt; rw [if_pos (by omega)]; congr 1
    have b1 : gByt tp ln (3 * i + 1) = tp (3 * i + 1) := by unfold gByt; rw [if_pos (by omega)]; congr 1
    have b2 : gByt tp ln (3 * i + 2) = tp (3 * i + 2) := by unfold gByt; rw [if_pos (by omega)]; congr 1
    have v0 := hp (3 * i) (by omega)
    have v1 := hp (3 * i + 1) (by omega)
    have v2 := hp (3 * i + 2) (by omega)
    have p1 := (ho.2 (3 * i + 1) (by omega)).1
    have c3 := hC.1.2.2.1
    have rH := hc.2.2.2.1
    have no : ¬ (tp (3 * i) ≤ 30 ∧ (0 ≤ tp (3 * i + 1) ∧ tp (3 * i + 1) < C.1 3) ∧ tp (3 * i + 2) ≤ 1) → (gq (d + 2) 231 87 [some (.inr (.inr (some (50, 0)))), some (.inl (a1)), some (.inl (1)), some (.inl (a3))] [] (gwd S I J h) Q) := fun w => by
      rw [gb_231_87, gb_231_88]
      have f : gSeeOk C tp ln (n + 1) i = false := by unfold gSeeOk; rw [b0, b1, b2, if_neg w]
      have fin : ∀ a3 : Int32, (gq (d + 2) 231 36 [some (.inr (.inr (some (50, 0)))), some (.inl (a1)), some (.inl (0)), some (.inl (a3))] [] (gwd S I J h) Q) := fun a3 => by
        rw [gb_231_36]
        have := K 0 a3 (by rw [f]; rfl)
        by_cases w : a1 ≤ a3
        · rw [if_pos w]; exact this
        · rw [if_neg w, gb_231_41, if_pos rfl]; exact this
      exact fin _
    rw [gb_231_36, if_neg (by rw [z_le]; omega), gb_231_41, if_neg (by decide), gb_231_45]
    refine ⟨g_in.mpr (by omega), ?_⟩
    rw [n0, gb_231_51]
    by_cases w0 : tp (3 * i) ≤ 30
    case neg => rw [if_pos (by rw [z_lt]; omega)]; exact no (fun e => w0 e.1)
    rw [if_neg (by rw [z_lt]; omega), gb_231_56]
    refine ⟨g_in.mpr (by omega), ?_⟩
    rw [n1, gb_231_65, n_isHouse (by omega), Option.toList_some, List.singleton_append, gb_231_68, v1, c3]
    by_cases w1 : 0 ≤ tp (3 * i + 1) ∧ tp (3 * i + 1) < C.1 3
    case neg => rw [if_pos (zb_neg w1)]; exact no (fun e => w1 e.2.1)
    rw [if_neg (by rw [zb_pos w1]; decide), gb_231_71]
    refine ⟨g_in.mpr (by omega), ?_⟩
    rw [n2, gb_231_79]
    by_cases w2 : tp (3 * i + 2) ≤ 1
    case neg => rw [if_pos (by rw [z_lt]; omega)]; exact no (fun e => w2 e.2.2)
    rw [if_neg (by rw [z_lt]; omega), gb_231_83, gb_231_88]
    have f : gSeeOk C tp ln (n + 1) i = gSeeOk C tp ln n (i + 1) := by rw [gSeeOk, b0, b1, b2, if_pos ⟨w0, w1, w2⟩]
    rw [f] at K
    exact n_see_test hc hC hp ho hl n (i + 1) _ (by omega) (by rw [z_add (by omega) (by omega), h3, e3]; omega) K
theorem n_see_lay {tp : Nat → Int} {ln : Int} {a1 a2 : Int32} (hl : a1.toInt = ln) (h48 : ln ≤ 48) : ∀ (n i : Nat) (I : Nat → Nat → Nat → Int32) (a3 : Int32), ln = ((i + n : Nat) : Int) → a3.toInt = i → (∀ j : Nat, (j : Int) < ln → (I 51 0 j).toInt = tp j) → (∀ j, j < i → (I 64 0 j).toInt = tp j) →
    (∀ (I' : Nat → Nat → Nat → Int32) a3, (∀ k i j, ¬ ((k = 64 ∧ i = 0)) → I' k i j = I k i j) → (∀ j : Nat, (j : Int) < ln → (I' 64 0 j).toInt = tp j) → (gq d 231 130 [some (.inr (.inr (some (50, 0)))), some (.inl (a1)), some (.inl (a2)), some (.inl (a3))] [] (gwd S I' J h) Q)) → (gq d 231 107 [some (.inr (.inr (some (50, 0)))), some (.inl (a1)), some (.inl (a2)), some (.inl (a3))] [] (gwd S I J h) Q)
  | 0, i, I, a3, hn, h3, hp, hg, K => by
    rw [gb_231_107, if_pos (by rw [z_le]; omega)]
    exact K I _ (fun _ _ _ _ => rfl) (fun j hj => hg j (by omega))
  | n + 1, i, I, a3, hn, h3, hp, hg, K => by
    have e1 : (1 : Int32).toInt = 1 := rfl
    have n0 : a3.toNatClampNeg = i := by rw [z_n]; omega
    rw [gb_231_107, if_neg (by rw [z_le]; omega), gb_231_112]
    refine ⟨g_in.mpr (by omega), ?_⟩
    rw [n0, gb_231_123]
    refine ⟨g_in.mpr (by omega), ?_⟩
    rw [n0, gb_231_124]
    refine n_see_lay hl h48 n (i + 1) _ _ (by omega) (by rw [z_add (by omega) (by omega), h3, e1]; rfl) (fun j hj => by rw [u_k (by decide)]; exact hp j hj) (fun j hj => ?_) fun I' a3 hF g => K I' a3 (fun k i j hn => by rw [hF _ _ _ hn, u_ne (by omega)]) g
    rw [u_at]
    by_cases e : j = i
    · rw [if_pos e, e]; exact hp i (by omega)
    · rw [if_neg e]; exact hg j (by omega)
theorem n_see {x1 x2 x3 : Option gV} {C : gCo} {tp : Nat → Int} {ln : Int} {rf : Nat → Int32} (hc : cOk C) (hC : mCo I C) (hp : mTp I tp ln) (ho : tpOk tp ln) (hf : mRf I rf)
    (K0 : gSee C tp ln = false → ∀ (I' : Nat → Nat → Nat → Int32), (∀ k i j, ¬ ((k = 52 ∧ i = 0) ∨ (k = 50 ∧ i = 0 ∧ j = 1)) → I' k i j = I k i j) → mRf I' (gRef rf 1) → I' 50 0 1 = 0 → Q (some (.inl (Int32.ofInt (-1)))) (gwd S I' J h))
    (K1 : gSee C tp ln = true → ∀ (I' : Nat → Nat → Nat → Int32) x, (∀ k i j, ¬ ((k = 64 ∧ i = 0) ∨ (k = 50 ∧ i = 0 ∧ (j = 1 ∨ j = 64))) → I' k i j = I k i j) → I' 50 0 1 = 0 → mSn I' tp (ln / 3) → x.toInt = ln / 3 → Q (some (.inl x)) (gwd S I' J h)) : (gq (d + 2) 231 0 [some (.inr (.inr (some (50, 0)))), x1, x2, x3] [] (gwd S I J h) Q) := by
  have e0 : (0 : Int32).toInt = 0 := rfl
  have e3 : (3 : Int32).toInt = 3 := rfl
  have e16 : (16 : Int32).toInt = 16 := rfl
  obtain ⟨hl, hp⟩ := hp
  have r1 := ho.1
  have q1 : (I 50 0 1 / 3).toInt = ln / 3 := by rw [z_div (by omega) (by omega), hl, e3]
  have q2 : (I 50 0 1 - I 50 0 1 / 3 * 3).toInt = ln % 3 := by rw [z_rem (by omega) (by omega), hl, e3]
  rw [gb_231_0]
  generalize hA : I 50 0 1 = A at hl q1 q2
  have hI : gup I 50 0 1 0 50 0 1 = 0 := u_eq
  have hC' : mCo (gup I 50 0 1 0) C := mCo_congr hC fun k j hk => u_ne (by omega)
  have hf' : mRf (gup I 50 0 1 0) rf := fun k hk => by rw [u_k (by decide)]; exact hf k hk
  have hp' : ∀ j : Nat, (j : Int) < ln → (gup I 50 0 1 0 51 0 j).toInt = tp j := fun j hj => by rw [u_k (by decide)]; exact hp j hj
  have hF : ∀ k i j, ¬ (k = 50 ∧ i = 0 ∧ j = 1) → gup I 50 0 1 0 k i j = I k i j := fun k i j hn => u_ne hn
  generalize hG : gup I 50 0 1 0 = I0 at hI hC' hf' hp' hF
  have bad : gSee C tp ln = false → ∀ a3 : Int32, (gq (d + 2) 231 95 [some (.inr (.inr (some (50, 0)))), some (.inl (A)), some (.inl (0)), some (.inl (a3))] [] (gwd S I0 J h) Q) := fun hb a3 => by
    rw [gb_231_95, if_pos rfl, gb_231_99]
    refine n_refuses (w := 1) rfl (by decide) hf' fun I1 hF1 hf1 => ?_
    rw [Option.toList_some, List.singleton_append, gb_231_104]
    exact K0 hb I1 (fun k i j hn => by rw [hF1 _ _ _ (by omega), hF _ _ _ (by omega)]) hf1 (by rw [hF1 _ _ _ (by omega)]; exact hI)
  have no : ¬ (ln % 3 = 0 ∧ 1 ≤ ln / 3 ∧ ln / 3 ≤ 16) → ∀ x2 x3 : Option gV, (gq (d + 2) 231 32 [some (.inr (.inr (some (50, 0)))), some (.inl (A)), x2, x3] [] (gwd S I0 J h) Q) := fun hno x2 x3 => by
    have hb : gSee C tp ln = false := by unfold gSee; rw [decide_eq_false hno]; rfl
    rw [gb_231_32, gb_231_33, gb_231_36]
    by_cases w : A ≤ 0
    · rw [if_pos w]; exact bad hb _
    · rw [if_neg w, gb_231_41, if_pos rfl]; exact bad hb _
  by_cases w0 : A ≤ 0
  · rw [if_pos w0]
    rw [z_le] at w0
    exact no (by omega) _ _
  rw [if_neg w0, gb_231_14]
  rw [z_le] at w0
  by_cases w1 : ln % 3 = 0
  case neg => rw [if_neg (by rw [z_eq, z_0]; omega)]; exact no (fun e => w1 e.1) _ _
  rw [if_pos (z_inj (by rw [q2, w1]; rfl)), gb_231_20]
  by_cases w2 : ln / 3 ≤ 16
  case neg => rw [if_pos (by rw [z_lt]; omega)]; exact no (fun e => w2 e.2.2) _ _
  rw [if_neg (by rw [z_lt]; omega), gb_231_28, gb_231_33]
  have hw : ln % 3 = 0 ∧ 1 ≤ ln / 3 ∧ ln / 3 ≤ 16 := by omega
  refine n_see_test hc hC' hp' ho hl (ln / 3).toNat 0 _ (by omega) rfl fun a2 a3 ha => ?_
  by_cases w3 : gSeeOk C tp ln (ln / 3).toNat 0 = true
  case neg =>
    rw [zb_neg w3] at ha
    rw [ha]
    exact bad (by unfold gSee; rw [Bool.eq_false_iff.mpr w3, Bool.and_false]) _
  rw [zb_pos w3] at ha
  rw [ha, gb_231_95, if_neg (by decide), gb_231_105]
  refine n_see_lay hl (by omega) ln.toNat 0 I0 _ (by omega) rfl hp' (fun j hj => by omega) fun I1 b3 hF1 hg => ?_
  rw [gb_231_130]
  refine K1 (by unfold gSee; rw [decide_eq_true hw, w3]; rfl) _ _ (fun k i j hn => by rw [u_ne (by omega), hF1 _ _ _ (by omega), hF _ _ _ (by omega)]) (by rw [u_ne (by omega), hF1 _ _ _ (by omega)]; exact hI) ⟨by rw [u_eq]; exact q1, fun k hk => by rw [u_k (by decide)]; exact hg k (by omega)⟩ q1
