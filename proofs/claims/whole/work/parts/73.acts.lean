/-! The class: changes, hours, hours by the seed, undo, the seed. -/
variable {d S : Nat} {h : Nat × Option gNm} {I : Nat → Nat → Nat → Int32} {J : Nat → Nat → Nat → Int64} {Q : Option gV → gW → Prop}
theorem m_runKept {x1 x2 x3 : Option gV} {C : gCo} {t : gSt} {lg : Nat → Int} {nl : Int} {ac : List (gSt × Int)} (hc : cOk C) (hC : kCo I h.1 C) (hto : tOk C t) (hS : kS I 0 t) (hp : kPa I lg nl ac) (hn : 0 ≤ nl ∧ (gMovb C t = true → nl ≤ 98))
    (K : ∀ I' (x : Int32), (∀ k i j, ¬ ((k = 14 ∧ i = h.1 ∧ (j = 3 ∨ j = 4 ∨ j = 5 ∨ j = 6)) ∨ (k = 16 ∧ i = h.1) ∨ (k = 18 ∧ i = h.1) ∨ (k = 21 ∧ i = 0) ∨ (k = 22 ∧ i = 0) ∨ (k = 28 ∧ i = 0) ∨ (k = 29 ∧ i = 0)) → I' k i j = I k i j) → kS I' 0 (gHour C t) → kPa I' (gLgH C t lg nl) (gNlH C t nl) ac → x.toInt = gMiles C t → Q (some (.inl x)) (gwd S I' J h)) : (gq (d + 5) 154 0 [some (.inr (.inr (some (10, 0)))), x1, x2, x3] [] (gwd S I J h) Q) := by
  have hmi := gMiles_r hc hto
  have s0 := hS.1 0 (by decide)
  have s3 := hS.1 3 (by decide)
  rw [gb_154_0]
  refine m_runHour hc hC hto hS fun I1 x hF1 hS1 hx => ?_
  have hp1 : kPa I1 lg nl ac := kPa_congr hp fun k j hk => hF1 _ _ _ (by omega)
  rw [Option.toList_some, List.singleton_append, gb_154_31]
  by_cases w : gMovb C t = true
  · have h0 := hmi.2.2 w
    have g1 := hS1.1 1 (by decide)
    have g2 := hS1.1 2 (by decide)
    rw [if_neg (by rw [z_le, z_0]; omega), gb_154_36]
    refine m_keep hp1 ⟨hn.1, hn.2 w⟩ fun I2 hF2 hp2 => ?_
    rw [Option.toList_none, List.nil_append, gb_154_59]
    rw [s0, s3, g1, g2] at hp2
    refine K I2 x (fun k i j hn => by rw [hF2 _ _ _ (by omega), hF1 _ _ _ (by omega)]) (kS_congr hS1 (fun j => hF2 _ _ _ (by omega)) (fun j => hF2 _ _ _ (by omega))) ?_ hx
    unfold gLgH gNlH
    rw [if_pos w, if_pos w]
    have e1 : gHour C t 1 = gRan C t 1 := by unfold gHour; rw [if_pos w, sUp_ne (by decide)]
    have e2 : gHour C t 2 = gRan C t 2 := by unfold gHour; rw [if_pos w, sUp_ne (by decide)]
    rw [e1, e2] at hp2
    exact hp2
  · have h0 : gMiles C t = 0 := by unfold gMiles; rw [if_neg w]
    rw [if_pos (by rw [z_le, z_0]; omega), gb_154_59]
    refine K I1 x (fun k i j hn => hF1 _ _ _ (by omega)) hS1 ?_ hx
    unfold gLgH gNlH
    rw [if_neg w, if_neg w]
    exact hp1
theorem m_hours_loop {C : gCo} {ac : List (gSt × Int)} {a1 : Int32} (hc : cOk C) : ∀ (n : Nat) (k : Int) (t : gSt) (lg : Nat → Int) (nl r : Int) (I : Nat → Nat → Nat → Int32) (a2 a3 : Int32), a1.toInt = k + n → 0 ≤ k → k + n ≤ 100 → a3.toInt = k → kCo I h.1 C → tOk C t → t 0 + n ≤ 999 → kS I 0 t → 0 ≤ nl → nl ≤ t 1 → kPa I lg nl ac → a2.toInt = r → 0 ≤ r → r ≤ 9 * k →
    (∀ I' (x : Int32), (∀ k i j, ¬ ((k = 14 ∧ i = h.1 ∧ (j = 3 ∨ j = 4 ∨ j = 5 ∨ j = 6)) ∨ (k = 16 ∧ i = h.1) ∨ (k = 18 ∧ i = h.1) ∨ (k = 21 ∧ i = 0) ∨ (k = 22 ∧ i = 0) ∨ (k = 28 ∧ i = 0) ∨ (k = 29 ∧ i = 0)) → I' k i j = I k i j) → kS I' 0 (gHrs C n t lg nl r).1 → kPa I' (gHrs C n t lg nl r).2.1 (gHrs C n t lg nl r).2.2.1 ac → x.toInt = (gHrs C n t lg nl r).2.2.2 → Q (some (.inl x)) (gwd S I' J h)) → (gq (d + 6) 139 32 [some (.inr (.inr (some (10, 0)))), some (.inl (a1)), some (.inl (a2)), some (.inl (a3))] [] (gwd S I J h) Q)
  | 0, k, t, lg, nl, r, I, a2, a3, h1, hk, hk1, h3, hC, hto, h9, hS, hn0, hn1, hp, h2, hr0, hr1, K => by
    rw [gb_139_32, if_pos (by rw [z_le]; omega), gb_139_50]
    exact K I _ (fun _ _ _ _ => rfl) hS hp h2
  | n + 1, k, t, lg, nl, r, I, a2, a3, h1, hk, hk1, h3, hC, hto, h9, hS, hn0, hn1, hp, h2, hr0, hr1, K => by
    have e1 : (1 : Int32).toInt = 1 := rfl
    have hnl := hour_nl hc hto hn0 hn1
    have hmi := gMiles_r hc hto
    rw [gb_139_32, if_neg (by rw [z_le]; omega), gb_139_37]
    refine m_runKept hc hC hto hS hp ⟨hn0, hnl.2.2⟩ fun I1 x hF1 hS1 hp1 hx => ?_
    rw [Option.toList_some, List.singleton_append, gb_139_42]
    exact m_hours_loop hc n (k + 1) (gHour C t) (gLgH C t lg nl) (gNlH C t nl) (r + gMiles C t) I1 _ _ (by omega) (by omega) (by omega) (by rw [z_add (by omega) (by omega), h3, e1]) (kCo_congr hC fun k j hk => hF1 _ _ _ (by omega)) (tOk_hour hc hto) (by rw [gHour_0]; omega) hS1 (by omega) hnl.2.1 hp1 (by rw [z_add (by omega) (by omega), h2, hx]) (by omega) (by omega) fun I2 y hF2 g1 g2 g3 => K I2 y (fun k i j hn => by rw [hF2 _ _ _ hn, hF1 _ _ _ hn]) g1 g2 g3
theorem m_hours {a1 : Int32} {x2 x3 : Option gV} {C : gCo} {t : gSt} {lg : Nat → Int} {nl : Int} {ac : List (gSt × Int)} {rf : Nat → Int32} (hc : cOk C) (h10 : I 10 0 10 ≠ 0) (hC : kCo I h.1 C) (hto : tOk C t) (h9 : t 0 ≤ 999) (hS : kS I 0 t) (hn0 : 0 ≤ nl) (hn1 : nl ≤ t 1) (hp : kPa I lg nl ac) (hf : kRf I rf)
    (K0 : ¬ (1 ≤ a1.toInt ∧ a1.toInt ≤ 100 ∧ t 0 + a1.toInt ≤ 999) → ∀ (I' : Nat → Nat → Nat → Int32), (∀ k i j, ¬ ((k = 33 ∧ i = 0)) → I' k i j = I k i j) → kRf I' (gRef rf 3) → Q (some (.inl (Int32.ofInt (-1)))) (gwd S I' J h))
    (K1 : (1 ≤ a1.toInt ∧ a1.toInt ≤ 100 ∧ t 0 + a1.toInt ≤ 999) → ∀ I' (x : Int32), (∀ k i j, ¬ ((k = 14 ∧ i = h.1 ∧ (j = 3 ∨ j = 4 ∨ j = 5 ∨ j = 6)) ∨ (k = 16 ∧ i = h.1) ∨ (k = 18 ∧ i = h.1) ∨ (k = 21 ∧ i = 0) ∨ (k = 22 ∧ i = 0) ∨ (k = 28 ∧ i = 0) ∨ (k = 29 ∧ i = 0) ∨ (k = 30 ∧ i = 0)) → I' k i j = I k i j) → kS I' 0 (gHrs C a1.toInt.toNat t lg nl 0).1 → kPa I' (gHrs C a1.toInt.toNat t lg nl 0).2.1 (gHrs C a1.toInt.toNat t lg nl 0).2.2.1 ((t, nl) :: ac.take 19) → x.toInt = (gHrs C a1.toInt.toNat t lg nl 0).2.2.2 → Q (some (.inl x)) (gwd S I' J h)) : (gq (d + 6) 139 0 [some (.inr (.inr (some (10, 0)))), some (.inl (a1)), x2, x3] [] (gwd S I J h) Q) := by
  have e1 : (1 : Int32).toInt = 1 := rfl
  have e100 : (100 : Int32).toInt = 100 := rfl
  rw [gb_139_0]
  refine m_isAhead h10 hS hto.1 fun x hx => ?_
  rw [Option.toList_some, List.singleton_append, gb_139_8, hx, e1, e100]
  by_cases w : 1 ≤ a1.toInt ∧ a1.toInt ≤ 100 ∧ t 0 + a1.toInt ≤ 999
  case neg =>
    rw [if_pos (zb_neg w), gb_139_11]
    refine m_refuse (w := 3) rfl (by decide) hf fun I1 hF1 hf1 => ?_
    rw [Option.toList_some, List.singleton_append, gb_139_16]
    exact K0 w I1 hF1 hf1
  rw [if_neg (by rw [zb_pos w]; decide), gb_139_17]
  refine m_remember hS hp fun I1 hF1 hp1 => ?_
  rw [Option.toList_none, List.nil_append, gb_139_28]
  exact m_hours_loop hc a1.toInt.toNat 0 t lg nl 0 I1 _ _ (by omega) (by omega) (by omega) rfl (kCo_congr hC fun k j hk => hF1 _ _ _ (by omega)) hto (by omega) (kS_congr hS (fun j => hF1 _ _ _ (by omega)) (fun j => hF1 _ _ _ (by omega))) hn0 hn1 hp1 rfl (by omega) (by omega) fun I2 y hF2 g1 g2 g3 => K1 w I2 y (fun k i j hn => by rw [hF2 _ _ _ (by omega), hF1 _ _ _ (by omega)]) g1 g2 g3
theorem m_chance_loop {C : gCo} {ac : List (gSt × Int)} {a1 : Int32} (hc : cOk C) : ∀ (n : Nat) (k : Int) (t : gSt) (lg : Nat → Int) (nl dr r : Int) (I : Nat → Nat → Nat → Int32) (J : Nat → Nat → Nat → Int64) (a2 a3 : Int32), a1.toInt = k + n → 0 ≤ k → k + n ≤ 100 → a3.toInt = k → kCo I h.1 C → tOk C t → t 0 + n ≤ 999 → kS I 0 t → 0 ≤ nl → nl ≤ t 1 → kPa I lg nl ac → (J 10 0 11).toInt = dr → 0 ≤ dr → dr < 2147483648 → a2.toInt = r → 0 ≤ r → r ≤ k →
    (∀ I' (J' : Nat → Nat → Nat → Int64) (x : Int32), (∀ k i j, ¬ ((k = 14 ∧ i = h.1 ∧ (j = 3 ∨ j = 4 ∨ j = 5 ∨ j = 6)) ∨ (k = 16 ∧ i = h.1) ∨ (k = 18 ∧ i = h.1) ∨ (k = 21 ∧ i = 0) ∨ (k = 22 ∧ i = 0) ∨ (k = 28 ∧ i = 0) ∨ (k = 29 ∧ i = 0)) → I' k i j = I k i j) → (∀ k i j, ¬ (k = 10 ∧ i = 0 ∧ j = 11) → J' k i j = J k i j) → kS I' 0 (gChn C n t lg nl dr r).1 → kPa I' (gChn C n t lg nl dr r).2.1 (gChn C n t lg nl dr r).2.2.1 ac → (J' 10 0 11).toInt = (gChn C n t lg nl dr r).2.2.2.1 → x.toInt = (gChn C n t lg nl dr r).2.2.2.2 → Q (some (.inl x)) (gwd S I' J' h)) → (gq (d + 6) 140 32 [some (.inr (.inr (some (10, 0)))), some (.inl (a1)), some (.inl (a2)), some (.inl (a3))] [] (gwd S I J h) Q)
  | 0, k, t, lg, nl, dr, r, I, J, a2, a3, h1, hk, hk1, h3, hC, hto, h9, hS, hn0, hn1, hp, hJ, hd0, hd1, har, hr0, hr1, K => by
    rw [gb_140_32, if_pos (by rw [z_le]; omega), gb_140_92]
    exact K I J _ (fun _ _ _ _ => rfl) (fun _ _ _ _ => rfl) hS hp hJ har
  | n + 1, k, t, lg, nl, dr, r, I, J, a2, a3, h1, hk, hk1, h3, hC, hto, h9, hS, hn0, hn1, hp, hJ, hd0, hd1, har, hr0, hr1, K => by
    have e1 : (1 : Int32).toInt = 1 := rfl
    have e100 : (100 : Int32).toInt = 100 := rfl
    have e10 : (10 : Int32).toInt = 10 := rfl
    have rd1 := gDr_r dr
    have rd2 := gDr_r (gDr dr)
    have rv := gDv_r (gDr dr) (show (0 : Int) < 10 by decide)
    have r2 := hto.2.2.1
    have c5 := hC.1 5 (by decide)
    have s2 := hS.1 2 (by decide)
    rw [gb_140_32, if_neg (by rw [z_le]; omega), gb_140_37]
    refine m_drawOf (dr := dr) (m := 100) hJ hd0 hd1 e100 (by omega) fun J1 x hJ1 hx1 hx => ?_
    rw [Option.toList_some, List.singleton_append, gb_140_43]
    have go : ∀ (t1 : gSt) (dr1 r1 : Int) (I1 : Nat → Nat → Nat → Int32) (J1 : Nat → Nat → Nat → Int64) (b2 : Int32), tOk C t1 → t1 0 = t 0 → t1 1 = t 1 → (∀ k i j, ¬ ((k = 21 ∧ i = 0 ∧ j = 2)) → I1 k i j = I k i j) → (∀ k i j, ¬ (k = 10 ∧ i = 0 ∧ j = 11) → J1 k i j = J k i j) → kS I1 0 t1 → (J1 10 0 11).toInt = dr1 → 0 ≤ dr1 → dr1 < 2147483648 → b2.toInt = r1 → 0 ≤ r1 → r1 ≤ k + 1 → gChn C (n + 1) t lg nl dr r = gChn C n (gHour C t1) (gLgH C t1 lg nl) (gNlH C t1 nl) dr1 r1 → (gq (d + 6) 140 81 [some (.inr (.inr (some (10, 0)))), some (.inl (a1)), some (.inl (b2)), some (.inl (a3))] [] (gwd S I1 J1 h) Q) := fun t1 dr1 r1 I1 J1 b2 hto1 t0 t1' hF1 hFJ1 hS1 hJ1 hd10 hd11 hb hr10 hr11 e => by
      have hnl := hour_nl hc hto1 hn0 (by omega : nl ≤ t1 1)
      rw [gb_140_81]
      refine m_runKept hc (kCo_congr hC fun k j hk => hF1 _ _ _ (by omega)) hto1 hS1 (kPa_congr hp fun k j hk => hF1 _ _ _ (by omega)) ⟨hn0, hnl.2.2⟩ fun I2 y hF2 hS2 hp2 hy => ?_
      rw [Option.toList_some, List.singleton_append, gb_140_85]
      rw [e] at K
      exact m_chance_loop hc n (k + 1) (gHour C t1) (gLgH C t1 lg nl) (gNlH C t1 nl) dr1 r1 I2 J1 _ _ (by omega) (by omega) (by omega) (by rw [z_add (by omega) (by omega), h3, e1]) (kCo_congr hC fun k j hk => by rw [hF2 _ _ _ (by omega), hF1 _ _ _ (by omega)]) (tOk_hour hc hto1) (by rw [gHour_0]; omega) hS2 (by omega) hnl.2.1 hp2 hJ1 hd10 hd11 hb hr10 hr11 fun I3 J3 z hF3 hFJ3 g1 g2 g3 g4 => K I3 J3 z (fun k i j hn => by rw [hF3 _ _ _ hn, hF2 _ _ _ hn, hF1 _ _ _ (by omega)]) (fun k i j hn => by rw [hFJ3 _ _ _ hn, hFJ1 _ _ _ hn]) g1 g2 g3 g4
    by_cases w : gDv dr 100 < C.1 5
    · rw [if_neg (by rw [z_le]; omega), gb_140_53]
      refine m_drawOf (dr := gDr dr) (m := 10) hx1 rd1.1 rd1.2 e10 (by omega) fun J2 y hJ2 hy1 hy => ?_
      rw [Option.toList_some, List.singleton_append, gb_140_74, m_max, Option.toList_some, List.singleton_append, gb_140_78]
      have hv : (zmax 0 (I 21 0 2 - y)).toInt = max 0 (t 2 - gDv (gDr dr) 10) := by rw [zmax_i, z_sub (by omega) (by omega), s2, hy, z_0]
      exact go (sUp t 2 (max 0 (t 2 - gDv (gDr dr) 10))) _ (r + 1) _ J2 _ (tOk_up2 hto _ (by omega)) (sUp_ne (by decide)) (sUp_ne (by decide)) (fun k i j hn => u_ne (by omega)) (fun k i j hn => by rw [hJ2 _ _ _ (by omega), hJ1 _ _ _ (by omega)]) (kS_up2 hS hv) hy1 rd2.1 rd2.2 (by rw [z_add (by omega) (by omega), har, e1]) (by omega) (by omega) (by rw [gChn, if_pos w])
    · rw [if_pos (by rw [z_le]; omega)]
      exact go t _ r I J1 _ hto rfl rfl (fun _ _ _ _ => rfl) (fun k i j hn => by rw [hJ1 _ _ _ (by omega)]) hS hx1 rd1.1 rd1.2 har (by omega) (by omega) (by rw [gChn, if_neg w])
theorem m_chance {a1 : Int32} {x2 x3 : Option gV} {C : gCo} {t : gSt} {lg : Nat → Int} {nl dr : Int} {ac : List (gSt × Int)} {rf : Nat → Int32} (hc : cOk C) (h10 : I 10 0 10 ≠ 0) (hC : kCo I h.1 C) (hto : tOk C t) (h9 : t 0 ≤ 999) (hS : kS I 0 t) (hn0 : 0 ≤ nl) (hn1 : nl ≤ t 1) (hp : kPa I lg nl ac) (hf : kRf I rf) (hJ : (J 10 0 11).toInt = dr) (hd0 : 0 ≤ dr) (hd1 : dr < 2147483648)
    (K0 : ¬ (1 ≤ a1.toInt ∧ a1.toInt ≤ 100 ∧ t 0 + a1.toInt ≤ 999) → ∀ (I' : Nat → Nat → Nat → Int32), (∀ k i j, ¬ ((k = 33 ∧ i = 0)) → I' k i j = I k i j) → kRf I' (gRef rf 3) → Q (some (.inl (Int32.ofInt (-1)))) (gwd S I' J h))
    (K1 : (1 ≤ a1.toInt ∧ a1.toInt ≤ 100 ∧ t 0 + a1.toInt ≤ 999) → ∀ I' (J' : Nat → Nat → Nat → Int64) (x : Int32), (∀ k i j, ¬ ((k = 14 ∧ i = h.1 ∧ (j = 3 ∨ j = 4 ∨ j = 5 ∨ j = 6)) ∨ (k = 16 ∧ i = h.1) ∨ (k = 18 ∧ i = h.1) ∨ (k = 21 ∧ i = 0) ∨ (k = 22 ∧ i = 0) ∨ (k = 28 ∧ i = 0) ∨ (k = 29 ∧ i = 0) ∨ (k = 30 ∧ i = 0)) → I' k i j = I k i j) → (∀ k i j, ¬ (k = 10 ∧ i = 0 ∧ j = 11) → J' k i j = J k i j) → kS I' 0 (gChn C a1.toInt.toNat t lg nl dr 0).1 → kPa I' (gChn C a1.toInt.toNat t lg nl dr 0).2.1 (gChn C a1.toInt.toNat t lg nl dr 0).2.2.1 ((t, nl) :: ac.take 19) → (J' 10 0 11).toInt = (gChn C a1.toInt.toNat t lg nl dr 0).2.2.2.1 → x.toInt = (gChn C a1.toInt.toNat t lg nl dr 0).2.2.2.2 → Q (some (.inl x)) (gwd S I' J' h)) : (gq (d + 6) 140 0 [some (.inr (.inr (some (10, 0)))), some (.inl (a1)), x2, x3] [] (gwd S I J h) Q) := by
  have e1 : (1 : Int32).toInt = 1 := rfl
  have e100 : (100 : Int32).toInt = 100 := rfl
  rw [gb_140_0]
  refine m_isAhead h10 hS hto.1 fun x hx => ?_
  rw [Option.toList_some, List.singleton_append, gb_140_8, hx, e1, e100]
  by_cases w : 1 ≤ a1.toInt ∧ a1.toInt ≤ 100 ∧ t 0 + a1.toInt ≤ 999
  case neg =>
    rw [if_pos (zb_neg w), gb_140_11]
    refine m_refuse (w := 3) rfl (by decide) hf fun I1 hF1 hf1 => ?_
    rw [Option.toList_some, List.singleton_append, gb_140_16]
    exact K0 w I1 hF1 hf1
  rw [if_neg (by rw [zb_pos w]; decide), gb_140_17]
  refine m_remember hS hp fun I1 hF1 hp1 => ?_
  rw [Option.toList_none, List.nil_append, gb_140_28]
  exact m_chance_loop hc a1.toInt.toNat 0 t lg nl dr 0 I1 J _ _ (by omega) (by omega) (by omega) rfl (kCo_congr hC fun k j hk => hF1 _ _ _ (by omega)) hto (by omega) (kS_congr hS (fun j => hF1 _ _ _ (by omega)) (fun j => hF1 _ _ _ (by omega))) hn0 hn1 hp1 hJ hd0 hd1 rfl (by omega) (by omega) fun I2 J2 y hF2 hJ2 g1 g2 g3 g4 => K1 w I2 J2 y (fun k i j hn => by rw [hF2 _ _ _ (by omega), hF1 _ _ _ (by omega)]) hJ2 g1 g2 g3 g4
theorem m_undo {lg : Nat → Int} {nl : Int} {ac : List (gSt × Int)} {rf : Nat → Int32} (hp : kPa I lg nl ac) (hle : ∀ a ∈ ac, a.2 ≤ nl) (hf : kRf I rf) (K0 : ac = [] → ∀ (I' : Nat → Nat → Nat → Int32), (∀ k i j, ¬ ((k = 33 ∧ i = 0)) → I' k i j = I k i j) → kRf I' (gRef rf 4) → Q (some (.inl 0)) (gwd S I' J h))
    (K : ∀ (I' : Nat → Nat → Nat → Int32) t l r, ac = (t, l) :: r → (∀ k i j, ¬ ((k = 28 ∧ i = 0) ∨ (k = 21 ∧ i = 0) ∨ (k = 22 ∧ i = 0)) → I' k i j = I k i j) → kS I' 0 t → kPa I' lg l r → Q (some (.inl 1)) (gwd S I' J h)) : (gq (d + 2) 141 0 [some (.inr (.inr (some (10, 0))))] [] (gwd S I J h) Q) := by
  rw [gb_141_0]
  refine m_goBack hp hle (fun e => ?_) fun I1 t l r e hF1 hS1 hp1 => ?_
  · rw [Option.toList_some, List.singleton_append, gb_141_11, if_pos rfl, gb_141_14]
    refine m_refuseB (w := 4) rfl (by decide) hf fun I1 hF1 hf1 => ?_
    rw [Option.toList_some, List.singleton_append, gb_141_19, if_pos rfl, gb_141_26, gb_141_27, g_t0, true_and]
    exact K0 e I1 hF1 hf1
  · rw [Option.toList_some, List.singleton_append, gb_141_11, if_neg (by decide), gb_141_22, gb_141_27, g_t1, true_and]
    exact K I1 t l r e (fun k i j hn => hF1 _ _ _ (by omega)) hS1 hp1
theorem m_seed {a1 : Int32} {rf : Nat → Int32} (hf : kRf I rf) (K0 : a1.toInt < 0 → ∀ (I' : Nat → Nat → Nat → Int32), (∀ k i j, ¬ ((k = 33 ∧ i = 0)) → I' k i j = I k i j) → kRf I' (gRef rf 5) → Q (some (.inl 0)) (gwd S I' J h))
    (K1 : 0 ≤ a1.toInt → ∀ (J' : Nat → Nat → Nat → Int64), (∀ k i j, ¬ (k = 10 ∧ i = 0 ∧ j = 11) → J' k i j = J k i j) → (J' 10 0 11).toInt = a1.toInt → Q (some (.inl 1)) (gwd S I J' h)) : (gq (d + 2) 142 0 [some (.inr (.inr (some (10, 0)))), some (.inl (a1))] [] (gwd S I J h) Q) := by
  rw [gb_142_0]
  by_cases w : 0 ≤ a1.toInt
  · rw [if_pos (by rw [z_le, z_0]; exact w), gb_142_10]
    exact K1 w _ (fun k i j hn => u_ne hn) (by rw [u_eq, z_64])
  · rw [if_neg (by rw [z_le, z_0]; exact w), gb_142_4]
    refine m_refuseB (w := 5) rfl (by decide) hf fun I1 hF1 hf1 => ?_
    rw [Option.toList_some, List.singleton_append, gb_142_9, g_t0, true_and]
    exact K0 (by omega) I1 hF1 hf1
