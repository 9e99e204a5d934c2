/-! What hours, changes and images keep of a state. -/
variable {C : gCo} {t : gSt}
theorem tHd_hour (hh : tHd t) : tHd (gHour C t) := by
  unfold gHour
  by_cases hm : gMovb C t = true
  · rw [if_pos hm]
    refine tHd_upk ?_ (Or.inl rfl)
    have hmv := gMovb_iff.mp hm
    have e3 : gRan C t 3 = if (gGoal C t).2 = -1 then t 3 else (gGoal C t).2 := by unfold gRan; rw [sUp_ne (by decide), sUp_eq]
    have e1 : gRan C t 1 = (gGoal C t).1 := by unfold gRan; rw [sUp_ne (by decide), sUp_ne (by decide), sUp_eq]
    have em : ∀ b, gRan C t (10 + b) = if 10 + b = 10 + (t 3).toNat then (gGoal C t).1 else t (10 + b) := fun b => by
      unfold gRan
      rw [sUp_ne (by omega), sUp_ne (by omega), sUp_ne (by omega), sUp_at]
      split
      · rfl
      · rw [sUp_ne (by omega)]
    have hs := (@gScan_r C t (min (t 1 + C.1 (20 + (t 3).toNat)) (C.1 1) - t 1).toNat (t 1)).2.2.2
    have hs' : (gGoal C t).2 = -1 ∨ (gGoal C t).2 = gTaker C t (gGoal C t).1 := hs
    have ht := @gTaker_r C t (gGoal C t).1
    intro h3
    rw [e1, em]
    rw [e3] at h3 ⊢
    by_cases q : (gGoal C t).2 = -1
    · rw [if_pos q, if_pos rfl]
    · rw [if_neg q] at h3 ⊢
      rcases hs' with e | e
      · exact absurd e q
      have h4 := ht.2 (by rw [← e]; exact q)
      have h5 := h4.2.2.2
      rw [← e] at h5
      unfold gCan at h5
      simp only [Bool.and_eq_true, decide_eq_true_eq] at h5
      rw [if_neg (by omega)]
      exact h5.2.2.1
  · rw [if_neg hm]
    exact tHd_upk hh (Or.inl rfl)
/-- a state that calls come to -/
def sOk (C : gCo) (t : gSt) : Prop := tOk C t ∧ t 0 ≤ 999 ∧ tHd t ∧ tPs C t
theorem sOk_hour (hc : cOk C) (h : sOk C t) : sOk C (gHour C t) := ⟨tOk_hour hc h.1, by rw [gHour_0]; omega, tHd_hour h.2.2.1, tPs_hour h.2.2.2⟩
theorem sOk_up2 (h : sOk C t) (x : Int) (hx : 0 ≤ x ∧ x ≤ 99) : sOk C (sUp t 2 x) := ⟨tOk_up2 h.1 x hx, by rw [sUp_ne (by decide)]; exact h.2.1, tHd_upk h.2.2.1 (by decide), tPs_upk h.2.2.2 (by decide)⟩
theorem sOk_up4 (h : sOk C t) (x : Int) (hx : 0 ≤ x ∧ x < 256) : sOk C (sUp t 4 x) := ⟨tOk_up4 h.1 x hx, by rw [sUp_ne (by decide)]; exact h.2.1, tHd_upk h.2.2.1 (by decide), tPs_upk h.2.2.2 (by decide)⟩
theorem sOk_upm (h : sOk C t) (k : Nat) (x : Int) (hk : (k : Int) ≠ t 3) (hx : 0 ≤ x ∧ x ≤ C.1 1) : sOk C (sUp t (10 + k) x) := ⟨tOk_upm h.1 k x hx, by rw [sUp_ne (by omega)]; exact h.2.1, tHd_upm h.2.2.1 hk, tPs_upk h.2.2.2 (by omega)⟩
theorem sOk_beg (hc : cOk C) : sOk C (gBeg C) := ⟨gBeg_ok hc, by show (0 : Int) ≤ 999; decide, gBeg_hd hc, gBeg_ps⟩
theorem gHrs_ok (hc : cOk C) : ∀ (n : Nat) (t : gSt) (lg : Nat → Int) (nl r : Int), sOk C t → 0 ≤ nl → nl ≤ t 1 → sOk C (gHrs C n t lg nl r).1 ∧ nl ≤ (gHrs C n t lg nl r).2.2.1 ∧ (gHrs C n t lg nl r).2.2.1 ≤ (gHrs C n t lg nl r).1 1
  | 0, t, lg, nl, r, h, h0, h1 => ⟨h, Int.le_refl _, h1⟩
  | n + 1, t, lg, nl, r, h, h0, h1 => by
    have hn := hour_nl (nl := nl) hc h.1 h0 h1
    have ih := gHrs_ok hc n (gHour C t) (gLgH C t lg nl) (gNlH C t nl) (r + gMiles C t) (sOk_hour hc h) (by omega) hn.2.1
    show sOk C (gHrs C n (gHour C t) (gLgH C t lg nl) (gNlH C t nl) (r + gMiles C t)).1 ∧ nl ≤ (gHrs C n (gHour C t) (gLgH C t lg nl) (gNlH C t nl) (r + gMiles C t)).2.2.1 ∧ (gHrs C n (gHour C t) (gLgH C t lg nl) (gNlH C t nl) (r + gMiles C t)).2.2.1 ≤ (gHrs C n (gHour C t) (gLgH C t lg nl) (gNlH C t nl) (r + gMiles C t)).1 1
    exact ⟨ih.1, by omega, ih.2.2⟩
/-- what hours by the seed come to is in order -/
def cnOk (C : gCo) (nl : Int) (x : gSt × (Nat → Int) × Int × Int × Int) : Prop := sOk C x.1 ∧ nl ≤ x.2.2.1 ∧ x.2.2.1 ≤ x.1 1 ∧ 0 ≤ x.2.2.2.1 ∧ x.2.2.2.1 < 2147483648
theorem gChn_ok (hc : cOk C) : ∀ (n : Nat) (t : gSt) (lg : Nat → Int) (nl dr r : Int), sOk C t → 0 ≤ nl → nl ≤ t 1 → 0 ≤ dr → dr < 2147483648 → cnOk C nl (gChn C n t lg nl dr r)
  | 0, t, lg, nl, dr, r, h, h0, h1, d0, d1 => ⟨h, Int.le_refl _, h1, d0, d1⟩
  | n + 1, t, lg, nl, dr, r, h, h0, h1, d0, d1 => by
    unfold gChn
    split
    · have r1 := gDv_r (gDr dr) (m := 10) (by decide)
      have r2 := h.1.2.2.1
      have hu := sOk_up2 h (max 0 (t 2 - gDv (gDr dr) 10)) (by omega)
      have hn := hour_nl (nl := nl) hc hu.1 h0 (by rw [sUp_ne (by decide)]; exact h1)
      have q := gDr_r (gDr dr)
      have ih := gChn_ok hc n _ (gLgH C (sUp t 2 (max 0 (t 2 - gDv (gDr dr) 10))) lg nl) _ (gDr (gDr dr)) (r + 1) (sOk_hour hc hu) (by omega) hn.2.1 q.1 q.2
      exact ⟨ih.1, Int.le_trans hn.1 ih.2.1, ih.2.2.1, ih.2.2.2.1, ih.2.2.2.2⟩
    · have hn := hour_nl (nl := nl) hc h.1 h0 h1
      have q := gDr_r dr
      have ih := gChn_ok hc n _ (gLgH C t lg nl) _ (gDr dr) r (sOk_hour hc h) (by omega) hn.2.1 q.1 q.2
      exact ⟨ih.1, Int.le_trans hn.1 ih.2.1, ih.2.2.1, ih.2.2.2.1, ih.2.2.2.2⟩
theorem sOk_on {tp : Nat → Int} {n : Nat} (hc : cOk C) (h : sOk C t) (ho : tpOk tp n) (hi : gIsOf C tp n = true) : sOk C (gOn C tp t) := by
  obtain ⟨hl, _, h1, h2, h3, h4, h5, h6⟩ := gIsOf_iff.mp hi
  have r1 := hc.2.1
  have r2 := hc.2.2.1
  have r3 := hc.2.2.2.1
  have r := ho.2
  have q0 := r 0 (by omega)
  have q1 := r 1 (by omega)
  have q2 := r 2 (by omega)
  have q3 := r 3 (by omega)
  have q4 := r 4 (by omega)
  have e0 : gOn C tp t 0 = 256 * tp 0 + tp 1 := rfl
  have e1 : gOn C tp t 1 = tp 2 := rfl
  have e2 : gOn C tp t 2 = tp 3 := rfl
  have e3 : gOn C tp t 3 = if C.1 2 = 0 then -1 else tp 4 := rfl
  have e4 : gOn C tp t 4 = gMsk (fun b => tp (6 + 2 * b)) (C.1 2).toNat 0 0 := rfl
  have e5 : gOn C tp t 5 = gMsk (fun b => tp (5 + 2 * (C.1 2).toNat + b)) (C.1 3).toNat 0 0 := rfl
  have em : ∀ b : Nat, (b : Int) < C.1 2 → gOn C tp t (10 + b) = tp (5 + 2 * b) := fun b hb => by
    unfold gOn
    rw [if_neg (by omega), if_neg (by omega), if_neg (by omega), if_neg (by omega), if_neg (by omega), if_neg (by omega), if_pos (by omega), show 10 + b - 10 = b by omega]
  have hh : ¬ C.1 2 = 0 → tp 4 < C.1 2 ∧ tp (5 + 2 * (tp 4).toNat) = tp 2 := fun hz => by
    unfold gHold at h4
    rw [if_neg hz] at h4
    simp only [Bool.and_eq_true, decide_eq_true_eq] at h4
    exact ⟨h4.1, h4.2.1⟩
  have m4 := @gMsk_r (fun b => tp (6 + 2 * b)) (C.1 2).toNat 0 0 (by omega) (by omega) (by omega)
  have m5 := @gMsk_r (fun b => tp (5 + 2 * (C.1 2).toNat + b)) (C.1 3).toNat 0 0 (by omega) (by omega) (by omega)
  refine ⟨⟨by rw [e0]; omega, by rw [e1]; omega, by rw [e2]; omega, ?_, by rw [e4]; exact m4, by rw [e5]; exact m5, fun b hb => ?_⟩, by rw [e0]; omega, ?_, ?_⟩
  · rw [e3]
    split
    · omega
    · have := hh ‹_›; omega
  · rw [em b hb]
    have := gOnB_at h5 b (by omega) (by omega)
    have := r (5 + 2 * b) (by omega)
    omega
  · intro h0
    rw [e3] at h0 ⊢
    by_cases hz : C.1 2 = 0
    · rw [if_pos hz] at h0; omega
    · rw [if_neg hz] at h0 ⊢
      have := hh hz
      rw [em _ (by omega), e1]; exact this.2
  · intro b hb
    rw [e5, gMsk_bit] at hb
    simp only [Bool.or_eq_true, decide_eq_true_eq] at hb
    rcases hb with e | e
    · exact absurd e (by unfold gBit; simp)
    · omega
/-- acts that are kept -/
def acOk (C : gCo) : Int → List (gSt × Int) → Prop
  | _, [] => True
  | nl, x :: r => sOk C x.1 ∧ 0 ≤ x.2 ∧ x.2 ≤ nl ∧ x.2 ≤ x.1 1 ∧ acOk C x.2 r
theorem acOk_up {nl nl' : Int} : ∀ {ac : List (gSt × Int)}, acOk C nl ac → nl ≤ nl' → acOk C nl' ac
  | [], _, _ => trivial
  | x :: r, h, hle => ⟨h.1, h.2.1, Int.le_trans h.2.2.1 hle, h.2.2.2.1, h.2.2.2.2⟩
theorem acOk_take : ∀ {ac : List (gSt × Int)} {n : Nat} {nl : Int}, acOk C nl ac → acOk C nl (ac.take n)
  | _, 0, _, _ => trivial
  | [], _ + 1, _, _ => trivial
  | x :: r, n + 1, nl, h => ⟨h.1, h.2.1, h.2.2.1, h.2.2.2.1, acOk_take (ac := r) (n := n) h.2.2.2.2⟩
theorem acOk_le : ∀ {ac : List (gSt × Int)} {nl : Int}, acOk C nl ac → acLe nl ac
  | [], _, _ => fun x hx => by cases hx
  | y :: r, nl, h => fun x hx => by
    rcases List.mem_cons.mp hx with e | e
    · rw [e]; exact ⟨h.2.1, h.2.2.1⟩
    · have q := acOk_le (ac := r) h.2.2.2.2 x e
      exact ⟨q.1, Int.le_trans q.2 h.2.2.1⟩
theorem acOk_new {nl nl' : Int} {ac : List (gSt × Int)} (h : sOk C t) (h0 : 0 ≤ nl) (hle : nl ≤ nl') (h1 : nl ≤ t 1) (ha : acOk C nl ac) : acOk C nl' ((t, nl) :: ac.take 19) := ⟨h, h0, hle, h1, acOk_take ha⟩
variable {d S : Nat} {h : Nat × Option gNm} {I : Nat → Nat → Nat → Int32} {J : Nat → Nat → Nat → Int64} {Q : Option gV → gW → Prop}
/-! The class without a course refuses what changes. -/
theorem m_place0 {a1 a2 : Int32} {rf : Nat → Int32} (h10 : I 10 0 10 = 0) (hf : kRf I rf) (K0 : ∀ (I' : Nat → Nat → Nat → Int32), (∀ k i j, ¬ ((k = 33 ∧ i = 0)) → I' k i j = I k i j) → kRf I' (gRef rf 2) → Q (some (.inl 0)) (gwd S I' J h)) : (gq (d + 2) 136 0 [some (.inr (.inr (some (10, 0)))), some (.inl (a1)), some (.inl (a2))] [] (gwd S I J h) Q) := by
  rw [gb_136_0]
  refine m_waitsB0 h10 ?_
  rw [Option.toList_some, List.singleton_append, gb_136_5, if_pos rfl, gb_136_32]
  refine m_refuseB (w := 2) rfl (by decide) hf fun I1 hF1 hf1 => ?_
  rw [Option.toList_some, List.singleton_append, gb_136_37, g_t0, true_and]
  exact K0 I1 hF1 hf1
theorem m_aside0 {a1 a2 : Int32} {rf : Nat → Int32} (h10 : I 10 0 10 = 0) (hf : kRf I rf) (K0 : ∀ (I' : Nat → Nat → Nat → Int32), (∀ k i j, ¬ ((k = 33 ∧ i = 0)) → I' k i j = I k i j) → kRf I' (gRef rf 2) → Q (some (.inl 0)) (gwd S I' J h)) : (gq (d + 2) 137 0 [some (.inr (.inr (some (10, 0)))), some (.inl (a1)), some (.inl (a2))] [] (gwd S I J h) Q) := by
  rw [gb_137_0]
  refine m_waitsB0 h10 ?_
  rw [Option.toList_some, List.singleton_append, gb_137_5, if_pos rfl, gb_137_38]
  refine m_refuseB (w := 2) rfl (by decide) hf fun I1 hF1 hf1 => ?_
  rw [Option.toList_some, List.singleton_append, gb_137_43, g_t0, true_and]
  exact K0 I1 hF1 hf1
theorem m_kindle0 {a1 : Int32} {rf : Nat → Int32} (h10 : I 10 0 10 = 0) (hf : kRf I rf) (K0 : ∀ (I' : Nat → Nat → Nat → Int32), (∀ k i j, ¬ ((k = 33 ∧ i = 0)) → I' k i j = I k i j) → kRf I' (gRef rf 2) → Q (some (.inl 0)) (gwd S I' J h)) : (gq (d + 2) 138 0 [some (.inr (.inr (some (10, 0)))), some (.inl (a1))] [] (gwd S I J h) Q) := by
  rw [gb_138_0, if_pos h10, gb_138_28]
  refine m_refuseB (w := 2) rfl (by decide) hf fun I1 hF1 hf1 => ?_
  rw [Option.toList_some, List.singleton_append, gb_138_33, g_t0, true_and]
  exact K0 I1 hF1 hf1
theorem m_hours0 {a1 : Int32} {x2 x3 : Option gV} {rf : Nat → Int32} (h10 : I 10 0 10 = 0) (hf : kRf I rf) (K0 : ∀ (I' : Nat → Nat → Nat → Int32), (∀ k i j, ¬ ((k = 33 ∧ i = 0)) → I' k i j = I k i j) → kRf I' (gRef rf 3) → Q (some (.inl (Int32.ofInt (-1)))) (gwd S I' J h)) : (gq (d + 6) 139 0 [some (.inr (.inr (some (10, 0)))), some (.inl (a1)), x2, x3] [] (gwd S I J h) Q) := by
  rw [gb_139_0]
  refine m_isAhead0 h10 ?_
  rw [Option.toList_some, List.singleton_append, gb_139_8, if_pos rfl, gb_139_11]
  refine m_refuse (w := 3) rfl (by decide) hf fun I1 hF1 hf1 => ?_
  rw [Option.toList_some, List.singleton_append, gb_139_16]
  exact K0 I1 hF1 hf1
theorem m_chance0 {a1 : Int32} {x2 x3 : Option gV} {rf : Nat → Int32} (h10 : I 10 0 10 = 0) (hf : kRf I rf) (K0 : ∀ (I' : Nat → Nat → Nat → Int32), (∀ k i j, ¬ ((k = 33 ∧ i = 0)) → I' k i j = I k i j) → kRf I' (gRef rf 3) → Q (some (.inl (Int32.ofInt (-1)))) (gwd S I' J h)) : (gq (d + 6) 140 0 [some (.inr (.inr (some (10, 0)))), some (.inl (a1)), x2, x3] [] (gwd S I J h) Q) := by
  rw [gb_140_0]
  refine m_isAhead0 h10 ?_
  rw [Option.toList_some, List.singleton_append, gb_140_8, if_pos rfl, gb_140_11]
  refine m_refuse (w := 3) rfl (by decide) hf fun I1 hF1 hf1 => ?_
  rw [Option.toList_some, List.singleton_append, gb_140_16]
  exact K0 I1 hF1 hf1
