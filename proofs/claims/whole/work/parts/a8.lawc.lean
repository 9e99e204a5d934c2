/-! The law: a course is told. -/
variable {d S : Nat} {h : Nat × Option gNm} {I : Nat → Nat → Nat → Int32} {J : Nat → Nat → Nat → Int64} {Q : Option gV → gW → Prop}
theorem w_2 {a3 : Int32} (hI : gInv I J h) (K : ∀ (I' : Nat → Nat → Nat → Int32) (J' : Nat → Nat → Nat → Int64) (h' : Nat × Option gNm), gInv I' J' h' → (gq (d + 90) 0 953 [some (.inr (.inr (some (0, 0)))), some (.inr (.inr (some (10, 0)))), some (.inr (.inr (some (50, 0)))), some (.inl (a3))] [] (gwd S I' J' h') Q)) : (gq (d + 90) 0 262 [some (.inr (.inr (some (0, 0)))), some (.inr (.inr (some (10, 0)))), some (.inr (.inr (some (50, 0)))), some (.inl (a3))] [] (gwd S I J h) Q) := by
  have hI0 := hI
  obtain ⟨tp, n, rf, im, sz, f, p, dr, hob, hkb, hmb, hcs⟩ := hI
  have hx := kTb_tx hkb.1 hob.1 hkb.2.2.2.2.2.2.2
  have hn16 : n ≤ 1600 := by have := hob.1.1; omega
  have hg := hkb.2.2.2.2.2.1
  have hpa : ∃ lg nl ac, kPa I lg nl ac := by
    rcases hcs with ⟨C, t, lg, nl, ac, sn, rm, hok, hk, hm⟩ | ⟨lg, hk, hm⟩
    · exact ⟨lg, nl, ac, hk.2.2.2.1⟩
    · exact ⟨lg, 0, [], hk.2⟩
  have hnw : ∃ nw : Nat, nw < 20 ∧ (I 50 0 71).toInt = nw := by
    rcases hcs with ⟨C, t, lg, nl, ac, sn, rm, hok, hk, hm⟩ | ⟨lg, hk, hm⟩
    · obtain ⟨nw, h1, h2, _⟩ := hm.2.2.2.2.1.2.2; exact ⟨nw, h1, h2⟩
    · exact hm.2
  obtain ⟨lg, nl, ac, hpa⟩ := hpa
  obtain ⟨nw, hnw, h71⟩ := hnw
  have hB : ∀ j, j < n → 0 ≤ tp j ∧ tp j ≤ 255 := fun j hj => hob.1.2 j (by omega)
  rw [gb_0_262]
  refine m_courseP hx hkb.2.2.2.2.2.2.1 hg hpa hkb.2.1 (fun I1 f1 p1 w hF0 hf hp h01 hR1 => ?_) (fun I1 q x w hF0 hCo hE h10 hf hp h01 hS1 hP1 h203 hxv => ?_)
  · have hF1 : ∀ k i j, ¬ (k = 10 ∧ i = 0 ∧ (j = 12 ∨ j = 13) ∨ k = 11 ∧ i = 0 ∧ j = 1 ∨ k = 33 ∧ i = 0 ∨ k = 11 ∧ i = 0 ∧ 2 ≤ j ∧ j ≤ 7 ∨ k = 14 ∧ i = 1 - h.1 ∧ j = 2 ∨ k = 15 ∧ i = 1 - h.1 ∨ k = 17 ∧ i = 1 - h.1 ∨ 34 ≤ k ∧ k ≤ 41 ∧ i = 1 - h.1) → I1 k i j = I k i j := fun k i j hn => by
      have e : (if k = 10 ∧ i = 0 ∧ (j = 12 ∨ j = 13) ∨ k = 11 ∧ i = 0 ∧ j = 1 ∨ k = 33 ∧ i = 0 then I k i j else I1 k i j) = I k i j := hF0 k i j (by omega)
      rw [if_neg (by omega)] at e
      exact e
    have e1 : ∀ k i j, 50 ≤ k → I1 k i j = I k i j := fun k i j hk => hF1 _ _ _ (by omega)
    have b1 := mBs_k (J' := J) hmb e1 rfl
    rw [Option.toList_some, List.singleton_append, gb_0_266]
    refine n_course (C := cNil) (fun j hj => b1.1.2 j (by omega)) b1.1.1 hn16 hB b1.2.2.2.2.2.1 b1.2.1 (fun q e => by rw [w] at e; cases e) (fun I2 J2 f2 p2 w2 hF0 hJ2 h02 hf2 hp2 hR2 => ?_) (fun I2 J2 q y w2 => by rw [w] at w2; cases w2)
    have hF2 : ∀ k i j, ¬ (k = 50 ∧ i = 0 ∧ (j = 1 ∨ j = 3 ∨ j = 7 ∨ j = 8) ∨ k = 52 ∧ i = 0 ∨ i = 0 ∧ (k = 50 ∧ (j = 2 ∨ j = 4 ∨ j = 5 ∨ j = 6 ∨ j = 10 ∨ j = 38 ∨ j = 46 ∨ j = 47 ∨ j = 49 ∨ j = 99 ∨ j = 101 ∨ j = 102 ∨ j = 103) ∨ k = 68 ∨ k = 69 ∨ k = 54 ∧ j < 5 ∨ k = 56 ∧ j < 16 ∨ k = 57 ∧ j < 16 ∨ k = 58 ∧ j < 3 ∨ k = 59 ∧ j < 3 ∨ k = 60 ∧ j < 1600)) → I2 k i j = I1 k i j := fun k i j hn => by
      have e : (if k = 50 ∧ i = 0 ∧ (j = 1 ∨ j = 3 ∨ j = 7 ∨ j = 8) ∨ k = 52 ∧ i = 0 then I1 k i j else I2 k i j) = I1 k i j := hF0 k i j (by omega)
      rw [if_neg (by omega)] at e
      exact e
    rw [Option.toList_some, List.singleton_append, gb_0_270, if_pos (rfl)]
    have e := w.symm.trans w2
    cases e
    exact K I2 J2 h ⟨tp, 0, _, im, sz, f1, p1, dr, ⟨⟨by omega, fun j hj => absurd hj (by omega)⟩, hob.2⟩, kBs_f hkb (fun k i j hk hi => by rw [hF2 _ _ _ (by omega), hF1 _ _ _ (by omega)]) (hJ2 _ _ _ (by omega)) (kRf_c hR1 (fun j => hF2 _ _ _ (by omega))) (by rw [hF2 _ _ _ (by omega)]; exact h01) (by rw [hF2 _ _ _ (by omega)]; exact hf) (by rw [hF2 _ _ _ (by omega)]; exact hp) (hkb.2.2.2.2.2.1), mBs_f hmb (fun k i j hk => by rw [hF2 _ _ _ (by omega), hF1 _ _ _ (by omega)]) (hJ2 _ _ _ (by omega)) (hR2) h02 (hf2) (hp2), gCs_c hcs ⟨by rw [hF2 _ _ _ (by omega), hF1 _ _ _ (by omega)], fun k j hk => by rw [hF2 _ _ _ (by omega), hF1 _ _ _ (by omega)], fun k j hk => by rw [hF2 _ _ _ (by omega), hF1 _ _ _ (by omega)], ⟨fun j => by rw [hF2 _ _ _ (by omega), hF1 _ _ _ (by omega)], fun j => by rw [hF2 _ _ _ (by omega), hF1 _ _ _ (by omega)], fun k j hk => by rw [hF2 _ _ _ (by omega), hF1 _ _ _ (by omega)]⟩, fun k j hk => by rw [hF2 _ _ _ (by omega), hF1 _ _ _ (by omega)], ⟨by rw [hF2 _ _ _ (by omega), hF1 _ _ _ (by omega)], by rw [hF2 _ _ _ (by omega), hF1 _ _ _ (by omega)], by rw [hF2 _ _ _ (by omega), hF1 _ _ _ (by omega)]⟩, fun j => by rw [hF2 _ _ _ (by omega), hF1 _ _ _ (by omega)], fun j => by rw [hF2 _ _ _ (by omega), hF1 _ _ _ (by omega)], fun j => by rw [hF2 _ _ _ (by omega), hF1 _ _ _ (by omega)]⟩ (fun j hj => hJ2 _ _ _ (by omega))⟩
  · have hF1 : ∀ k i j, ¬ (k = 10 ∧ i = 0 ∧ (j = 10 ∨ j = 12 ∨ j = 13) ∨ k = 11 ∧ i = 0 ∧ j = 1 ∨ k = 21 ∧ i = 0 ∨ k = 22 ∧ i = 0 ∨ k = 28 ∧ i = 0 ∧ (j = 1 ∨ j = 4) ∨ k = 20 ∧ i = 0 ∧ j = 3 ∨ k = 11 ∧ i = 0 ∧ 2 ≤ j ∧ j ≤ 7 ∨ k = 14 ∧ i = 1 - h.1 ∧ j = 2 ∨ k = 15 ∧ i = 1 - h.1 ∨ k = 17 ∧ i = 1 - h.1 ∨ 34 ≤ k ∧ k ≤ 41 ∧ i = 1 - h.1) → I1 k i j = I k i j := fun k i j hn => by
      have e : (if k = 10 ∧ i = 0 ∧ (j = 10 ∨ j = 12 ∨ j = 13) ∨ k = 11 ∧ i = 0 ∧ j = 1 ∨ k = 21 ∧ i = 0 ∨ k = 22 ∧ i = 0 ∨ k = 28 ∧ i = 0 ∧ (j = 1 ∨ j = 4) ∨ k = 20 ∧ i = 0 ∧ j = 3 then I k i j else I1 k i j) = I k i j := hF0 k i j (by omega)
      rw [if_neg (by omega)] at e
      exact e
    have e1 : ∀ k i j, 50 ≤ k → I1 k i j = I k i j := fun k i j hk => hF1 _ _ _ (by omega)
    have b1 := mBs_k (J' := J) hmb e1 rfl
    generalize hC : kMk I1 (1 - h.1) (nCrs tp n).2 = C at hCo hE hS1
    rw [Option.toList_some, List.singleton_append, gb_0_266]
    refine n_course (C := C) (fun j hj => b1.1.2 j (by omega)) b1.1.1 hn16 hB b1.2.2.2.2.2.1 b1.2.1 (fun _ _ => hE) (fun I2 J2 f2 p2 w2 => by rw [w] at w2; cases w2) (fun I2 J2 q2 y w2 hF2 hG2 hJ2 h02 h72 h82 mC mSt mN mK h70 h64 hyv => ?_)
    rw [Option.toList_some, List.singleton_append, gb_0_270, if_pos (z_inj (by rw [hxv, hyv]))]
    have hc : cOk C := nCrs_ok hB w hE
    have hso := sOk_beg hc
    have g71 : I2 50 0 71 = I1 50 0 71 := hG2 71 (by decide) (by decide) (by decide) (by decide) (by decide) (by decide) (by decide) (by decide) (by decide) (by decide)
    have g62 : I2 50 0 62 = I1 50 0 62 := hG2 62 (by decide) (by decide) (by decide) (by decide) (by decide) (by decide) (by decide) (by decide) (by decide) (by decide)
    have hB2 : ∀ k i j, (k = 53 ∨ i = 0 ∧ (k = 50 ∧ (j = 62 ∨ j = 109) ∨ k = 71)) → I2 k i j = I k i j := fun k i j hk => by
      by_cases e : k = 50 ∧ i = 0 ∧ j = 62
      · obtain ⟨rfl, rfl, rfl⟩ := e; rw [g62, hF1 _ _ _ (by omega)]
      · rw [hF2 _ _ _ (by omega), hF1 _ _ _ (by omega)]
    have hP2 : mPa I2 C lg [] := ⟨by rw [h70]; rfl, by decide, nw, hnw, by rw [g71, hF1 _ _ _ (by omega)]; exact h71, trivial⟩
    have hkn : kSn I2 tp 0 := ⟨by rw [hF2 _ _ _ (by omega), h203]; rfl, fun k h1 => absurd h1 (by omega), fun k h1 => absurd h1 (by omega), fun k h1 => absurd h1 (by omega)⟩
    have hmn : mSn I2 tp 0 := ⟨by rw [h64]; rfl, fun k h1 => absurd h1 (by omega)⟩
    exact K I2 J2 (1 - h.1, h.2) ⟨tp, 0, rf, im, sz, 0, -1, dr, ⟨⟨by omega, fun j hj => absurd hj (by omega)⟩, hob.2⟩, kBs_f hkb (fun k i j hk hi => by rw [hF2 _ _ _ (by omega), hF1 _ _ _ (by omega)]) (hJ2 _ _ _ (by omega)) (kRf_c hkb.2.1 (fun j => by rw [hF2 _ _ _ (by omega), hF1 _ _ _ (by omega)])) (by rw [hF2 _ _ _ (by omega)]; exact h01) (by rw [hF2 _ _ _ (by omega), hf]; rfl) (by rw [hF2 _ _ _ (by omega)]; exact hp) (by show 1 - h.1 ≤ 1; omega), mBs_f hmb hB2 (hJ2 _ _ _ (by omega)) (mRf_c hmb.2.1 (fun j => by rw [hF2 _ _ _ (by omega), hF1 _ _ _ (by omega)])) h02 (by rw [h72]; rfl) (h82), Or.inl ⟨C, _, lg, 0, [], tp, 0, ⟨hc, hso, ⟨by omega, hso.1.2.1.1⟩, trivial, ⟨by omega, fun k h1 => absurd h1 (by omega)⟩⟩, ⟨by rw [hF2 _ _ _ (by omega), h10]; decide, kCo_congr hCo (fun k j hk => hF2 _ _ _ (by omega)), kS_congr hS1 (fun j => hF2 _ _ _ (by omega)) (fun j => hF2 _ _ _ (by omega)), kPa_congr hP1 (fun k j hk => hF2 _ _ _ (by omega)), hkn⟩, ⟨mC, mN, mSt, mK lg, hP2, hmn⟩⟩⟩
