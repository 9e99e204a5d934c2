/-! The law: acts. -/
variable {d S : Nat} {h : Nat × Option gNm} {I : Nat → Nat → Nat → Int32} {J : Nat → Nat → Nat → Int64} {Q : Option gV → gW → Prop}
theorem w_20 {a3 : Int32} (q1 : gin (a3 + 1) S = true) (q2 : gin (a3 + 2) S = true) (hI : gInv I J h) (K : ∀ (I' : Nat → Nat → Nat → Int32) (J' : Nat → Nat → Nat → Int64) (h' : Nat × Option gNm), gInv I' J' h' → (gq (d + 90) 0 953 [some (.inr (.inr (some (0, 0)))), some (.inr (.inr (some (10, 0)))), some (.inr (.inr (some (50, 0)))), some (.inl (a3))] [] (gwd S I' J' h') Q)) : (gq (d + 90) 0 696 [some (.inr (.inr (some (0, 0)))), some (.inr (.inr (some (10, 0)))), some (.inr (.inr (some (50, 0)))), some (.inl (a3))] [] (gwd S I J h) Q) := by
  have hI0 := hI
  obtain ⟨tp, n, rf, im, sz, f, p, dr, hob, hkb, hmb, hcs⟩ := hI
  rw [gb_0_696]
  refine ⟨q1, ?_⟩
  rw [gb_0_702]
  refine ⟨q2, ?_⟩
  rw [gb_0_707]
  rcases id hcs with ⟨C, t, lg, nl, ac, sn, rm, hok, hk, hm⟩ | ⟨lg, hk, hm⟩
  · obtain ⟨hc, ⟨hto, h9, hhd, hps⟩, ⟨hn0, hn1⟩, hac, hsk⟩ := id hok
    refine m_placeP hc hk.1 hk.2.1 hk.2.2.1 hk.2.2.2.1 hkb.2.1 (fun w I1 hF1 hR1 => ?_) (fun w I1 hF1 hS1 hP1 => ?_)
    · have e1 : ∀ k i j, 50 ≤ k → I1 k i j = I k i j := fun k i j hk => hF1 _ _ _ (by omega)
      have e00 : ∀ j, I1 0 0 j = I 0 0 j := fun j => hF1 _ _ _ (by omega)
      have m1 := mW_k (J' := J) hc hm e1 (fun j _ => rfl)
      have b1 := mBs_k (J' := J) hmb e1 rfl
      rw [Option.toList_some, List.singleton_append, gb_0_710]
      refine ⟨q1, ?_⟩
      rw [gb_0_716]
      refine ⟨q2, ?_⟩
      rw [gb_0_721]
      rw [e00, e00]
      refine n_place hc m1.1 m1.2.2.1 m1.2.2.2.1 m1.2.2.2.2.1 b1.2.1 (fun w2 I2 hF2 hR2 => ?_) (fun w2 => absurd w2 w)
      rw [Option.toList_some, List.singleton_append, gb_0_724, if_pos (rfl)]
      exact K I2 J h ⟨tp, n, _, im, sz, f, p, dr, hob, kBs_r hkb (fun k i j hk hi => by rw [hF2 _ _ _ (by omega), hF1 _ _ _ (by omega)]) rfl (kRf_c hR1 (fun j => hF2 _ _ _ (by omega))), mBs_r hmb (fun k i j hk => by rw [hF2 _ _ _ (by omega), hF1 _ _ _ (by omega)]) rfl hR2, (gCs_c hcs ⟨by rw [hF2 _ _ _ (by omega), hF1 _ _ _ (by omega)], fun k j hk => by rw [hF2 _ _ _ (by omega), hF1 _ _ _ (by omega)], fun k j hk => by rw [hF2 _ _ _ (by omega), hF1 _ _ _ (by omega)], ⟨fun j => by rw [hF2 _ _ _ (by omega), hF1 _ _ _ (by omega)], fun j => by rw [hF2 _ _ _ (by omega), hF1 _ _ _ (by omega)], fun k j hk => by rw [hF2 _ _ _ (by omega), hF1 _ _ _ (by omega)]⟩, fun k j hk => by rw [hF2 _ _ _ (by omega), hF1 _ _ _ (by omega)], ⟨by rw [hF2 _ _ _ (by omega), hF1 _ _ _ (by omega)], by rw [hF2 _ _ _ (by omega), hF1 _ _ _ (by omega)], by rw [hF2 _ _ _ (by omega), hF1 _ _ _ (by omega)]⟩, fun j => by rw [hF2 _ _ _ (by omega), hF1 _ _ _ (by omega)], fun j => by rw [hF2 _ _ _ (by omega), hF1 _ _ _ (by omega)], fun j => by rw [hF2 _ _ _ (by omega), hF1 _ _ _ (by omega)]⟩ (fun j _ => rfl))⟩
    · have e1 : ∀ k i j, 50 ≤ k → I1 k i j = I k i j := fun k i j hk => hF1 _ _ _ (by omega)
      have e00 : ∀ j, I1 0 0 j = I 0 0 j := fun j => hF1 _ _ _ (by omega)
      have m1 := mW_k (J' := J) hc hm e1 (fun j _ => rfl)
      have b1 := mBs_k (J' := J) hmb e1 rfl
      rw [Option.toList_some, List.singleton_append, gb_0_710]
      refine ⟨q1, ?_⟩
      rw [gb_0_716]
      refine ⟨q2, ?_⟩
      rw [gb_0_721]
      rw [e00, e00]
      refine n_place hc m1.1 m1.2.2.1 m1.2.2.2.1 m1.2.2.2.2.1 b1.2.1 (fun w2 => absurd w w2) (fun w2 I2 hF2 hS2 hK2 hP2 => ?_)
      rw [Option.toList_some, List.singleton_append, gb_0_724, if_pos (rfl)]
      have hok2 : okW C (sUp t (10 + (I 0 0 (a3 + 1).toNatClampNeg).toInt.toNat) (I 0 0 (a3 + 2).toNatClampNeg).toInt) nl ((t, nl) :: ac.take 19) sn rm := ⟨hc, sOk_upm hok.2.1 _ _ (by omega) (by omega), ⟨hn0, by rw [sUp_ne (by omega)]; exact hn1⟩, acOk_new hok.2.1 hn0 (Int.le_refl _) hn1 hac, hsk⟩
      exact K I2 J h ⟨tp, n, rf, im, sz, f, p, dr, hob, kBs_c hkb (fun k i j hk hi => by rw [hF2 _ _ _ (by omega), hF1 _ _ _ (by omega)]) rfl, mBs_c hmb (fun k i j hk => by rw [hF2 _ _ _ (by omega), hF1 _ _ _ (by omega)]) rfl, Or.inl ⟨C, _, lg, nl, _, sn, rm, hok2, kW_a hk (by rw [hF2 _ _ _ (by omega), hF1 _ _ _ (by omega)]) (fun k j hk => by rw [hF2 _ _ _ (by omega), hF1 _ _ _ (by omega)]) (fun k j hk => by rw [hF2 _ _ _ (by omega), hF1 _ _ _ (by omega)]) (kS_congr hS1 (fun j => hF2 _ _ _ (by omega)) (fun j => hF2 _ _ _ (by omega))) (kPa_congr hP1 (fun k j hk => hF2 _ _ _ (by omega))), mW_a m1 (fun k j hk => hF2 _ _ _ (by omega)) (hF2 _ _ _ (by omega)) (fun j => hF2 _ _ _ (by omega)) (fun j _ => rfl) hS2 hK2 hP2⟩⟩
  · refine m_place0 hk.1 hkb.2.1 fun I1 hF1 hR1 => ?_
    have e1 : ∀ k i j, 50 ≤ k → I1 k i j = I k i j := fun k i j hk => hF1 _ _ _ (by omega)
    have e00 : ∀ j, I1 0 0 j = I 0 0 j := fun j => hF1 _ _ _ (by omega)
    have m1 := (mN_k hm e1).1
    have b1 := mBs_k (J' := J) hmb e1 rfl
    rw [Option.toList_some, List.singleton_append, gb_0_710]
    refine ⟨q1, ?_⟩
    rw [gb_0_716]
    refine ⟨q2, ?_⟩
    rw [gb_0_721]
    rw [e00, e00]
    refine n_place0 m1.2.2.1 b1.2.1 fun I2 hF2 hR2 => ?_
    rw [Option.toList_some, List.singleton_append, gb_0_724, if_pos (rfl)]
    exact K I2 J h ⟨tp, n, _, im, sz, f, p, dr, hob, kBs_r hkb (fun k i j hk hi => by rw [hF2 _ _ _ (by omega), hF1 _ _ _ (by omega)]) rfl (kRf_c hR1 (fun j => hF2 _ _ _ (by omega))), mBs_r hmb (fun k i j hk => by rw [hF2 _ _ _ (by omega), hF1 _ _ _ (by omega)]) rfl hR2, (gCs_c hcs ⟨by rw [hF2 _ _ _ (by omega), hF1 _ _ _ (by omega)], fun k j hk => by rw [hF2 _ _ _ (by omega), hF1 _ _ _ (by omega)], fun k j hk => by rw [hF2 _ _ _ (by omega), hF1 _ _ _ (by omega)], ⟨fun j => by rw [hF2 _ _ _ (by omega), hF1 _ _ _ (by omega)], fun j => by rw [hF2 _ _ _ (by omega), hF1 _ _ _ (by omega)], fun k j hk => by rw [hF2 _ _ _ (by omega), hF1 _ _ _ (by omega)]⟩, fun k j hk => by rw [hF2 _ _ _ (by omega), hF1 _ _ _ (by omega)], ⟨by rw [hF2 _ _ _ (by omega), hF1 _ _ _ (by omega)], by rw [hF2 _ _ _ (by omega), hF1 _ _ _ (by omega)], by rw [hF2 _ _ _ (by omega), hF1 _ _ _ (by omega)]⟩, fun j => by rw [hF2 _ _ _ (by omega), hF1 _ _ _ (by omega)], fun j => by rw [hF2 _ _ _ (by omega), hF1 _ _ _ (by omega)], fun j => by rw [hF2 _ _ _ (by omega), hF1 _ _ _ (by omega)]⟩ (fun j _ => rfl))⟩
theorem w_21 {a3 : Int32} (q1 : gin (a3 + 1) S = true) (q2 : gin (a3 + 2) S = true) (hI : gInv I J h) (K : ∀ (I' : Nat → Nat → Nat → Int32) (J' : Nat → Nat → Nat → Int64) (h' : Nat × Option gNm), gInv I' J' h' → (gq (d + 90) 0 953 [some (.inr (.inr (some (0, 0)))), some (.inr (.inr (some (10, 0)))), some (.inr (.inr (some (50, 0)))), some (.inl (a3))] [] (gwd S I' J' h') Q)) : (gq (d + 90) 0 729 [some (.inr (.inr (some (0, 0)))), some (.inr (.inr (some (10, 0)))), some (.inr (.inr (some (50, 0)))), some (.inl (a3))] [] (gwd S I J h) Q) := by
  have hI0 := hI
  obtain ⟨tp, n, rf, im, sz, f, p, dr, hob, hkb, hmb, hcs⟩ := hI
  rw [gb_0_729]
  refine ⟨q1, ?_⟩
  rw [gb_0_735]
  refine ⟨q2, ?_⟩
  rw [gb_0_740]
  rcases id hcs with ⟨C, t, lg, nl, ac, sn, rm, hok, hk, hm⟩ | ⟨lg, hk, hm⟩
  · obtain ⟨hc, ⟨hto, h9, hhd, hps⟩, ⟨hn0, hn1⟩, hac, hsk⟩ := id hok
    refine m_asidesP hc hk.1 hk.2.1 hto hk.2.2.1 hk.2.2.2.1 hkb.2.1 (fun w I1 hF1 hR1 => ?_) (fun w I1 hF1 hS1 hP1 => ?_)
    · have e1 : ∀ k i j, 50 ≤ k → I1 k i j = I k i j := fun k i j hk => hF1 _ _ _ (by omega)
      have e00 : ∀ j, I1 0 0 j = I 0 0 j := fun j => hF1 _ _ _ (by omega)
      have m1 := mW_k (J' := J) hc hm e1 (fun j _ => rfl)
      have b1 := mBs_k (J' := J) hmb e1 rfl
      rw [Option.toList_some, List.singleton_append, gb_0_743]
      refine ⟨q1, ?_⟩
      rw [gb_0_749]
      refine ⟨q2, ?_⟩
      rw [gb_0_754]
      rw [e00, e00]
      refine n_asides hc m1.1 m1.2.2.1 m1.2.2.2.1 m1.2.2.2.2.1 b1.2.1 (fun w2 I2 hF2 hR2 => ?_) (fun w2 => absurd w2 w)
      rw [Option.toList_some, List.singleton_append, gb_0_757, if_pos (rfl)]
      exact K I2 J h ⟨tp, n, _, im, sz, f, p, dr, hob, kBs_r hkb (fun k i j hk hi => by rw [hF2 _ _ _ (by omega), hF1 _ _ _ (by omega)]) rfl (kRf_c hR1 (fun j => hF2 _ _ _ (by omega))), mBs_r hmb (fun k i j hk => by rw [hF2 _ _ _ (by omega), hF1 _ _ _ (by omega)]) rfl hR2, (gCs_c hcs ⟨by rw [hF2 _ _ _ (by omega), hF1 _ _ _ (by omega)], fun k j hk => by rw [hF2 _ _ _ (by omega), hF1 _ _ _ (by omega)], fun k j hk => by rw [hF2 _ _ _ (by omega), hF1 _ _ _ (by omega)], ⟨fun j => by rw [hF2 _ _ _ (by omega), hF1 _ _ _ (by omega)], fun j => by rw [hF2 _ _ _ (by omega), hF1 _ _ _ (by omega)], fun k j hk => by rw [hF2 _ _ _ (by omega), hF1 _ _ _ (by omega)]⟩, fun k j hk => by rw [hF2 _ _ _ (by omega), hF1 _ _ _ (by omega)], ⟨by rw [hF2 _ _ _ (by omega), hF1 _ _ _ (by omega)], by rw [hF2 _ _ _ (by omega), hF1 _ _ _ (by omega)], by rw [hF2 _ _ _ (by omega), hF1 _ _ _ (by omega)]⟩, fun j => by rw [hF2 _ _ _ (by omega), hF1 _ _ _ (by omega)], fun j => by rw [hF2 _ _ _ (by omega), hF1 _ _ _ (by omega)], fun j => by rw [hF2 _ _ _ (by omega), hF1 _ _ _ (by omega)]⟩ (fun j _ => rfl))⟩
    · have e1 : ∀ k i j, 50 ≤ k → I1 k i j = I k i j := fun k i j hk => hF1 _ _ _ (by omega)
      have e00 : ∀ j, I1 0 0 j = I 0 0 j := fun j => hF1 _ _ _ (by omega)
      have m1 := mW_k (J' := J) hc hm e1 (fun j _ => rfl)
      have b1 := mBs_k (J' := J) hmb e1 rfl
      rw [Option.toList_some, List.singleton_append, gb_0_743]
      refine ⟨q1, ?_⟩
      rw [gb_0_749]
      refine ⟨q2, ?_⟩
      rw [gb_0_754]
      rw [e00, e00]
      refine n_asides hc m1.1 m1.2.2.1 m1.2.2.2.1 m1.2.2.2.2.1 b1.2.1 (fun w2 => absurd w w2) (fun w2 I2 hF2 hS2 hK2 hP2 => ?_)
      rw [Option.toList_some, List.singleton_append, gb_0_757, if_pos (rfl)]
      have hok2 : okW C (sUp t 4 (gTog (t 4) (I 0 0 (a3 + 1).toNatClampNeg).toInt.toNat)) nl ((t, nl) :: ac.take 19) sn rm := ⟨hc, sOk_up4 hok.2.1 _ (gTog_r hto.2.2.2.2.1.1 hto.2.2.2.2.1.2 (by have := hc.2.2.1; omega)), ⟨hn0, by rw [sUp_ne (by decide)]; exact hn1⟩, acOk_new hok.2.1 hn0 (Int.le_refl _) hn1 hac, hsk⟩
      exact K I2 J h ⟨tp, n, rf, im, sz, f, p, dr, hob, kBs_c hkb (fun k i j hk hi => by rw [hF2 _ _ _ (by omega), hF1 _ _ _ (by omega)]) rfl, mBs_c hmb (fun k i j hk => by rw [hF2 _ _ _ (by omega), hF1 _ _ _ (by omega)]) rfl, Or.inl ⟨C, _, lg, nl, _, sn, rm, hok2, kW_a hk (by rw [hF2 _ _ _ (by omega), hF1 _ _ _ (by omega)]) (fun k j hk => by rw [hF2 _ _ _ (by omega), hF1 _ _ _ (by omega)]) (fun k j hk => by rw [hF2 _ _ _ (by omega), hF1 _ _ _ (by omega)]) (kS_congr hS1 (fun j => hF2 _ _ _ (by omega)) (fun j => hF2 _ _ _ (by omega))) (kPa_congr hP1 (fun k j hk => hF2 _ _ _ (by omega))), mW_a m1 (fun k j hk => hF2 _ _ _ (by omega)) (hF2 _ _ _ (by omega)) (fun j => hF2 _ _ _ (by omega)) (fun j _ => rfl) hS2 hK2 hP2⟩⟩
  · refine m_aside0 hk.1 hkb.2.1 fun I1 hF1 hR1 => ?_
    have e1 : ∀ k i j, 50 ≤ k → I1 k i j = I k i j := fun k i j hk => hF1 _ _ _ (by omega)
    have e00 : ∀ j, I1 0 0 j = I 0 0 j := fun j => hF1 _ _ _ (by omega)
    have m1 := (mN_k hm e1).1
    have b1 := mBs_k (J' := J) hmb e1 rfl
    rw [Option.toList_some, List.singleton_append, gb_0_743]
    refine ⟨q1, ?_⟩
    rw [gb_0_749]
    refine ⟨q2, ?_⟩
    rw [gb_0_754]
    rw [e00, e00]
    refine n_asides0 m1.2.2.1 b1.2.1 fun I2 hF2 hR2 => ?_
    rw [Option.toList_some, List.singleton_append, gb_0_757, if_pos (rfl)]
    exact K I2 J h ⟨tp, n, _, im, sz, f, p, dr, hob, kBs_r hkb (fun k i j hk hi => by rw [hF2 _ _ _ (by omega), hF1 _ _ _ (by omega)]) rfl (kRf_c hR1 (fun j => hF2 _ _ _ (by omega))), mBs_r hmb (fun k i j hk => by rw [hF2 _ _ _ (by omega), hF1 _ _ _ (by omega)]) rfl hR2, (gCs_c hcs ⟨by rw [hF2 _ _ _ (by omega), hF1 _ _ _ (by omega)], fun k j hk => by rw [hF2 _ _ _ (by omega), hF1 _ _ _ (by omega)], fun k j hk => by rw [hF2 _ _ _ (by omega), hF1 _ _ _ (by omega)], ⟨fun j => by rw [hF2 _ _ _ (by omega), hF1 _ _ _ (by omega)], fun j => by rw [hF2 _ _ _ (by omega), hF1 _ _ _ (by omega)], fun k j hk => by rw [hF2 _ _ _ (by omega), hF1 _ _ _ (by omega)]⟩, fun k j hk => by rw [hF2 _ _ _ (by omega), hF1 _ _ _ (by omega)], ⟨by rw [hF2 _ _ _ (by omega), hF1 _ _ _ (by omega)], by rw [hF2 _ _ _ (by omega), hF1 _ _ _ (by omega)], by rw [hF2 _ _ _ (by omega), hF1 _ _ _ (by omega)]⟩, fun j => by rw [hF2 _ _ _ (by omega), hF1 _ _ _ (by omega)], fun j => by rw [hF2 _ _ _ (by omega), hF1 _ _ _ (by omega)], fun j => by rw [hF2 _ _ _ (by omega), hF1 _ _ _ (by omega)]⟩ (fun j _ => rfl))⟩
theorem w_22 {a3 : Int32} (q1 : gin (a3 + 1) S = true) (hI : gInv I J h) (K : ∀ (I' : Nat → Nat → Nat → Int32) (J' : Nat → Nat → Nat → Int64) (h' : Nat × Option gNm), gInv I' J' h' → (gq (d + 90) 0 953 [some (.inr (.inr (some (0, 0)))), some (.inr (.inr (some (10, 0)))), some (.inr (.inr (some (50, 0)))), some (.inl (a3))] [] (gwd S I' J' h') Q)) : (gq (d + 90) 0 762 [some (.inr (.inr (some (0, 0)))), some (.inr (.inr (some (10, 0)))), some (.inr (.inr (some (50, 0)))), some (.inl (a3))] [] (gwd S I J h) Q) := by
  have hI0 := hI
  obtain ⟨tp, n, rf, im, sz, f, p, dr, hob, hkb, hmb, hcs⟩ := hI
  rw [gb_0_762]
  refine ⟨q1, ?_⟩
  rw [gb_0_768]
  rcases id hcs with ⟨C, t, lg, nl, ac, sn, rm, hok, hk, hm⟩ | ⟨lg, hk, hm⟩
  · obtain ⟨hc, ⟨hto, h9, hhd, hps⟩, ⟨hn0, hn1⟩, hac, hsk⟩ := id hok
    refine m_kindleP hk.1 hk.2.2.1 hk.2.2.2.1 hkb.2.1 (fun w I1 hF1 hR1 => ?_) (fun w I1 hF1 hS1 hP1 => ?_)
    · have e1 : ∀ k i j, 50 ≤ k → I1 k i j = I k i j := fun k i j hk => hF1 _ _ _ (by omega)
      have e00 : ∀ j, I1 0 0 j = I 0 0 j := fun j => hF1 _ _ _ (by omega)
      have m1 := mW_k (J' := J) hc hm e1 (fun j _ => rfl)
      have b1 := mBs_k (J' := J) hmb e1 rfl
      rw [Option.toList_some, List.singleton_append, gb_0_771]
      refine ⟨q1, ?_⟩
      rw [gb_0_777]
      rw [e00]
      refine n_kindle hc m1.1 m1.2.2.1 m1.2.2.2.1 m1.2.2.2.2.1 b1.2.1 (fun w2 I2 hF2 hR2 => ?_) (fun w2 => absurd w2 w)
      rw [Option.toList_some, List.singleton_append, gb_0_780, if_pos (rfl)]
      exact K I2 J h ⟨tp, n, _, im, sz, f, p, dr, hob, kBs_r hkb (fun k i j hk hi => by rw [hF2 _ _ _ (by omega), hF1 _ _ _ (by omega)]) rfl (kRf_c hR1 (fun j => hF2 _ _ _ (by omega))), mBs_r hmb (fun k i j hk => by rw [hF2 _ _ _ (by omega), hF1 _ _ _ (by omega)]) rfl hR2, (gCs_c hcs ⟨by rw [hF2 _ _ _ (by omega), hF1 _ _ _ (by omega)], fun k j hk => by rw [hF2 _ _ _ (by omega), hF1 _ _ _ (by omega)], fun k j hk => by rw [hF2 _ _ _ (by omega), hF1 _ _ _ (by omega)], ⟨fun j => by rw [hF2 _ _ _ (by omega), hF1 _ _ _ (by omega)], fun j => by rw [hF2 _ _ _ (by omega), hF1 _ _ _ (by omega)], fun k j hk => by rw [hF2 _ _ _ (by omega), hF1 _ _ _ (by omega)]⟩, fun k j hk => by rw [hF2 _ _ _ (by omega), hF1 _ _ _ (by omega)], ⟨by rw [hF2 _ _ _ (by omega), hF1 _ _ _ (by omega)], by rw [hF2 _ _ _ (by omega), hF1 _ _ _ (by omega)], by rw [hF2 _ _ _ (by omega), hF1 _ _ _ (by omega)]⟩, fun j => by rw [hF2 _ _ _ (by omega), hF1 _ _ _ (by omega)], fun j => by rw [hF2 _ _ _ (by omega), hF1 _ _ _ (by omega)], fun j => by rw [hF2 _ _ _ (by omega), hF1 _ _ _ (by omega)]⟩ (fun j _ => rfl))⟩
    · have e1 : ∀ k i j, 50 ≤ k → I1 k i j = I k i j := fun k i j hk => hF1 _ _ _ (by omega)
      have e00 : ∀ j, I1 0 0 j = I 0 0 j := fun j => hF1 _ _ _ (by omega)
      have m1 := mW_k (J' := J) hc hm e1 (fun j _ => rfl)
      have b1 := mBs_k (J' := J) hmb e1 rfl
      rw [Option.toList_some, List.singleton_append, gb_0_771]
      refine ⟨q1, ?_⟩
      rw [gb_0_777]
      rw [e00]
      refine n_kindle hc m1.1 m1.2.2.1 m1.2.2.2.1 m1.2.2.2.2.1 b1.2.1 (fun w2 => absurd w w2) (fun w2 I2 hF2 hS2 hK2 hP2 => ?_)
      rw [Option.toList_some, List.singleton_append, gb_0_780, if_pos (rfl)]
      have hok2 : okW C (sUp t 2 (I 0 0 (a3 + 1).toNatClampNeg).toInt) nl ((t, nl) :: ac.take 19) sn rm := ⟨hc, sOk_up2 hok.2.1 _ w.1, ⟨hn0, by rw [sUp_ne (by decide)]; exact hn1⟩, acOk_new hok.2.1 hn0 (Int.le_refl _) hn1 hac, hsk⟩
      exact K I2 J h ⟨tp, n, rf, im, sz, f, p, dr, hob, kBs_c hkb (fun k i j hk hi => by rw [hF2 _ _ _ (by omega), hF1 _ _ _ (by omega)]) rfl, mBs_c hmb (fun k i j hk => by rw [hF2 _ _ _ (by omega), hF1 _ _ _ (by omega)]) rfl, Or.inl ⟨C, _, lg, nl, _, sn, rm, hok2, kW_a hk (by rw [hF2 _ _ _ (by omega), hF1 _ _ _ (by omega)]) (fun k j hk => by rw [hF2 _ _ _ (by omega), hF1 _ _ _ (by omega)]) (fun k j hk => by rw [hF2 _ _ _ (by omega), hF1 _ _ _ (by omega)]) (kS_congr hS1 (fun j => hF2 _ _ _ (by omega)) (fun j => hF2 _ _ _ (by omega))) (kPa_congr hP1 (fun k j hk => hF2 _ _ _ (by omega))), mW_a m1 (fun k j hk => hF2 _ _ _ (by omega)) (hF2 _ _ _ (by omega)) (fun j => hF2 _ _ _ (by omega)) (fun j _ => rfl) hS2 hK2 hP2⟩⟩
  · refine m_kindle0 hk.1 hkb.2.1 fun I1 hF1 hR1 => ?_
    have e1 : ∀ k i j, 50 ≤ k → I1 k i j = I k i j := fun k i j hk => hF1 _ _ _ (by omega)
    have e00 : ∀ j, I1 0 0 j = I 0 0 j := fun j => hF1 _ _ _ (by omega)
    have m1 := (mN_k hm e1).1
    have b1 := mBs_k (J' := J) hmb e1 rfl
    rw [Option.toList_some, List.singleton_append, gb_0_771]
    refine ⟨q1, ?_⟩
    rw [gb_0_777]
    rw [e00]
    refine n_kindle0 m1.1 b1.2.1 fun I2 hF2 hR2 => ?_
    rw [Option.toList_some, List.singleton_append, gb_0_780, if_pos (rfl)]
    exact K I2 J h ⟨tp, n, _, im, sz, f, p, dr, hob, kBs_r hkb (fun k i j hk hi => by rw [hF2 _ _ _ (by omega), hF1 _ _ _ (by omega)]) rfl (kRf_c hR1 (fun j => hF2 _ _ _ (by omega))), mBs_r hmb (fun k i j hk => by rw [hF2 _ _ _ (by omega), hF1 _ _ _ (by omega)]) rfl hR2, (gCs_c hcs ⟨by rw [hF2 _ _ _ (by omega), hF1 _ _ _ (by omega)], fun k j hk => by rw [hF2 _ _ _ (by omega), hF1 _ _ _ (by omega)], fun k j hk => by rw [hF2 _ _ _ (by omega), hF1 _ _ _ (by omega)], ⟨fun j => by rw [hF2 _ _ _ (by omega), hF1 _ _ _ (by omega)], fun j => by rw [hF2 _ _ _ (by omega), hF1 _ _ _ (by omega)], fun k j hk => by rw [hF2 _ _ _ (by omega), hF1 _ _ _ (by omega)]⟩, fun k j hk => by rw [hF2 _ _ _ (by omega), hF1 _ _ _ (by omega)], ⟨by rw [hF2 _ _ _ (by omega), hF1 _ _ _ (by omega)], by rw [hF2 _ _ _ (by omega), hF1 _ _ _ (by omega)], by rw [hF2 _ _ _ (by omega), hF1 _ _ _ (by omega)]⟩, fun j => by rw [hF2 _ _ _ (by omega), hF1 _ _ _ (by omega)], fun j => by rw [hF2 _ _ _ (by omega), hF1 _ _ _ (by omega)], fun j => by rw [hF2 _ _ _ (by omega), hF1 _ _ _ (by omega)]⟩ (fun j _ => rfl))⟩
theorem w_23 {a3 : Int32} (q1 : gin (a3 + 1) S = true) (hI : gInv I J h) (K : ∀ (I' : Nat → Nat → Nat → Int32) (J' : Nat → Nat → Nat → Int64) (h' : Nat × Option gNm), gInv I' J' h' → (gq (d + 90) 0 953 [some (.inr (.inr (some (0, 0)))), some (.inr (.inr (some (10, 0)))), some (.inr (.inr (some (50, 0)))), some (.inl (a3))] [] (gwd S I' J' h') Q)) : (gq (d + 90) 0 785 [some (.inr (.inr (some (0, 0)))), some (.inr (.inr (some (10, 0)))), some (.inr (.inr (some (50, 0)))), some (.inl (a3))] [] (gwd S I J h) Q) := by
  have hI0 := hI
  obtain ⟨tp, n, rf, im, sz, f, p, dr, hob, hkb, hmb, hcs⟩ := hI
  rw [gb_0_785]
  refine ⟨q1, ?_⟩
  rw [gb_0_791]
  rcases id hcs with ⟨C, t, lg, nl, ac, sn, rm, hok, hk, hm⟩ | ⟨lg, hk, hm⟩
  · obtain ⟨hc, ⟨hto, h9, hhd, hps⟩, ⟨hn0, hn1⟩, hac, hsk⟩ := id hok
    refine m_hours hc hk.1 hk.2.1 hto h9 hk.2.2.1 hn0 hn1 hk.2.2.2.1 hkb.2.1 (fun w I1 hF1 hR1 => ?_) (fun w I1 x hF1 hS1 hP1 hx => ?_)
    · have e1 : ∀ k i j, 50 ≤ k → I1 k i j = I k i j := fun k i j hk => hF1 _ _ _ (by omega)
      have e00 : ∀ j, I1 0 0 j = I 0 0 j := fun j => hF1 _ _ _ (by omega)
      have m1 := mW_k (J' := J) hc hm e1 (fun j _ => rfl)
      have b1 := mBs_k (J' := J) hmb e1 rfl
      rw [Option.toList_some, List.singleton_append, gb_0_794]
      refine ⟨q1, ?_⟩
      rw [gb_0_800]
      rw [e00]
      refine n_hours hc m1.1 hto h9 m1.2.2.1 m1.2.2.2.1 hn0 hn1 m1.2.2.2.2.1 (acOk_le hac) b1.2.1 b1.2.2.2.2.2.2 (fun w2 I2 hF2 hR2 => ?_) (fun w2 => absurd w2 w)
      rw [Option.toList_some, List.singleton_append, gb_0_803, if_pos (rfl)]
      exact K I2 J h ⟨tp, n, _, im, sz, f, p, dr, hob, kBs_r hkb (fun k i j hk hi => by rw [hF2 _ _ _ (by omega), hF1 _ _ _ (by omega)]) rfl (kRf_c hR1 (fun j => hF2 _ _ _ (by omega))), mBs_r hmb (fun k i j hk => by rw [hF2 _ _ _ (by omega), hF1 _ _ _ (by omega)]) rfl hR2, (gCs_c hcs ⟨by rw [hF2 _ _ _ (by omega), hF1 _ _ _ (by omega)], fun k j hk => by rw [hF2 _ _ _ (by omega), hF1 _ _ _ (by omega)], fun k j hk => by rw [hF2 _ _ _ (by omega), hF1 _ _ _ (by omega)], ⟨fun j => by rw [hF2 _ _ _ (by omega), hF1 _ _ _ (by omega)], fun j => by rw [hF2 _ _ _ (by omega), hF1 _ _ _ (by omega)], fun k j hk => by rw [hF2 _ _ _ (by omega), hF1 _ _ _ (by omega)]⟩, fun k j hk => by rw [hF2 _ _ _ (by omega), hF1 _ _ _ (by omega)], ⟨by rw [hF2 _ _ _ (by omega), hF1 _ _ _ (by omega)], by rw [hF2 _ _ _ (by omega), hF1 _ _ _ (by omega)], by rw [hF2 _ _ _ (by omega), hF1 _ _ _ (by omega)]⟩, fun j => by rw [hF2 _ _ _ (by omega), hF1 _ _ _ (by omega)], fun j => by rw [hF2 _ _ _ (by omega), hF1 _ _ _ (by omega)], fun j => by rw [hF2 _ _ _ (by omega), hF1 _ _ _ (by omega)]⟩ (fun j _ => rfl))⟩
    · have e1 : ∀ k i j, 50 ≤ k → I1 k i j = I k i j := fun k i j hk => hF1 _ _ _ (by omega)
      have e00 : ∀ j, I1 0 0 j = I 0 0 j := fun j => hF1 _ _ _ (by omega)
      have m1 := mW_k (J' := J) hc hm e1 (fun j _ => rfl)
      have b1 := mBs_k (J' := J) hmb e1 rfl
      rw [Option.toList_some, List.singleton_append, gb_0_794]
      refine ⟨q1, ?_⟩
      rw [gb_0_800]
      rw [e00]
      refine n_hours hc m1.1 hto h9 m1.2.2.1 m1.2.2.2.1 hn0 hn1 m1.2.2.2.2.1 (acOk_le hac) b1.2.1 b1.2.2.2.2.2.2 (fun w2 => absurd w w2) (fun w2 I2 J2 y hF2 hJ2 hS2 hK2 hP2 hy => ?_)
      rw [Option.toList_some, List.singleton_append, gb_0_803, if_pos (z_inj (by rw [hx, hy]))]
      have hg := gHrs_ok hc (I 0 0 (a3 + 1).toNatClampNeg).toInt.toNat t lg nl 0 hok.2.1 hn0 hn1
      have hok2 : okW C _ _ ((t, nl) :: ac.take 19) sn rm := ⟨hc, hg.1, ⟨Int.le_trans hn0 hg.2.1, hg.2.2⟩, acOk_new hok.2.1 hn0 hg.2.1 hn1 hac, hsk⟩
      exact K I2 J2 h ⟨tp, n, rf, im, sz, f, p, dr, hob, kBs_c hkb (fun k i j hk hi => by rw [hF2 _ _ _ (by omega), hF1 _ _ _ (by omega)]) (hJ2 _ _ _ (by omega)), mBs_c hmb (fun k i j hk => by rw [hF2 _ _ _ (by omega), hF1 _ _ _ (by omega)]) (hJ2 _ _ _ (by omega)), Or.inl ⟨C, _, _, _, _, sn, rm, hok2, kW_a hk (by rw [hF2 _ _ _ (by omega), hF1 _ _ _ (by omega)]) (fun k j hk => by rw [hF2 _ _ _ (by omega), hF1 _ _ _ (by omega)]) (fun k j hk => by rw [hF2 _ _ _ (by omega), hF1 _ _ _ (by omega)]) (kS_congr hS1 (fun j => hF2 _ _ _ (by omega)) (fun j => hF2 _ _ _ (by omega))) (kPa_congr hP1 (fun k j hk => hF2 _ _ _ (by omega))), mW_a m1 (fun k j hk => hF2 _ _ _ (by omega)) (hF2 _ _ _ (by omega)) (fun j => hF2 _ _ _ (by omega)) (fun j _ => hJ2 _ _ _ (by omega)) hS2 hK2 hP2⟩⟩
  · refine m_hours0 hk.1 hkb.2.1 fun I1 hF1 hR1 => ?_
    have e1 : ∀ k i j, 50 ≤ k → I1 k i j = I k i j := fun k i j hk => hF1 _ _ _ (by omega)
    have e00 : ∀ j, I1 0 0 j = I 0 0 j := fun j => hF1 _ _ _ (by omega)
    have m1 := (mN_k hm e1).1
    have b1 := mBs_k (J' := J) hmb e1 rfl
    rw [Option.toList_some, List.singleton_append, gb_0_794]
    refine ⟨q1, ?_⟩
    rw [gb_0_800]
    rw [e00]
    refine n_hours0 m1.1 b1.2.1 fun I2 hF2 hR2 => ?_
    rw [Option.toList_some, List.singleton_append, gb_0_803, if_pos (rfl)]
    exact K I2 J h ⟨tp, n, _, im, sz, f, p, dr, hob, kBs_r hkb (fun k i j hk hi => by rw [hF2 _ _ _ (by omega), hF1 _ _ _ (by omega)]) rfl (kRf_c hR1 (fun j => hF2 _ _ _ (by omega))), mBs_r hmb (fun k i j hk => by rw [hF2 _ _ _ (by omega), hF1 _ _ _ (by omega)]) rfl hR2, (gCs_c hcs ⟨by rw [hF2 _ _ _ (by omega), hF1 _ _ _ (by omega)], fun k j hk => by rw [hF2 _ _ _ (by omega), hF1 _ _ _ (by omega)], fun k j hk => by rw [hF2 _ _ _ (by omega), hF1 _ _ _ (by omega)], ⟨fun j => by rw [hF2 _ _ _ (by omega), hF1 _ _ _ (by omega)], fun j => by rw [hF2 _ _ _ (by omega), hF1 _ _ _ (by omega)], fun k j hk => by rw [hF2 _ _ _ (by omega), hF1 _ _ _ (by omega)]⟩, fun k j hk => by rw [hF2 _ _ _ (by omega), hF1 _ _ _ (by omega)], ⟨by rw [hF2 _ _ _ (by omega), hF1 _ _ _ (by omega)], by rw [hF2 _ _ _ (by omega), hF1 _ _ _ (by omega)], by rw [hF2 _ _ _ (by omega), hF1 _ _ _ (by omega)]⟩, fun j => by rw [hF2 _ _ _ (by omega), hF1 _ _ _ (by omega)], fun j => by rw [hF2 _ _ _ (by omega), hF1 _ _ _ (by omega)], fun j => by rw [hF2 _ _ _ (by omega), hF1 _ _ _ (by omega)]⟩ (fun j _ => rfl))⟩
theorem w_24 {a3 : Int32} (q1 : gin (a3 + 1) S = true) (hI : gInv I J h) (K : ∀ (I' : Nat → Nat → Nat → Int32) (J' : Nat → Nat → Nat → Int64) (h' : Nat × Option gNm), gInv I' J' h' → (gq (d + 90) 0 953 [some (.inr (.inr (some (0, 0)))), some (.inr (.inr (some (10, 0)))), some (.inr (.inr (some (50, 0)))), some (.inl (a3))] [] (gwd S I' J' h') Q)) : (gq (d + 90) 0 808 [some (.inr (.inr (some (0, 0)))), some (.inr (.inr (some (10, 0)))), some (.inr (.inr (some (50, 0)))), some (.inl (a3))] [] (gwd S I J h) Q) := by
  have hI0 := hI
  obtain ⟨tp, n, rf, im, sz, f, p, dr, hob, hkb, hmb, hcs⟩ := hI
  rw [gb_0_808]
  refine ⟨q1, ?_⟩
  rw [gb_0_814]
  rcases id hcs with ⟨C, t, lg, nl, ac, sn, rm, hok, hk, hm⟩ | ⟨lg, hk, hm⟩
  · obtain ⟨hc, ⟨hto, h9, hhd, hps⟩, ⟨hn0, hn1⟩, hac, hsk⟩ := id hok
    refine m_chance hc hk.1 hk.2.1 hto h9 hk.2.2.1 hn0 hn1 hk.2.2.2.1 hkb.2.1 hkb.2.2.2.2.1 hob.2.2.1 hob.2.2.2 (fun w I1 hF1 hR1 => ?_) (fun w I1 J1 x hF1 hJ1 hS1 hP1 hj1 hx => ?_)
    · have e1 : ∀ k i j, 50 ≤ k → I1 k i j = I k i j := fun k i j hk => hF1 _ _ _ (by omega)
      have e00 : ∀ j, I1 0 0 j = I 0 0 j := fun j => hF1 _ _ _ (by omega)
      have m1 := mW_k (J' := J) hc hm e1 (fun j _ => rfl)
      have b1 := mBs_k (J' := J) hmb e1 rfl
      rw [Option.toList_some, List.singleton_append, gb_0_817]
      refine ⟨q1, ?_⟩
      rw [gb_0_823]
      rw [e00]
      refine n_chance hc m1.1 hto h9 m1.2.2.1 m1.2.2.2.1 hn0 hn1 m1.2.2.2.2.1 (acOk_le hac) b1.2.1 b1.2.2.2.2.2.2 b1.2.2.2.2.1 hob.2.2.1 hob.2.2.2 (fun w2 I2 hF2 hR2 => ?_) (fun w2 => absurd w2 w)
      rw [Option.toList_some, List.singleton_append, gb_0_826, if_pos (rfl)]
      exact K I2 J h ⟨tp, n, _, im, sz, f, p, dr, hob, kBs_r hkb (fun k i j hk hi => by rw [hF2 _ _ _ (by omega), hF1 _ _ _ (by omega)]) rfl (kRf_c hR1 (fun j => hF2 _ _ _ (by omega))), mBs_r hmb (fun k i j hk => by rw [hF2 _ _ _ (by omega), hF1 _ _ _ (by omega)]) rfl hR2, (gCs_c hcs ⟨by rw [hF2 _ _ _ (by omega), hF1 _ _ _ (by omega)], fun k j hk => by rw [hF2 _ _ _ (by omega), hF1 _ _ _ (by omega)], fun k j hk => by rw [hF2 _ _ _ (by omega), hF1 _ _ _ (by omega)], ⟨fun j => by rw [hF2 _ _ _ (by omega), hF1 _ _ _ (by omega)], fun j => by rw [hF2 _ _ _ (by omega), hF1 _ _ _ (by omega)], fun k j hk => by rw [hF2 _ _ _ (by omega), hF1 _ _ _ (by omega)]⟩, fun k j hk => by rw [hF2 _ _ _ (by omega), hF1 _ _ _ (by omega)], ⟨by rw [hF2 _ _ _ (by omega), hF1 _ _ _ (by omega)], by rw [hF2 _ _ _ (by omega), hF1 _ _ _ (by omega)], by rw [hF2 _ _ _ (by omega), hF1 _ _ _ (by omega)]⟩, fun j => by rw [hF2 _ _ _ (by omega), hF1 _ _ _ (by omega)], fun j => by rw [hF2 _ _ _ (by omega), hF1 _ _ _ (by omega)], fun j => by rw [hF2 _ _ _ (by omega), hF1 _ _ _ (by omega)]⟩ (fun j _ => rfl))⟩
    · have e1 : ∀ k i j, 50 ≤ k → I1 k i j = I k i j := fun k i j hk => hF1 _ _ _ (by omega)
      have e00 : ∀ j, I1 0 0 j = I 0 0 j := fun j => hF1 _ _ _ (by omega)
      have m1 := mW_k (J' := J1) hc hm e1 (fun j _ => hJ1 _ _ _ (by omega))
      have b1 := mBs_k (J' := J1) hmb e1 (hJ1 _ _ _ (by omega))
      rw [Option.toList_some, List.singleton_append, gb_0_817]
      refine ⟨q1, ?_⟩
      rw [gb_0_823]
      rw [e00]
      refine n_chance hc m1.1 hto h9 m1.2.2.1 m1.2.2.2.1 hn0 hn1 m1.2.2.2.2.1 (acOk_le hac) b1.2.1 b1.2.2.2.2.2.2 b1.2.2.2.2.1 hob.2.2.1 hob.2.2.2 (fun w2 => absurd w w2) (fun w2 I2 J2 y hF2 hJ2 hS2 hK2 hP2 hj2 hy => ?_)
      rw [Option.toList_some, List.singleton_append, gb_0_826, if_pos (z_inj (by rw [hx, hy]))]
      have hg := gChn_ok hc (I 0 0 (a3 + 1).toNatClampNeg).toInt.toNat t lg nl dr 0 hok.2.1 hn0 hn1 hob.2.2.1 hob.2.2.2
      have hok2 : okW C _ _ ((t, nl) :: ac.take 19) sn rm := ⟨hc, hg.1, ⟨Int.le_trans hn0 hg.2.1, hg.2.2.1⟩, acOk_new hok.2.1 hn0 hg.2.1 hn1 hac, hsk⟩
      exact K I2 J2 h ⟨tp, n, rf, im, sz, f, p, _, ⟨hob.1, hob.2.1, hg.2.2.2.1, hg.2.2.2.2⟩, ⟨kTb_congr hkb.1 (by rw [hF2 _ _ _ (by omega), hF1 _ _ _ (by omega)]) (fun j => by rw [hF2 _ _ _ (by omega), hF1 _ _ _ (by omega)]), kRf_c hkb.2.1 (fun j => by rw [hF2 _ _ _ (by omega), hF1 _ _ _ (by omega)]), kIm_c hkb.2.2.1 (by rw [hF2 _ _ _ (by omega), hF1 _ _ _ (by omega)]) (fun j => by rw [hF2 _ _ _ (by omega), hF1 _ _ _ (by omega)]), ⟨by rw [hF2 _ _ _ (by omega), hF1 _ _ _ (by omega)]; exact hkb.2.2.2.1.1, by rw [hF2 _ _ _ (by omega), hF1 _ _ _ (by omega)]; exact hkb.2.2.2.1.2⟩, by rw [hJ2 _ _ _ (by omega)]; exact hj1, hkb.2.2.2.2.2.1, fun g hg => by rw [hF2 _ _ _ (by omega), hF1 _ _ _ (by omega)]; exact hkb.2.2.2.2.2.2.1 g hg, gCd_congr (fun k _ _ => by rw [hF2 _ _ _ (by omega), hF1 _ _ _ (by omega)]) hkb.2.2.2.2.2.2.2⟩, ⟨mTp_congr hmb.1 (by rw [hF2 _ _ _ (by omega), hF1 _ _ _ (by omega)]) (fun j => by rw [hF2 _ _ _ (by omega), hF1 _ _ _ (by omega)]), mRf_c hmb.2.1 (fun j => by rw [hF2 _ _ _ (by omega), hF1 _ _ _ (by omega)]), mIm_c hmb.2.2.1 (by rw [hF2 _ _ _ (by omega), hF1 _ _ _ (by omega)]) (fun j => by rw [hF2 _ _ _ (by omega), hF1 _ _ _ (by omega)]), ⟨by rw [hF2 _ _ _ (by omega), hF1 _ _ _ (by omega)]; exact hmb.2.2.2.1.1, by rw [hF2 _ _ _ (by omega), hF1 _ _ _ (by omega)]; exact hmb.2.2.2.1.2⟩, hj2, mWs_c hmb.2.2.2.2.2.1 (fun i j => by rw [hF2 _ _ _ (by omega), hF1 _ _ _ (by omega)]), by rw [hF2 _ _ _ (by omega), hF1 _ _ _ (by omega)]; exact hmb.2.2.2.2.2.2⟩, Or.inl ⟨C, _, _, _, _, sn, rm, hok2, kW_a hk (by rw [hF2 _ _ _ (by omega), hF1 _ _ _ (by omega)]) (fun k j hk => by rw [hF2 _ _ _ (by omega), hF1 _ _ _ (by omega)]) (fun k j hk => by rw [hF2 _ _ _ (by omega), hF1 _ _ _ (by omega)]) (kS_congr hS1 (fun j => hF2 _ _ _ (by omega)) (fun j => hF2 _ _ _ (by omega))) (kPa_congr hP1 (fun k j hk => hF2 _ _ _ (by omega))), mW_a m1 (fun k j hk => hF2 _ _ _ (by omega)) (hF2 _ _ _ (by omega)) (fun j => hF2 _ _ _ (by omega)) (fun j _ => hJ2 _ _ _ (by omega)) hS2 hK2 hP2⟩⟩
  · refine m_chance0 hk.1 hkb.2.1 fun I1 hF1 hR1 => ?_
    have e1 : ∀ k i j, 50 ≤ k → I1 k i j = I k i j := fun k i j hk => hF1 _ _ _ (by omega)
    have e00 : ∀ j, I1 0 0 j = I 0 0 j := fun j => hF1 _ _ _ (by omega)
    have m1 := (mN_k hm e1).1
    have b1 := mBs_k (J' := J) hmb e1 rfl
    rw [Option.toList_some, List.singleton_append, gb_0_817]
    refine ⟨q1, ?_⟩
    rw [gb_0_823]
    rw [e00]
    refine n_chance0 m1.1 b1.2.1 fun I2 hF2 hR2 => ?_
    rw [Option.toList_some, List.singleton_append, gb_0_826, if_pos (rfl)]
    exact K I2 J h ⟨tp, n, _, im, sz, f, p, dr, hob, kBs_r hkb (fun k i j hk hi => by rw [hF2 _ _ _ (by omega), hF1 _ _ _ (by omega)]) rfl (kRf_c hR1 (fun j => hF2 _ _ _ (by omega))), mBs_r hmb (fun k i j hk => by rw [hF2 _ _ _ (by omega), hF1 _ _ _ (by omega)]) rfl hR2, (gCs_c hcs ⟨by rw [hF2 _ _ _ (by omega), hF1 _ _ _ (by omega)], fun k j hk => by rw [hF2 _ _ _ (by omega), hF1 _ _ _ (by omega)], fun k j hk => by rw [hF2 _ _ _ (by omega), hF1 _ _ _ (by omega)], ⟨fun j => by rw [hF2 _ _ _ (by omega), hF1 _ _ _ (by omega)], fun j => by rw [hF2 _ _ _ (by omega), hF1 _ _ _ (by omega)], fun k j hk => by rw [hF2 _ _ _ (by omega), hF1 _ _ _ (by omega)]⟩, fun k j hk => by rw [hF2 _ _ _ (by omega), hF1 _ _ _ (by omega)], ⟨by rw [hF2 _ _ _ (by omega), hF1 _ _ _ (by omega)], by rw [hF2 _ _ _ (by omega), hF1 _ _ _ (by omega)], by rw [hF2 _ _ _ (by omega), hF1 _ _ _ (by omega)]⟩, fun j => by rw [hF2 _ _ _ (by omega), hF1 _ _ _ (by omega)], fun j => by rw [hF2 _ _ _ (by omega), hF1 _ _ _ (by omega)], fun j => by rw [hF2 _ _ _ (by omega), hF1 _ _ _ (by omega)]⟩ (fun j _ => rfl))⟩
