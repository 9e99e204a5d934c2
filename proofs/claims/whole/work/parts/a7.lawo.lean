/-! The law: what is seen, questions, undo, images taken. -/
/-- a course that is none -/
def cNil : gCo := (fun j => if j = 0 then 1 else if j = 1 then 5 else if j = 4 then 50 else 0, gDef)
theorem cNil_ok : cOk cNil := ⟨by decide, by decide, by decide, by decide, by decide, by decide, fun b hb => absurd hb (by show ¬ (b : Int) < 0; omega), fun b hb => absurd hb (by show ¬ (b : Int) < 0; omega), by decide, by decide, by decide⟩
theorem snOk_see {C : gCo} {tp : Nat → Int} {n : Nat} (ho : tpOk tp n) (h : gSee C tp n = true) : snOk C tp ((n : Int) / 3) := by
  unfold gSee at h
  simp only [Bool.and_eq_true, decide_eq_true_eq] at h
  obtain ⟨⟨h1, h2, h3⟩, h4⟩ := h
  refine ⟨by omega, fun k hk => ?_⟩
  have g := gSeeOk_at h4 k (Nat.zero_le _) (by omega)
  have o0 := ho.2 (3 * k) (by omega)
  have o1 := ho.2 (3 * k + 1) (by omega)
  have o2 := ho.2 (3 * k + 2) (by omega)
  have g0 := @gByt_at tp n (3 * k) (by omega)
  have g1 := @gByt_at tp n (3 * k + 1) (by omega)
  have g2 := @gByt_at tp n (3 * k + 2) (by omega)
  simp only [Int.natCast_add, Int.natCast_mul] at g0 g1 g2
  have e3 : ((3 : Nat) : Int) = 3 := rfl
  have e1 : ((1 : Nat) : Int) = 1 := rfl
  have e2 : ((2 : Nat) : Int) = 2 := rfl
  rw [e3] at g0 g1 g2
  rw [e1] at g1
  rw [e2] at g2
  rw [g0, g1, g2] at g
  omega
variable {d S : Nat} {h : Nat × Option gNm} {I : Nat → Nat → Nat → Int32} {J : Nat → Nat → Nat → Int64} {Q : Option gV → gW → Prop}
theorem w_17 {a3 : Int32} (hI : gInv I J h) (K : ∀ (I' : Nat → Nat → Nat → Int32) (J' : Nat → Nat → Nat → Int64) (h' : Nat × Option gNm), gInv I' J' h' → (gq (d + 90) 0 953 [some (.inr (.inr (some (0, 0)))), some (.inr (.inr (some (10, 0)))), some (.inr (.inr (some (50, 0)))), some (.inl (a3))] [] (gwd S I' J' h') Q)) : (gq (d + 90) 0 637 [some (.inr (.inr (some (0, 0)))), some (.inr (.inr (some (10, 0)))), some (.inr (.inr (some (50, 0)))), some (.inl (a3))] [] (gwd S I J h) Q) := by
  have hI0 := hI
  obtain ⟨tp, n, rf, im, sz, f, p, dr, hob, hkb, hmb, hcs⟩ := hI
  rw [gb_0_637]
  rcases id hcs with ⟨C, t, lg, nl, ac, sn, rm, hok, hk, hm⟩ | ⟨lg, hk, hm⟩
  · obtain ⟨hc, ⟨hto, h9, hhd, hps⟩, ⟨hn0, hn1⟩, hac, hsk⟩ := id hok
    refine m_seeP hc hk.1 hk.2.1 hkb.1.1 hob.1 hkb.2.1 (fun w I1 hF1 hR1 h01 => ?_) (fun w I1 x hF1 h01 hS1 hx => ?_)
    · have e1 : ∀ k i j, 50 ≤ k → I1 k i j = I k i j := fun k i j hk => hF1 _ _ _ (by omega)
      have m1 := mW_k (J' := J) hc hm e1 (fun j _ => rfl)
      have b1 := mBs_k (J' := J) hmb e1 rfl
      rw [Option.toList_some, List.singleton_append, gb_0_641]
      refine n_see hc m1.1 b1.1 hob.1 b1.2.1 (fun w2 I2 hF2 hR2 h02 => ?_) (fun w2 => absurd w2 (by rw [w]; decide))
      rw [Option.toList_some, List.singleton_append, gb_0_645, if_pos (rfl)]
      exact K I2 J h ⟨tp, 0, _, im, sz, f, p, dr, ⟨⟨by omega, fun j hj => absurd hj (by omega)⟩, hob.2⟩, kBs_f hkb (fun k i j hk hi => by rw [hF2 _ _ _ (by omega), hF1 _ _ _ (by omega)]) rfl (kRf_c hR1 (fun j => hF2 _ _ _ (by omega))) (by rw [hF2 _ _ _ (by omega)]; exact h01) (by rw [hF2 _ _ _ (by omega), hF1 _ _ _ (by omega)]; exact hkb.2.2.2.1.1) (by rw [hF2 _ _ _ (by omega), hF1 _ _ _ (by omega)]; exact hkb.2.2.2.1.2) hkb.2.2.2.2.2.1, mBs_f hmb (fun k i j hk => by rw [hF2 _ _ _ (by omega), hF1 _ _ _ (by omega)]) rfl hR2 h02 (by rw [hF2 _ _ _ (by omega), hF1 _ _ _ (by omega)]; exact hmb.2.2.2.1.1) (by rw [hF2 _ _ _ (by omega), hF1 _ _ _ (by omega)]; exact hmb.2.2.2.1.2), (gCs_c hcs ⟨by rw [hF2 _ _ _ (by omega), hF1 _ _ _ (by omega)], fun k j hk => by rw [hF2 _ _ _ (by omega), hF1 _ _ _ (by omega)], fun k j hk => by rw [hF2 _ _ _ (by omega), hF1 _ _ _ (by omega)], ⟨fun j => by rw [hF2 _ _ _ (by omega), hF1 _ _ _ (by omega)], fun j => by rw [hF2 _ _ _ (by omega), hF1 _ _ _ (by omega)], fun k j hk => by rw [hF2 _ _ _ (by omega), hF1 _ _ _ (by omega)]⟩, fun k j hk => by rw [hF2 _ _ _ (by omega), hF1 _ _ _ (by omega)], ⟨by rw [hF2 _ _ _ (by omega), hF1 _ _ _ (by omega)], by rw [hF2 _ _ _ (by omega), hF1 _ _ _ (by omega)], by rw [hF2 _ _ _ (by omega), hF1 _ _ _ (by omega)]⟩, fun j => by rw [hF2 _ _ _ (by omega), hF1 _ _ _ (by omega)], fun j => by rw [hF2 _ _ _ (by omega), hF1 _ _ _ (by omega)], fun j => by rw [hF2 _ _ _ (by omega), hF1 _ _ _ (by omega)]⟩ (fun j _ => rfl))⟩
    · have e1 : ∀ k i j, 50 ≤ k → I1 k i j = I k i j := fun k i j hk => hF1 _ _ _ (by omega)
      have m1 := mW_k (J' := J) hc hm e1 (fun j _ => rfl)
      have b1 := mBs_k (J' := J) hmb e1 rfl
      rw [Option.toList_some, List.singleton_append, gb_0_641]
      refine n_see hc m1.1 b1.1 hob.1 b1.2.1 (fun w2 => absurd w2 (by rw [w]; decide)) (fun w2 I2 y hF2 h02 hS2 hy => ?_)
      rw [Option.toList_some, List.singleton_append, gb_0_645, if_pos (z_inj (by rw [hx, hy]))]
      exact K I2 J h ⟨tp, 0, rf, im, sz, f, p, dr, ⟨⟨by omega, fun j hj => absurd hj (by omega)⟩, hob.2⟩, kBs_f hkb (fun k i j hk hi => by rw [hF2 _ _ _ (by omega), hF1 _ _ _ (by omega)]) rfl (kRf_c hkb.2.1 (fun j => by rw [hF2 _ _ _ (by omega), hF1 _ _ _ (by omega)])) (by rw [hF2 _ _ _ (by omega)]; exact h01) (by rw [hF2 _ _ _ (by omega), hF1 _ _ _ (by omega)]; exact hkb.2.2.2.1.1) (by rw [hF2 _ _ _ (by omega), hF1 _ _ _ (by omega)]; exact hkb.2.2.2.1.2) (hkb.2.2.2.2.2.1), mBs_f hmb (fun k i j hk => by rw [hF2 _ _ _ (by omega), hF1 _ _ _ (by omega)]) rfl (mRf_c hmb.2.1 (fun j => by rw [hF2 _ _ _ (by omega), hF1 _ _ _ (by omega)])) h02 (by rw [hF2 _ _ _ (by omega), hF1 _ _ _ (by omega)]; exact hmb.2.2.2.1.1) (by rw [hF2 _ _ _ (by omega), hF1 _ _ _ (by omega)]; exact hmb.2.2.2.1.2), Or.inl ⟨C, t, lg, nl, ac, tp, (n : Int) / 3, ⟨hc, hok.2.1, hok.2.2.1, hac, snOk_see hob.1 w⟩, ⟨by rw [hF2 _ _ _ (by omega), hF1 _ _ _ (by omega)]; exact hk.1, kCo_congr hk.2.1 (fun k j hk => by rw [hF2 _ _ _ (by omega), hF1 _ _ _ (by omega)]), kS_congr hk.2.2.1 (fun j => by rw [hF2 _ _ _ (by omega), hF1 _ _ _ (by omega)]) (fun j => by rw [hF2 _ _ _ (by omega), hF1 _ _ _ (by omega)]), kPa_congr hk.2.2.2.1 (fun k j hk => by rw [hF2 _ _ _ (by omega), hF1 _ _ _ (by omega)]), kSn_congr hS1 (fun k j hk => hF2 _ _ _ (by omega))⟩, ⟨mCo_congr m1.1 (fun k j hk => hF2 _ _ _ (by omega)), m1.2.1, mS_congr hc m1.2.2.1 (fun j hj => hF2 _ _ _ (by omega)), mKp_congr m1.2.2.2.1 (fun j hj => hF2 _ _ _ (by omega)), mPa_congr m1.2.2.2.2.1 (fun k j hk => hF2 _ _ _ (by omega)), hS2⟩⟩⟩
  · refine m_see0 hk.1 hkb.2.1 fun I1 hF1 hR1 h01 => ?_
    have e1 : ∀ k i j, 50 ≤ k → I1 k i j = I k i j := fun k i j hk => hF1 _ _ _ (by omega)
    have m1 := (mN_k hm e1).1
    have b1 := mBs_k (J' := J) hmb e1 rfl
    rw [Option.toList_some, List.singleton_append, gb_0_641]
    refine n_see0 (ln := n) m1.2.2.2.1 b1.1.1 hob.1.1 b1.2.1 fun I2 hF2 hR2 h02 => ?_
    rw [Option.toList_some, List.singleton_append, gb_0_645, if_pos (rfl)]
    exact K I2 J h ⟨tp, 0, _, im, sz, f, p, dr, ⟨⟨by omega, fun j hj => absurd hj (by omega)⟩, hob.2⟩, kBs_f hkb (fun k i j hk hi => by rw [hF2 _ _ _ (by omega), hF1 _ _ _ (by omega)]) rfl (kRf_c hR1 (fun j => hF2 _ _ _ (by omega))) (by rw [hF2 _ _ _ (by omega)]; exact h01) (by rw [hF2 _ _ _ (by omega), hF1 _ _ _ (by omega)]; exact hkb.2.2.2.1.1) (by rw [hF2 _ _ _ (by omega), hF1 _ _ _ (by omega)]; exact hkb.2.2.2.1.2) hkb.2.2.2.2.2.1, mBs_f hmb (fun k i j hk => by rw [hF2 _ _ _ (by omega), hF1 _ _ _ (by omega)]) rfl hR2 h02 (by rw [hF2 _ _ _ (by omega), hF1 _ _ _ (by omega)]; exact hmb.2.2.2.1.1) (by rw [hF2 _ _ _ (by omega), hF1 _ _ _ (by omega)]; exact hmb.2.2.2.1.2), (gCs_c hcs ⟨by rw [hF2 _ _ _ (by omega), hF1 _ _ _ (by omega)], fun k j hk => by rw [hF2 _ _ _ (by omega), hF1 _ _ _ (by omega)], fun k j hk => by rw [hF2 _ _ _ (by omega), hF1 _ _ _ (by omega)], ⟨fun j => by rw [hF2 _ _ _ (by omega), hF1 _ _ _ (by omega)], fun j => by rw [hF2 _ _ _ (by omega), hF1 _ _ _ (by omega)], fun k j hk => by rw [hF2 _ _ _ (by omega), hF1 _ _ _ (by omega)]⟩, fun k j hk => by rw [hF2 _ _ _ (by omega), hF1 _ _ _ (by omega)], ⟨by rw [hF2 _ _ _ (by omega), hF1 _ _ _ (by omega)], by rw [hF2 _ _ _ (by omega), hF1 _ _ _ (by omega)], by rw [hF2 _ _ _ (by omega), hF1 _ _ _ (by omega)]⟩, fun j => by rw [hF2 _ _ _ (by omega), hF1 _ _ _ (by omega)], fun j => by rw [hF2 _ _ _ (by omega), hF1 _ _ _ (by omega)], fun j => by rw [hF2 _ _ _ (by omega), hF1 _ _ _ (by omega)]⟩ (fun j _ => rfl))⟩
theorem w_25 {a3 : Int32} (hI : gInv I J h) (K : ∀ (I' : Nat → Nat → Nat → Int32) (J' : Nat → Nat → Nat → Int64) (h' : Nat × Option gNm), gInv I' J' h' → (gq (d + 90) 0 953 [some (.inr (.inr (some (0, 0)))), some (.inr (.inr (some (10, 0)))), some (.inr (.inr (some (50, 0)))), some (.inl (a3))] [] (gwd S I' J' h') Q)) : (gq (d + 90) 0 831 [some (.inr (.inr (some (0, 0)))), some (.inr (.inr (some (10, 0)))), some (.inr (.inr (some (50, 0)))), some (.inl (a3))] [] (gwd S I J h) Q) := by
  have hI0 := hI
  obtain ⟨tp, n, rf, im, sz, f, p, dr, hob, hkb, hmb, hcs⟩ := hI
  rw [gb_0_831]
  rcases id hcs with ⟨C, t, lg, nl, ac, sn, rm, hok, hk, hm⟩ | ⟨lg, hk, hm⟩
  · obtain ⟨hc, ⟨hto, h9, hhd, hps⟩, ⟨hn0, hn1⟩, hac, hsk⟩ := id hok
    refine m_undo hk.2.2.2.1 (fun a ha => (acOk_le hac a ha).2) hkb.2.1 (fun w I1 hF1 hR1 => ?_) (fun I1 t1 l1 r1 w hF1 hS1 hP1 => ?_)
    · have e1 : ∀ k i j, 50 ≤ k → I1 k i j = I k i j := fun k i j hk => hF1 _ _ _ (by omega)
      have m1 := mW_k (J' := J) hc hm e1 (fun j _ => rfl)
      have b1 := mBs_k (J' := J) hmb e1 rfl
      rw [Option.toList_some, List.singleton_append, gb_0_835]
      refine n_undo hc m1.2.2.2.2.1 b1.2.1 (fun I2 w2 hF2 hR2 => ?_) (fun I2 t2 l2 r2 w2 => by rw [w] at w2; cases w2)
      rw [Option.toList_some, List.singleton_append, gb_0_839, if_pos (rfl)]
      exact K I2 J h ⟨tp, n, _, im, sz, f, p, dr, hob, kBs_r hkb (fun k i j hk hi => by rw [hF2 _ _ _ (by omega), hF1 _ _ _ (by omega)]) rfl (kRf_c hR1 (fun j => hF2 _ _ _ (by omega))), mBs_r hmb (fun k i j hk => by rw [hF2 _ _ _ (by omega), hF1 _ _ _ (by omega)]) rfl hR2, (gCs_c hcs ⟨by rw [hF2 _ _ _ (by omega), hF1 _ _ _ (by omega)], fun k j hk => by rw [hF2 _ _ _ (by omega), hF1 _ _ _ (by omega)], fun k j hk => by rw [hF2 _ _ _ (by omega), hF1 _ _ _ (by omega)], ⟨fun j => by rw [hF2 _ _ _ (by omega), hF1 _ _ _ (by omega)], fun j => by rw [hF2 _ _ _ (by omega), hF1 _ _ _ (by omega)], fun k j hk => by rw [hF2 _ _ _ (by omega), hF1 _ _ _ (by omega)]⟩, fun k j hk => by rw [hF2 _ _ _ (by omega), hF1 _ _ _ (by omega)], ⟨by rw [hF2 _ _ _ (by omega), hF1 _ _ _ (by omega)], by rw [hF2 _ _ _ (by omega), hF1 _ _ _ (by omega)], by rw [hF2 _ _ _ (by omega), hF1 _ _ _ (by omega)]⟩, fun j => by rw [hF2 _ _ _ (by omega), hF1 _ _ _ (by omega)], fun j => by rw [hF2 _ _ _ (by omega), hF1 _ _ _ (by omega)], fun j => by rw [hF2 _ _ _ (by omega), hF1 _ _ _ (by omega)]⟩ (fun j _ => rfl))⟩
    · have e1 : ∀ k i j, 50 ≤ k → I1 k i j = I k i j := fun k i j hk => hF1 _ _ _ (by omega)
      have m1 := mW_k (J' := J) hc hm e1 (fun j _ => rfl)
      have b1 := mBs_k (J' := J) hmb e1 rfl
      rw [Option.toList_some, List.singleton_append, gb_0_835]
      refine n_undo hc m1.2.2.2.2.1 b1.2.1 (fun I2 w2 => by rw [w] at w2; cases w2) (fun I2 t2 l2 r2 w2 hF2 hS2 hK2 hP2 => ?_)
      rw [Option.toList_some, List.singleton_append, gb_0_839, if_pos (rfl)]
      have e := w.symm.trans w2
      cases e
      rw [w] at hac
      exact K I2 J h ⟨tp, n, rf, im, sz, f, p, dr, hob, kBs_c hkb (fun k i j hk hi => by rw [hF2 _ _ _ (by omega), hF1 _ _ _ (by omega)]) rfl, mBs_c hmb (fun k i j hk => by rw [hF2 _ _ _ (by omega), hF1 _ _ _ (by omega)]) rfl, Or.inl ⟨C, _, lg, _, _, sn, rm, ⟨hc, hac.1, ⟨hac.2.1, hac.2.2.2.1⟩, hac.2.2.2.2, hsk⟩, kW_a hk (by rw [hF2 _ _ _ (by omega), hF1 _ _ _ (by omega)]) (fun k j hk => by rw [hF2 _ _ _ (by omega), hF1 _ _ _ (by omega)]) (fun k j hk => by rw [hF2 _ _ _ (by omega), hF1 _ _ _ (by omega)]) (kS_congr hS1 (fun j => hF2 _ _ _ (by omega)) (fun j => hF2 _ _ _ (by omega))) (kPa_congr hP1 (fun k j hk => hF2 _ _ _ (by omega))), mW_a m1 (fun k j hk => hF2 _ _ _ (by omega)) (hF2 _ _ _ (by omega)) (fun j => hF2 _ _ _ (by omega)) (fun j _ => rfl) hS2 hK2 hP2⟩⟩
  · refine m_undo hk.2 (fun a ha => by cases ha) hkb.2.1 (fun _ I1 hF1 hR1 => ?_) (fun I1 t1 l1 r1 w => by cases w)
    have e1 : ∀ k i j, 50 ≤ k → I1 k i j = I k i j := fun k i j hk => hF1 _ _ _ (by omega)
    obtain ⟨m1, nw, hnw, h71⟩ := mN_k hm e1
    have b1 := mBs_k (J' := J) hmb e1 rfl
    rw [Option.toList_some, List.singleton_append, gb_0_835]
    have mp0 : mPa I1 cNil lg [] := ⟨by rw [m1.2.2.2.2.2.2.2.2.2]; rfl, by decide, nw, hnw, h71, trivial⟩
    refine n_undo cNil_ok mp0 b1.2.1 (fun I2 _ hF2 hR2 => ?_) (fun I2 t2 l2 r2 w2 => by cases w2)
    rw [Option.toList_some, List.singleton_append, gb_0_839, if_pos (rfl)]
    exact K I2 J h ⟨tp, n, _, im, sz, f, p, dr, hob, kBs_r hkb (fun k i j hk hi => by rw [hF2 _ _ _ (by omega), hF1 _ _ _ (by omega)]) rfl (kRf_c hR1 (fun j => hF2 _ _ _ (by omega))), mBs_r hmb (fun k i j hk => by rw [hF2 _ _ _ (by omega), hF1 _ _ _ (by omega)]) rfl hR2, (gCs_c hcs ⟨by rw [hF2 _ _ _ (by omega), hF1 _ _ _ (by omega)], fun k j hk => by rw [hF2 _ _ _ (by omega), hF1 _ _ _ (by omega)], fun k j hk => by rw [hF2 _ _ _ (by omega), hF1 _ _ _ (by omega)], ⟨fun j => by rw [hF2 _ _ _ (by omega), hF1 _ _ _ (by omega)], fun j => by rw [hF2 _ _ _ (by omega), hF1 _ _ _ (by omega)], fun k j hk => by rw [hF2 _ _ _ (by omega), hF1 _ _ _ (by omega)]⟩, fun k j hk => by rw [hF2 _ _ _ (by omega), hF1 _ _ _ (by omega)], ⟨by rw [hF2 _ _ _ (by omega), hF1 _ _ _ (by omega)], by rw [hF2 _ _ _ (by omega), hF1 _ _ _ (by omega)], by rw [hF2 _ _ _ (by omega), hF1 _ _ _ (by omega)]⟩, fun j => by rw [hF2 _ _ _ (by omega), hF1 _ _ _ (by omega)], fun j => by rw [hF2 _ _ _ (by omega), hF1 _ _ _ (by omega)], fun j => by rw [hF2 _ _ _ (by omega), hF1 _ _ _ (by omega)]⟩ (fun j _ => rfl))⟩
theorem w_30 {a3 : Int32} (hI : gInv I J h) (K : ∀ (I' : Nat → Nat → Nat → Int32) (J' : Nat → Nat → Nat → Int64) (h' : Nat × Option gNm), gInv I' J' h' → (gq (d + 90) 0 953 [some (.inr (.inr (some (0, 0)))), some (.inr (.inr (some (10, 0)))), some (.inr (.inr (some (50, 0)))), some (.inl (a3))] [] (gwd S I' J' h') Q)) : (gq (d + 90) 0 917 [some (.inr (.inr (some (0, 0)))), some (.inr (.inr (some (10, 0)))), some (.inr (.inr (some (50, 0)))), some (.inl (a3))] [] (gwd S I J h) Q) := by
  have hI0 := hI
  obtain ⟨tp, n, rf, im, sz, f, p, dr, hob, hkb, hmb, hcs⟩ := hI
  rw [gb_0_917]
  rcases id hcs with ⟨C, t, lg, nl, ac, sn, rm, hok, hk, hm⟩ | ⟨lg, hk, hm⟩
  · obtain ⟨hc, ⟨hto, h9, hhd, hps⟩, ⟨hn0, hn1⟩, hac, hsk⟩ := id hok
    refine m_onP hc hk.1 hk.2.1 hkb.1.1 hob.1 hk.2.2.1 hk.2.2.2.1 hkb.2.1 (fun w I1 hF1 h01 hR1 => ?_) (fun w I1 hF1 h01 hP1 hS1 => ?_)
    · have e1 : ∀ k i j, 50 ≤ k → I1 k i j = I k i j := fun k i j hk => hF1 _ _ _ (by omega)
      have m1 := mW_k (J' := J) hc hm e1 (fun j _ => rfl)
      have b1 := mBs_k (J' := J) hmb e1 rfl
      rw [Option.toList_some, List.singleton_append, gb_0_921]
      refine n_on (t := t) hc m1.1 b1.1 hob.1 b1.2.1 (fun w2 I2 hF2 h02 hR2 => ?_) (fun w2 => absurd w2 (by rw [w]; decide))
      rw [Option.toList_some, List.singleton_append, gb_0_925, if_pos (rfl)]
      exact K I2 J h ⟨tp, 0, _, im, sz, f, p, dr, ⟨⟨by omega, fun j hj => absurd hj (by omega)⟩, hob.2⟩, kBs_f hkb (fun k i j hk hi => by rw [hF2 _ _ _ (by omega), hF1 _ _ _ (by omega)]) rfl (kRf_c hR1 (fun j => hF2 _ _ _ (by omega))) (by rw [hF2 _ _ _ (by omega)]; exact h01) (by rw [hF2 _ _ _ (by omega), hF1 _ _ _ (by omega)]; exact hkb.2.2.2.1.1) (by rw [hF2 _ _ _ (by omega), hF1 _ _ _ (by omega)]; exact hkb.2.2.2.1.2) hkb.2.2.2.2.2.1, mBs_f hmb (fun k i j hk => by rw [hF2 _ _ _ (by omega), hF1 _ _ _ (by omega)]) rfl hR2 h02 (by rw [hF2 _ _ _ (by omega), hF1 _ _ _ (by omega)]; exact hmb.2.2.2.1.1) (by rw [hF2 _ _ _ (by omega), hF1 _ _ _ (by omega)]; exact hmb.2.2.2.1.2), (gCs_c hcs ⟨by rw [hF2 _ _ _ (by omega), hF1 _ _ _ (by omega)], fun k j hk => by rw [hF2 _ _ _ (by omega), hF1 _ _ _ (by omega)], fun k j hk => by rw [hF2 _ _ _ (by omega), hF1 _ _ _ (by omega)], ⟨fun j => by rw [hF2 _ _ _ (by omega), hF1 _ _ _ (by omega)], fun j => by rw [hF2 _ _ _ (by omega), hF1 _ _ _ (by omega)], fun k j hk => by rw [hF2 _ _ _ (by omega), hF1 _ _ _ (by omega)]⟩, fun k j hk => by rw [hF2 _ _ _ (by omega), hF1 _ _ _ (by omega)], ⟨by rw [hF2 _ _ _ (by omega), hF1 _ _ _ (by omega)], by rw [hF2 _ _ _ (by omega), hF1 _ _ _ (by omega)], by rw [hF2 _ _ _ (by omega), hF1 _ _ _ (by omega)]⟩, fun j => by rw [hF2 _ _ _ (by omega), hF1 _ _ _ (by omega)], fun j => by rw [hF2 _ _ _ (by omega), hF1 _ _ _ (by omega)], fun j => by rw [hF2 _ _ _ (by omega), hF1 _ _ _ (by omega)]⟩ (fun j _ => rfl))⟩
    · have e1 : ∀ k i j, 50 ≤ k → I1 k i j = I k i j := fun k i j hk => hF1 _ _ _ (by omega)
      have m1 := mW_k (J' := J) hc hm e1 (fun j _ => rfl)
      have b1 := mBs_k (J' := J) hmb e1 rfl
      rw [Option.toList_some, List.singleton_append, gb_0_921]
      refine n_on (t := t) hc m1.1 b1.1 hob.1 b1.2.1 (fun w2 => absurd w2 (by rw [w]; decide)) (fun w2 I2 hF2 h02 h70 h28 hS2 => ?_)
      rw [Option.toList_some, List.singleton_append, gb_0_925, if_pos (rfl)]
      have hso := sOk_on hc hok.2.1 hob.1 w
      obtain ⟨nw, hnw, h71, _⟩ := m1.2.2.2.2.1.2.2
      have hK2 : mKp I2 lg 0 := ⟨by rw [h28]; rfl, fun k w h1 => absurd h1 (by omega)⟩
      have hP2 : mPa I2 C lg [] := ⟨by rw [h70]; rfl, by decide, nw, hnw, by rw [hF2 _ _ _ (by omega)]; exact h71, trivial⟩
      exact K I2 J h ⟨tp, 0, rf, im, sz, f, p, dr, ⟨⟨by omega, fun j hj => absurd hj (by omega)⟩, hob.2⟩, kBs_f hkb (fun k i j hk hi => by rw [hF2 _ _ _ (by omega), hF1 _ _ _ (by omega)]) rfl (kRf_c hkb.2.1 (fun j => by rw [hF2 _ _ _ (by omega), hF1 _ _ _ (by omega)])) (by rw [hF2 _ _ _ (by omega)]; exact h01) (by rw [hF2 _ _ _ (by omega), hF1 _ _ _ (by omega)]; exact hkb.2.2.2.1.1) (by rw [hF2 _ _ _ (by omega), hF1 _ _ _ (by omega)]; exact hkb.2.2.2.1.2) (hkb.2.2.2.2.2.1), mBs_f hmb (fun k i j hk => by rw [hF2 _ _ _ (by omega), hF1 _ _ _ (by omega)]) rfl (mRf_c hmb.2.1 (fun j => by rw [hF2 _ _ _ (by omega), hF1 _ _ _ (by omega)])) h02 (by rw [hF2 _ _ _ (by omega), hF1 _ _ _ (by omega)]; exact hmb.2.2.2.1.1) (by rw [hF2 _ _ _ (by omega), hF1 _ _ _ (by omega)]; exact hmb.2.2.2.1.2), Or.inl ⟨C, _, lg, 0, [], sn, rm, ⟨hc, hso, ⟨by omega, hso.1.2.1.1⟩, trivial, hsk⟩, kW_a hk (by rw [hF2 _ _ _ (by omega), hF1 _ _ _ (by omega)]) (fun k j hk => by rw [hF2 _ _ _ (by omega), hF1 _ _ _ (by omega)]) (fun k j hk => by rw [hF2 _ _ _ (by omega), hF1 _ _ _ (by omega)]) (kS_congr hS1 (fun j => hF2 _ _ _ (by omega)) (fun j => hF2 _ _ _ (by omega))) (kPa_congr hP1 (fun k j hk => hF2 _ _ _ (by omega))), mW_a m1 (fun k j hk => hF2 _ _ _ (by omega)) (hF2 _ _ _ (by omega)) (fun j => hF2 _ _ _ (by omega)) (fun j _ => rfl) hS2 hK2 hP2⟩⟩
  · refine m_on0 hk.1 hkb.2.1 fun I1 hF1 h01 hR1 => ?_
    have e1 : ∀ k i j, 50 ≤ k → I1 k i j = I k i j := fun k i j hk => hF1 _ _ _ (by omega)
    have m1 := (mN_k hm e1).1
    have b1 := mBs_k (J' := J) hmb e1 rfl
    rw [Option.toList_some, List.singleton_append, gb_0_921]
    refine n_on0 m1.1 b1.2.1 fun I2 hF2 h02 hR2 => ?_
    rw [Option.toList_some, List.singleton_append, gb_0_925, if_pos (rfl)]
    exact K I2 J h ⟨tp, 0, _, im, sz, f, p, dr, ⟨⟨by omega, fun j hj => absurd hj (by omega)⟩, hob.2⟩, kBs_f hkb (fun k i j hk hi => by rw [hF2 _ _ _ (by omega), hF1 _ _ _ (by omega)]) rfl (kRf_c hR1 (fun j => hF2 _ _ _ (by omega))) (by rw [hF2 _ _ _ (by omega)]; exact h01) (by rw [hF2 _ _ _ (by omega), hF1 _ _ _ (by omega)]; exact hkb.2.2.2.1.1) (by rw [hF2 _ _ _ (by omega), hF1 _ _ _ (by omega)]; exact hkb.2.2.2.1.2) hkb.2.2.2.2.2.1, mBs_f hmb (fun k i j hk => by rw [hF2 _ _ _ (by omega), hF1 _ _ _ (by omega)]) rfl hR2 h02 (by rw [hF2 _ _ _ (by omega), hF1 _ _ _ (by omega)]; exact hmb.2.2.2.1.1) (by rw [hF2 _ _ _ (by omega), hF1 _ _ _ (by omega)]; exact hmb.2.2.2.1.2), (gCs_c hcs ⟨by rw [hF2 _ _ _ (by omega), hF1 _ _ _ (by omega)], fun k j hk => by rw [hF2 _ _ _ (by omega), hF1 _ _ _ (by omega)], fun k j hk => by rw [hF2 _ _ _ (by omega), hF1 _ _ _ (by omega)], ⟨fun j => by rw [hF2 _ _ _ (by omega), hF1 _ _ _ (by omega)], fun j => by rw [hF2 _ _ _ (by omega), hF1 _ _ _ (by omega)], fun k j hk => by rw [hF2 _ _ _ (by omega), hF1 _ _ _ (by omega)]⟩, fun k j hk => by rw [hF2 _ _ _ (by omega), hF1 _ _ _ (by omega)], ⟨by rw [hF2 _ _ _ (by omega), hF1 _ _ _ (by omega)], by rw [hF2 _ _ _ (by omega), hF1 _ _ _ (by omega)], by rw [hF2 _ _ _ (by omega), hF1 _ _ _ (by omega)]⟩, fun j => by rw [hF2 _ _ _ (by omega), hF1 _ _ _ (by omega)], fun j => by rw [hF2 _ _ _ (by omega), hF1 _ _ _ (by omega)], fun j => by rw [hF2 _ _ _ (by omega), hF1 _ _ _ (by omega)]⟩ (fun j _ => rfl))⟩
theorem w_27 {a3 : Int32} (hI : gInv I J h) (K : ∀ (I' : Nat → Nat → Nat → Int32) (J' : Nat → Nat → Nat → Int64) (h' : Nat × Option gNm), gInv I' J' h' → (gq (d + 90) 0 953 [some (.inr (.inr (some (0, 0)))), some (.inr (.inr (some (10, 0)))), some (.inr (.inr (some (50, 0)))), some (.inl (a3))] [] (gwd S I' J' h') Q)) : (gq (d + 90) 0 867 [some (.inr (.inr (some (0, 0)))), some (.inr (.inr (some (10, 0)))), some (.inr (.inr (some (50, 0)))), some (.inl (a3))] [] (gwd S I J h) Q) := by
  have hI0 := hI
  obtain ⟨tp, n, rf, im, sz, f, p, dr, hob, hkb, hmb, hcs⟩ := hI
  have hg := hkb.2.2.2.2.2.1
  have hx := kTb_tx hkb.1 hob.1 hkb.2.2.2.2.2.2.2
  have hn16 : n ≤ 1600 := by have := hob.1.1; omega
  rw [gb_0_867]
  rcases id hcs with ⟨C, t, lg, nl, ac, sn, rm, hok, hk, hm⟩ | ⟨lg, hk, hm⟩
  · obtain ⟨hc, ⟨hto, h9, hhd, hps⟩, ⟨hn0, hn1⟩, hac, hsk⟩ := id hok
    refine m_askP hx hk.1 hkb.2.2.2.2.2.1 hc hk.2.1 hto hk.2.2.1 (fun I1 f1 p1 w hF1 hf hp h01 => ?_) (fun I1 q x w hF1 hf hp h01 hxv => ?_)
    · have e1 : ∀ k i j, 50 ≤ k → I1 k i j = I k i j := fun k i j hk => hF1 _ _ _ (by omega)
      have m1 := mW_k (J' := J) hc hm e1 (fun j _ => rfl)
      have b1 := mBs_k (J' := J) hmb e1 rfl
      rw [Option.toList_some, List.singleton_append, gb_0_871]
      refine n_ask (tp := tp) (n := n) (t := t) (fun j hj => b1.1.2 j (by omega)) b1.1.1 hn16 (fun j hj => hob.1.2 j (by omega)) b1.2.2.2.2.2.1 hc hto m1.1 m1.2.2.1 (fun I2 f2 p2 w2 hF2 hf2 hp2 h02 => ?_) (fun I2 J2 q2 y w2 => by rw [w] at w2; cases w2)
      rw [Option.toList_some, List.singleton_append, gb_0_875, if_pos ((lg_cmp_eq _ _).mpr (rfl))]
      have e := w.symm.trans w2
      cases e
      exact K I2 J h ⟨tp, 0, rf, im, sz, f1, p1, dr, ⟨⟨by omega, fun j hj => absurd hj (by omega)⟩, hob.2⟩, kBs_f hkb (fun k i j hk hi => by rw [hF2 _ _ _ (by omega), hF1 _ _ _ (by omega)]) rfl (kRf_c hkb.2.1 (fun j => by rw [hF2 _ _ _ (by omega), hF1 _ _ _ (by omega)])) (by rw [hF2 _ _ _ (by omega)]; exact h01) (by rw [hF2 _ _ _ (by omega)]; exact hf) (by rw [hF2 _ _ _ (by omega)]; exact hp) (hkb.2.2.2.2.2.1), mBs_f hmb (fun k i j hk => by rw [hF2 _ _ _ (by omega), hF1 _ _ _ (by omega)]) rfl (mRf_c hmb.2.1 (fun j => by rw [hF2 _ _ _ (by omega), hF1 _ _ _ (by omega)])) h02 (hf2) (hp2), (gCs_c hcs ⟨by rw [hF2 _ _ _ (by omega), hF1 _ _ _ (by omega)], fun k j hk => by rw [hF2 _ _ _ (by omega), hF1 _ _ _ (by omega)], fun k j hk => by rw [hF2 _ _ _ (by omega), hF1 _ _ _ (by omega)], ⟨fun j => by rw [hF2 _ _ _ (by omega), hF1 _ _ _ (by omega)], fun j => by rw [hF2 _ _ _ (by omega), hF1 _ _ _ (by omega)], fun k j hk => by rw [hF2 _ _ _ (by omega), hF1 _ _ _ (by omega)]⟩, fun k j hk => by rw [hF2 _ _ _ (by omega), hF1 _ _ _ (by omega)], ⟨by rw [hF2 _ _ _ (by omega), hF1 _ _ _ (by omega)], by rw [hF2 _ _ _ (by omega), hF1 _ _ _ (by omega)], by rw [hF2 _ _ _ (by omega), hF1 _ _ _ (by omega)]⟩, fun j => by rw [hF2 _ _ _ (by omega), hF1 _ _ _ (by omega)], fun j => by rw [hF2 _ _ _ (by omega), hF1 _ _ _ (by omega)], fun j => by rw [hF2 _ _ _ (by omega), hF1 _ _ _ (by omega)]⟩ (fun j _ => rfl))⟩
    · have e1 : ∀ k i j, 50 ≤ k → I1 k i j = I k i j := fun k i j hk => hF1 _ _ _ (by omega)
      have m1 := mW_k (J' := J) hc hm e1 (fun j _ => rfl)
      have b1 := mBs_k (J' := J) hmb e1 rfl
      rw [Option.toList_some, List.singleton_append, gb_0_871]
      refine n_ask (tp := tp) (n := n) (t := t) (fun j hj => b1.1.2 j (by omega)) b1.1.1 hn16 (fun j hj => hob.1.2 j (by omega)) b1.2.2.2.2.2.1 hc hto m1.1 m1.2.2.1 (fun I2 f2 p2 w2 => by rw [w] at w2; cases w2) (fun I2 J2 q2 y w2 hF2 hJ2 hf2 hp2 h02 hyv => ?_)
      rw [Option.toList_some, List.singleton_append, gb_0_875, if_pos ((lg_cmp_eq _ _).mpr (y_inj (by rw [hxv, hyv])))]
      exact K I2 J2 h ⟨tp, 0, rf, im, sz, 0, -1, dr, ⟨⟨by omega, fun j hj => absurd hj (by omega)⟩, hob.2⟩, kBs_f hkb (fun k i j hk hi => by rw [hF2 _ _ _ (by omega), hF1 _ _ _ (by omega)]) (hJ2 _ _ _ (by omega)) (kRf_c hkb.2.1 (fun j => by rw [hF2 _ _ _ (by omega), hF1 _ _ _ (by omega)])) (by rw [hF2 _ _ _ (by omega)]; exact h01) (by rw [hF2 _ _ _ (by omega), hf]; rfl) (by rw [hF2 _ _ _ (by omega)]; exact hp) (hkb.2.2.2.2.2.1), mBs_f hmb (fun k i j hk => by rw [hF2 _ _ _ (by omega), hF1 _ _ _ (by omega)]) (hJ2 _ _ _ (by omega)) (mRf_c hmb.2.1 (fun j => by rw [hF2 _ _ _ (by omega), hF1 _ _ _ (by omega)])) h02 (by rw [hf2]; rfl) (hp2), gCs_c hcs ⟨by rw [hF2 _ _ _ (by omega), hF1 _ _ _ (by omega)], fun k j hk => by rw [hF2 _ _ _ (by omega), hF1 _ _ _ (by omega)], fun k j hk => by rw [hF2 _ _ _ (by omega), hF1 _ _ _ (by omega)], ⟨fun j => by rw [hF2 _ _ _ (by omega), hF1 _ _ _ (by omega)], fun j => by rw [hF2 _ _ _ (by omega), hF1 _ _ _ (by omega)], fun k j hk => by rw [hF2 _ _ _ (by omega), hF1 _ _ _ (by omega)]⟩, fun k j hk => by rw [hF2 _ _ _ (by omega), hF1 _ _ _ (by omega)], ⟨by rw [hF2 _ _ _ (by omega), hF1 _ _ _ (by omega)], by rw [hF2 _ _ _ (by omega), hF1 _ _ _ (by omega)], by rw [hF2 _ _ _ (by omega), hF1 _ _ _ (by omega)]⟩, fun j => by rw [hF2 _ _ _ (by omega), hF1 _ _ _ (by omega)], fun j => by rw [hF2 _ _ _ (by omega), hF1 _ _ _ (by omega)], fun j => by rw [hF2 _ _ _ (by omega), hF1 _ _ _ (by omega)]⟩ (fun j _ => hJ2 _ _ _ (by omega))⟩
  · refine m_ask0 hk.1 ?_
    generalize hI1 : gup I 11 0 1 0 = I1
    have hF1 : (∀ k i j, ¬ ((k = 11 ∧ i = 0 ∧ j = 1)) → I1 k i j = I k i j) := fun k i j hn => by rw [← hI1, u_ne (by omega)]
    have h01 : I1 11 0 1 = 0 := by rw [← hI1, u_eq]
    have e1 : ∀ k i j, 50 ≤ k → I1 k i j = I k i j := fun k i j hk => hF1 _ _ _ (by omega)
    have m1 := (mN_k hm e1).1
    rw [Option.toList_some, List.singleton_append, gb_0_871]
    refine n_ask0 m1.1 ?_
    rw [Option.toList_some, List.singleton_append, gb_0_875, if_pos ((lg_cmp_eq _ _).mpr (rfl))]
    generalize hI2 : gup I1 50 0 1 0 = I2
    have hF2 : (∀ k i j, ¬ ((k = 50 ∧ i = 0 ∧ j = 1)) → I2 k i j = I1 k i j) := fun k i j hn => by rw [← hI2, u_ne (by omega)]
    have h02 : I2 50 0 1 = 0 := by rw [← hI2, u_eq]
    exact K I2 J h ⟨tp, 0, rf, im, sz, f, p, dr, ⟨⟨by omega, fun j hj => absurd hj (by omega)⟩, hob.2⟩, kBs_f hkb (fun k i j hk hi => by rw [hF2 _ _ _ (by omega), hF1 _ _ _ (by omega)]) rfl (kRf_c hkb.2.1 (fun j => by rw [hF2 _ _ _ (by omega), hF1 _ _ _ (by omega)])) (by rw [hF2 _ _ _ (by omega)]; exact h01) (by rw [hF2 _ _ _ (by omega), hF1 _ _ _ (by omega)]; exact hkb.2.2.2.1.1) (by rw [hF2 _ _ _ (by omega), hF1 _ _ _ (by omega)]; exact hkb.2.2.2.1.2) (hkb.2.2.2.2.2.1), mBs_f hmb (fun k i j hk => by rw [hF2 _ _ _ (by omega), hF1 _ _ _ (by omega)]) rfl (mRf_c hmb.2.1 (fun j => by rw [hF2 _ _ _ (by omega), hF1 _ _ _ (by omega)])) h02 (by rw [hF2 _ _ _ (by omega), hF1 _ _ _ (by omega)]; exact hmb.2.2.2.1.1) (by rw [hF2 _ _ _ (by omega), hF1 _ _ _ (by omega)]; exact hmb.2.2.2.1.2), (gCs_c hcs ⟨by rw [hF2 _ _ _ (by omega), hF1 _ _ _ (by omega)], fun k j hk => by rw [hF2 _ _ _ (by omega), hF1 _ _ _ (by omega)], fun k j hk => by rw [hF2 _ _ _ (by omega), hF1 _ _ _ (by omega)], ⟨fun j => by rw [hF2 _ _ _ (by omega), hF1 _ _ _ (by omega)], fun j => by rw [hF2 _ _ _ (by omega), hF1 _ _ _ (by omega)], fun k j hk => by rw [hF2 _ _ _ (by omega), hF1 _ _ _ (by omega)]⟩, fun k j hk => by rw [hF2 _ _ _ (by omega), hF1 _ _ _ (by omega)], ⟨by rw [hF2 _ _ _ (by omega), hF1 _ _ _ (by omega)], by rw [hF2 _ _ _ (by omega), hF1 _ _ _ (by omega)], by rw [hF2 _ _ _ (by omega), hF1 _ _ _ (by omega)]⟩, fun j => by rw [hF2 _ _ _ (by omega), hF1 _ _ _ (by omega)], fun j => by rw [hF2 _ _ _ (by omega), hF1 _ _ _ (by omega)], fun j => by rw [hF2 _ _ _ (by omega), hF1 _ _ _ (by omega)]⟩ (fun j _ => rfl))⟩
