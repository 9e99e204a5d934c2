/-! The law: the tape, the seed, an image. -/
variable {d S : Nat} {h : Nat × Option gNm} {I : Nat → Nat → Nat → Int32} {J : Nat → Nat → Nat → Int64} {Q : Option gV → gW → Prop}
theorem w_0 {a3 : Int32} (q1 : gin (a3 + 1) S = true) (q2 : gin (a3 + 2) S = true) (q3 : gin (a3 + 3) S = true) (q4 : gin (a3 + 4) S = true) (q5 : gin (a3 + 5) S = true) (hI : gInv I J h) (K : ∀ (I' : Nat → Nat → Nat → Int32) (J' : Nat → Nat → Nat → Int64) (h' : Nat × Option gNm), gInv I' J' h' → (gq (d + 90) 0 953 [some (.inr (.inr (some (0, 0)))), some (.inr (.inr (some (10, 0)))), some (.inr (.inr (some (50, 0)))), some (.inl (a3))] [] (gwd S I' J' h') Q)) : (gq (d + 90) 0 176 [some (.inr (.inr (some (0, 0)))), some (.inr (.inr (some (10, 0)))), some (.inr (.inr (some (50, 0)))), some (.inl (a3))] [] (gwd S I J h) Q) := by
  have hI0 := hI
  obtain ⟨tp, n, rf, im, sz, f, p, dr, hob, hkb, hmb, hcs⟩ := hI
  rw [gb_0_176]
  refine ⟨q1, ?_⟩
  rw [gb_0_182]
  refine ⟨q2, ?_⟩
  rw [gb_0_187]
  refine ⟨q3, ?_⟩
  rw [gb_0_192]
  refine ⟨q4, ?_⟩
  rw [gb_0_197]
  refine ⟨q5, ?_⟩
  rw [gb_0_202]
  refine m_feedB hkb.1 hob.1 hkb.2.1 (fun w I1 hF1 hR1 => ?_) (fun w I1 x hF1 hT1 hx => ?_)
  · have e1 : ∀ k i j, 50 ≤ k → I1 k i j = I k i j := fun k i j hk => hF1 _ _ _ (by omega)
    have e00 : ∀ j, I1 0 0 j = I 0 0 j := fun j => hF1 _ _ _ (by omega)
    have b1 := mBs_k (J' := J) hmb e1 rfl
    rw [Option.toList_some, List.singleton_append, gb_0_205]
    refine ⟨q1, ?_⟩
    rw [gb_0_211]
    refine ⟨q2, ?_⟩
    rw [gb_0_216]
    refine ⟨q3, ?_⟩
    rw [gb_0_221]
    refine ⟨q4, ?_⟩
    rw [gb_0_226]
    refine ⟨q5, ?_⟩
    rw [gb_0_231]
    rw [e00, e00, e00, e00, e00]
    refine n_feed b1.1 hob.1 b1.2.1 (fun w2 I2 hF2 hR2 => ?_) (fun w2 => absurd w2 (by omega))
    rw [Option.toList_some, List.singleton_append, gb_0_234, if_pos (rfl)]
    exact K I2 J h ⟨tp, n, _, im, sz, f, p, dr, hob, kBs_r hkb (fun k i j hk hi => by rw [hF2 _ _ _ (by omega), hF1 _ _ _ (by omega)]) rfl (kRf_c hR1 (fun j => hF2 _ _ _ (by omega))), mBs_r hmb (fun k i j hk => by rw [hF2 _ _ _ (by omega), hF1 _ _ _ (by omega)]) rfl hR2, (gCs_c hcs ⟨by rw [hF2 _ _ _ (by omega), hF1 _ _ _ (by omega)], fun k j hk => by rw [hF2 _ _ _ (by omega), hF1 _ _ _ (by omega)], fun k j hk => by rw [hF2 _ _ _ (by omega), hF1 _ _ _ (by omega)], ⟨fun j => by rw [hF2 _ _ _ (by omega), hF1 _ _ _ (by omega)], fun j => by rw [hF2 _ _ _ (by omega), hF1 _ _ _ (by omega)], fun k j hk => by rw [hF2 _ _ _ (by omega), hF1 _ _ _ (by omega)]⟩, fun k j hk => by rw [hF2 _ _ _ (by omega), hF1 _ _ _ (by omega)], ⟨by rw [hF2 _ _ _ (by omega), hF1 _ _ _ (by omega)], by rw [hF2 _ _ _ (by omega), hF1 _ _ _ (by omega)], by rw [hF2 _ _ _ (by omega), hF1 _ _ _ (by omega)]⟩, fun j => by rw [hF2 _ _ _ (by omega), hF1 _ _ _ (by omega)], fun j => by rw [hF2 _ _ _ (by omega), hF1 _ _ _ (by omega)], fun j => by rw [hF2 _ _ _ (by omega), hF1 _ _ _ (by omega)]⟩ (fun j _ => rfl))⟩
  · have e1 : ∀ k i j, 50 ≤ k → I1 k i j = I k i j := fun k i j hk => hF1 _ _ _ (by omega)
    have e00 : ∀ j, I1 0 0 j = I 0 0 j := fun j => hF1 _ _ _ (by omega)
    have b1 := mBs_k (J' := J) hmb e1 rfl
    rw [Option.toList_some, List.singleton_append, gb_0_205]
    refine ⟨q1, ?_⟩
    rw [gb_0_211]
    refine ⟨q2, ?_⟩
    rw [gb_0_216]
    refine ⟨q3, ?_⟩
    rw [gb_0_221]
    refine ⟨q4, ?_⟩
    rw [gb_0_226]
    refine ⟨q5, ?_⟩
    rw [gb_0_231]
    rw [e00, e00, e00, e00, e00]
    refine n_feed b1.1 hob.1 b1.2.1 (fun w2 => absurd w2 (by omega)) (fun w2 I2 y hF2 hT2 hy => ?_)
    rw [Option.toList_some, List.singleton_append, gb_0_234, if_pos (z_inj (by rw [hx, hy]))]
    have ho := tpOk_puts (f := (gWd (I 0 0 (a3 + 1).toNatClampNeg) (I 0 0 (a3 + 2).toNatClampNeg) (I 0 0 (a3 + 3).toNatClampNeg) (I 0 0 (a3 + 4).toNatClampNeg) (I 0 0 (a3 + 5).toNatClampNeg))) (fun i => gWd_r i) (n := 20) (i := 0) hob.1 (by omega)
    exact K I2 J h ⟨_, n + 20, rf, im, sz, f, p, dr, ⟨ho, hob.2⟩, ⟨kTb_congr hT1 (hF2 _ _ _ (by omega)) (fun j => hF2 _ _ _ (by omega)), kRf_c hkb.2.1 (fun j => by rw [hF2 _ _ _ (by omega), hF1 _ _ _ (by omega)]), kIm_c hkb.2.2.1 (by rw [hF2 _ _ _ (by omega), hF1 _ _ _ (by omega)]) (fun j => by rw [hF2 _ _ _ (by omega), hF1 _ _ _ (by omega)]), ⟨by rw [hF2 _ _ _ (by omega), hF1 _ _ _ (by omega)]; exact hkb.2.2.2.1.1, by rw [hF2 _ _ _ (by omega), hF1 _ _ _ (by omega)]; exact hkb.2.2.2.1.2⟩, hkb.2.2.2.2.1, hkb.2.2.2.2.2.1, fun g hg => by rw [hF2 _ _ _ (by omega), hF1 _ _ _ (by omega)]; exact hkb.2.2.2.2.2.2.1 g hg, gCd_congr (fun k _ _ => by rw [hF2 _ _ _ (by omega), hF1 _ _ _ (by omega)]) hkb.2.2.2.2.2.2.2⟩, ⟨hT2, mRf_c hmb.2.1 (fun j => by rw [hF2 _ _ _ (by omega), hF1 _ _ _ (by omega)]), mIm_c hmb.2.2.1 (by rw [hF2 _ _ _ (by omega), hF1 _ _ _ (by omega)]) (fun j => by rw [hF2 _ _ _ (by omega), hF1 _ _ _ (by omega)]), ⟨by rw [hF2 _ _ _ (by omega), hF1 _ _ _ (by omega)]; exact hmb.2.2.2.1.1, by rw [hF2 _ _ _ (by omega), hF1 _ _ _ (by omega)]; exact hmb.2.2.2.1.2⟩, hmb.2.2.2.2.1, mWs_c hmb.2.2.2.2.2.1 (fun i j => by rw [hF2 _ _ _ (by omega), hF1 _ _ _ (by omega)]), by rw [hF2 _ _ _ (by omega), hF1 _ _ _ (by omega)]; exact hmb.2.2.2.2.2.2⟩, (gCs_c hcs ⟨by rw [hF2 _ _ _ (by omega), hF1 _ _ _ (by omega)], fun k j hk => by rw [hF2 _ _ _ (by omega), hF1 _ _ _ (by omega)], fun k j hk => by rw [hF2 _ _ _ (by omega), hF1 _ _ _ (by omega)], ⟨fun j => by rw [hF2 _ _ _ (by omega), hF1 _ _ _ (by omega)], fun j => by rw [hF2 _ _ _ (by omega), hF1 _ _ _ (by omega)], fun k j hk => by rw [hF2 _ _ _ (by omega), hF1 _ _ _ (by omega)]⟩, fun k j hk => by rw [hF2 _ _ _ (by omega), hF1 _ _ _ (by omega)], ⟨by rw [hF2 _ _ _ (by omega), hF1 _ _ _ (by omega)], by rw [hF2 _ _ _ (by omega), hF1 _ _ _ (by omega)], by rw [hF2 _ _ _ (by omega), hF1 _ _ _ (by omega)]⟩, fun j => by rw [hF2 _ _ _ (by omega), hF1 _ _ _ (by omega)], fun j => by rw [hF2 _ _ _ (by omega), hF1 _ _ _ (by omega)], fun j => by rw [hF2 _ _ _ (by omega), hF1 _ _ _ (by omega)]⟩ (fun j _ => rfl))⟩
theorem w_1 {a3 : Int32} (q1 : gin (a3 + 1) S = true) (hI : gInv I J h) (K : ∀ (I' : Nat → Nat → Nat → Int32) (J' : Nat → Nat → Nat → Int64) (h' : Nat × Option gNm), gInv I' J' h' → (gq (d + 90) 0 953 [some (.inr (.inr (some (0, 0)))), some (.inr (.inr (some (10, 0)))), some (.inr (.inr (some (50, 0)))), some (.inl (a3))] [] (gwd S I' J' h') Q)) : (gq (d + 90) 0 239 [some (.inr (.inr (some (0, 0)))), some (.inr (.inr (some (10, 0)))), some (.inr (.inr (some (50, 0)))), some (.inl (a3))] [] (gwd S I J h) Q) := by
  have hI0 := hI
  obtain ⟨tp, n, rf, im, sz, f, p, dr, hob, hkb, hmb, hcs⟩ := hI
  rw [gb_0_239]
  refine ⟨q1, ?_⟩
  rw [gb_0_245]
  refine m_endTo (ln := n) hkb.1.1.1 hkb.2.1 (fun w I1 hF1 hR1 => ?_) (fun w => ?_)
  · have e1 : ∀ k i j, 50 ≤ k → I1 k i j = I k i j := fun k i j hk => hF1 _ _ _ (by omega)
    have e00 : ∀ j, I1 0 0 j = I 0 0 j := fun j => hF1 _ _ _ (by omega)
    have b1 := mBs_k (J' := J) hmb e1 rfl
    rw [Option.toList_some, List.singleton_append, gb_0_248]
    refine ⟨q1, ?_⟩
    rw [gb_0_254]
    rw [e00]
    refine n_end (ln := n) b1.1.1 b1.2.1 (fun w2 I2 hF2 hR2 => ?_) (fun w2 => absurd w2 w)
    rw [Option.toList_some, List.singleton_append, gb_0_257, if_pos (rfl)]
    exact K I2 J h ⟨tp, n, _, im, sz, f, p, dr, hob, kBs_r hkb (fun k i j hk hi => by rw [hF2 _ _ _ (by omega), hF1 _ _ _ (by omega)]) rfl (kRf_c hR1 (fun j => hF2 _ _ _ (by omega))), mBs_r hmb (fun k i j hk => by rw [hF2 _ _ _ (by omega), hF1 _ _ _ (by omega)]) rfl hR2, (gCs_c hcs ⟨by rw [hF2 _ _ _ (by omega), hF1 _ _ _ (by omega)], fun k j hk => by rw [hF2 _ _ _ (by omega), hF1 _ _ _ (by omega)], fun k j hk => by rw [hF2 _ _ _ (by omega), hF1 _ _ _ (by omega)], ⟨fun j => by rw [hF2 _ _ _ (by omega), hF1 _ _ _ (by omega)], fun j => by rw [hF2 _ _ _ (by omega), hF1 _ _ _ (by omega)], fun k j hk => by rw [hF2 _ _ _ (by omega), hF1 _ _ _ (by omega)]⟩, fun k j hk => by rw [hF2 _ _ _ (by omega), hF1 _ _ _ (by omega)], ⟨by rw [hF2 _ _ _ (by omega), hF1 _ _ _ (by omega)], by rw [hF2 _ _ _ (by omega), hF1 _ _ _ (by omega)], by rw [hF2 _ _ _ (by omega), hF1 _ _ _ (by omega)]⟩, fun j => by rw [hF2 _ _ _ (by omega), hF1 _ _ _ (by omega)], fun j => by rw [hF2 _ _ _ (by omega), hF1 _ _ _ (by omega)], fun j => by rw [hF2 _ _ _ (by omega), hF1 _ _ _ (by omega)]⟩ (fun j _ => rfl))⟩
  · generalize hI1 : gup I 11 0 1 (I 0 0 (a3 + 1).toNatClampNeg) = I1
    have hF1 : (∀ k i j, ¬ ((k = 11 ∧ i = 0 ∧ j = 1)) → I1 k i j = I k i j) := fun k i j hn => by rw [← hI1, u_ne (by omega)]
    have e1 : ∀ k i j, 50 ≤ k → I1 k i j = I k i j := fun k i j hk => hF1 _ _ _ (by omega)
    have e00 : ∀ j, I1 0 0 j = I 0 0 j := fun j => hF1 _ _ _ (by omega)
    have b1 := mBs_k (J' := J) hmb e1 rfl
    rw [Option.toList_some, List.singleton_append, gb_0_248]
    refine ⟨q1, ?_⟩
    rw [gb_0_254]
    rw [e00]
    refine n_end (ln := n) b1.1.1 b1.2.1 (fun w2 => absurd w w2) (fun _ => ?_)
    rw [Option.toList_some, List.singleton_append, gb_0_257, if_pos (rfl)]
    have v1 : I1 11 0 1 = I 0 0 (a3 + 1).toNatClampNeg := by rw [← hI1, u_eq]
    generalize I 0 0 (a3 + 1).toNatClampNeg = z at w v1
    generalize hI2 : gup I1 50 0 1 z = I2
    have hF2 : (∀ k i j, ¬ ((k = 50 ∧ i = 0 ∧ j = 1)) → I2 k i j = I1 k i j) := fun k i j hn => by rw [← hI2, u_ne (by omega)]
    have v2 : I2 50 0 1 = z := by rw [← hI2, u_eq]
    have hz : z.toInt = ((z.toInt.toNat : Nat) : Int) := by omega
    exact K I2 J h ⟨tp, z.toInt.toNat, rf, im, sz, f, p, dr, ⟨⟨by have := hob.1.1; omega, fun j hj => hob.1.2 j (by omega)⟩, hob.2⟩, ⟨⟨⟨by rw [hF2 _ _ _ (by omega), v1]; exact hz, fun j hj => by rw [hF2 _ _ _ (by omega), hF1 _ _ _ (by omega)]; exact hkb.1.1.2 j (by omega)⟩, fun j hj => by rw [hF2 _ _ _ (by omega), hF1 _ _ _ (by omega)]; exact hkb.1.2 j (by omega)⟩, kRf_c hkb.2.1 (fun j => by rw [hF2 _ _ _ (by omega), hF1 _ _ _ (by omega)]), kIm_c hkb.2.2.1 (by rw [hF2 _ _ _ (by omega), hF1 _ _ _ (by omega)]) (fun j => by rw [hF2 _ _ _ (by omega), hF1 _ _ _ (by omega)]), ⟨by rw [hF2 _ _ _ (by omega), hF1 _ _ _ (by omega)]; exact hkb.2.2.2.1.1, by rw [hF2 _ _ _ (by omega), hF1 _ _ _ (by omega)]; exact hkb.2.2.2.1.2⟩, hkb.2.2.2.2.1, hkb.2.2.2.2.2.1, fun g hg => by rw [hF2 _ _ _ (by omega), hF1 _ _ _ (by omega)]; exact hkb.2.2.2.2.2.2.1 g hg, gCd_congr (fun k _ _ => by rw [hF2 _ _ _ (by omega), hF1 _ _ _ (by omega)]) hkb.2.2.2.2.2.2.2⟩, ⟨⟨by rw [v2]; exact hz, fun j hj => by rw [hF2 _ _ _ (by omega), hF1 _ _ _ (by omega)]; exact hmb.1.2 j (by omega)⟩, mRf_c hmb.2.1 (fun j => by rw [hF2 _ _ _ (by omega), hF1 _ _ _ (by omega)]), mIm_c hmb.2.2.1 (by rw [hF2 _ _ _ (by omega), hF1 _ _ _ (by omega)]) (fun j => by rw [hF2 _ _ _ (by omega), hF1 _ _ _ (by omega)]), ⟨by rw [hF2 _ _ _ (by omega), hF1 _ _ _ (by omega)]; exact hmb.2.2.2.1.1, by rw [hF2 _ _ _ (by omega), hF1 _ _ _ (by omega)]; exact hmb.2.2.2.1.2⟩, hmb.2.2.2.2.1, mWs_c hmb.2.2.2.2.2.1 (fun i j => by rw [hF2 _ _ _ (by omega), hF1 _ _ _ (by omega)]), by rw [hF2 _ _ _ (by omega), hF1 _ _ _ (by omega)]; exact hmb.2.2.2.2.2.2⟩, (gCs_c hcs ⟨by rw [hF2 _ _ _ (by omega), hF1 _ _ _ (by omega)], fun k j hk => by rw [hF2 _ _ _ (by omega), hF1 _ _ _ (by omega)], fun k j hk => by rw [hF2 _ _ _ (by omega), hF1 _ _ _ (by omega)], ⟨fun j => by rw [hF2 _ _ _ (by omega), hF1 _ _ _ (by omega)], fun j => by rw [hF2 _ _ _ (by omega), hF1 _ _ _ (by omega)], fun k j hk => by rw [hF2 _ _ _ (by omega), hF1 _ _ _ (by omega)]⟩, fun k j hk => by rw [hF2 _ _ _ (by omega), hF1 _ _ _ (by omega)], ⟨by rw [hF2 _ _ _ (by omega), hF1 _ _ _ (by omega)], by rw [hF2 _ _ _ (by omega), hF1 _ _ _ (by omega)], by rw [hF2 _ _ _ (by omega), hF1 _ _ _ (by omega)]⟩, fun j => by rw [hF2 _ _ _ (by omega), hF1 _ _ _ (by omega)], fun j => by rw [hF2 _ _ _ (by omega), hF1 _ _ _ (by omega)], fun j => by rw [hF2 _ _ _ (by omega), hF1 _ _ _ (by omega)]⟩ (fun j _ => rfl))⟩
theorem w_26 {a3 : Int32} (q1 : gin (a3 + 1) S = true) (hI : gInv I J h) (K : ∀ (I' : Nat → Nat → Nat → Int32) (J' : Nat → Nat → Nat → Int64) (h' : Nat × Option gNm), gInv I' J' h' → (gq (d + 90) 0 953 [some (.inr (.inr (some (0, 0)))), some (.inr (.inr (some (10, 0)))), some (.inr (.inr (some (50, 0)))), some (.inl (a3))] [] (gwd S I' J' h') Q)) : (gq (d + 90) 0 844 [some (.inr (.inr (some (0, 0)))), some (.inr (.inr (some (10, 0)))), some (.inr (.inr (some (50, 0)))), some (.inl (a3))] [] (gwd S I J h) Q) := by
  have hI0 := hI
  obtain ⟨tp, n, rf, im, sz, f, p, dr, hob, hkb, hmb, hcs⟩ := hI
  rw [gb_0_844]
  refine ⟨q1, ?_⟩
  rw [gb_0_850]
  refine m_seed hkb.2.1 (fun w I1 hF1 hR1 => ?_) (fun w J1 hJ1 hj => ?_)
  · have e1 : ∀ k i j, 50 ≤ k → I1 k i j = I k i j := fun k i j hk => hF1 _ _ _ (by omega)
    have e00 : ∀ j, I1 0 0 j = I 0 0 j := fun j => hF1 _ _ _ (by omega)
    have b1 := mBs_k (J' := J) hmb e1 rfl
    rw [Option.toList_some, List.singleton_append, gb_0_853]
    refine ⟨q1, ?_⟩
    rw [gb_0_859]
    rw [e00]
    refine n_seed b1.2.1 (fun w2 I2 hF2 hR2 => ?_) (fun w2 => absurd w2 (by omega))
    rw [Option.toList_some, List.singleton_append, gb_0_862, if_pos (rfl)]
    exact K I2 J h ⟨tp, n, _, im, sz, f, p, dr, hob, kBs_r hkb (fun k i j hk hi => by rw [hF2 _ _ _ (by omega), hF1 _ _ _ (by omega)]) rfl (kRf_c hR1 (fun j => hF2 _ _ _ (by omega))), mBs_r hmb (fun k i j hk => by rw [hF2 _ _ _ (by omega), hF1 _ _ _ (by omega)]) rfl hR2, (gCs_c hcs ⟨by rw [hF2 _ _ _ (by omega), hF1 _ _ _ (by omega)], fun k j hk => by rw [hF2 _ _ _ (by omega), hF1 _ _ _ (by omega)], fun k j hk => by rw [hF2 _ _ _ (by omega), hF1 _ _ _ (by omega)], ⟨fun j => by rw [hF2 _ _ _ (by omega), hF1 _ _ _ (by omega)], fun j => by rw [hF2 _ _ _ (by omega), hF1 _ _ _ (by omega)], fun k j hk => by rw [hF2 _ _ _ (by omega), hF1 _ _ _ (by omega)]⟩, fun k j hk => by rw [hF2 _ _ _ (by omega), hF1 _ _ _ (by omega)], ⟨by rw [hF2 _ _ _ (by omega), hF1 _ _ _ (by omega)], by rw [hF2 _ _ _ (by omega), hF1 _ _ _ (by omega)], by rw [hF2 _ _ _ (by omega), hF1 _ _ _ (by omega)]⟩, fun j => by rw [hF2 _ _ _ (by omega), hF1 _ _ _ (by omega)], fun j => by rw [hF2 _ _ _ (by omega), hF1 _ _ _ (by omega)], fun j => by rw [hF2 _ _ _ (by omega), hF1 _ _ _ (by omega)]⟩ (fun j _ => rfl))⟩
  · rw [Option.toList_some, List.singleton_append, gb_0_853]
    refine ⟨q1, ?_⟩
    rw [gb_0_859]
    refine n_seed hmb.2.1 (fun w2 => absurd w2 (by omega)) (fun w2 J2 hJ2 hj2 => ?_)
    rw [Option.toList_some, List.singleton_append, gb_0_862, if_pos (rfl)]
    have hz := z_hi (I 0 0 (a3 + 1).toNatClampNeg)
    exact K I J2 h ⟨tp, n, rf, im, sz, f, p, _, ⟨hob.1, hob.2.1, w, by omega⟩, ⟨hkb.1, hkb.2.1, hkb.2.2.1, hkb.2.2.2.1, by rw [hJ2 _ _ _ (by omega)]; exact hj, hkb.2.2.2.2.2⟩, ⟨hmb.1, hmb.2.1, hmb.2.2.1, hmb.2.2.2.1, hj2, hmb.2.2.2.2.2⟩, gCs_c hcs ⟨rfl, fun _ _ _ => rfl, fun _ _ _ => rfl, ⟨fun _ => rfl, fun _ => rfl, fun _ _ _ => rfl⟩, fun _ _ _ => rfl, ⟨rfl, rfl, rfl⟩, fun _ => rfl, fun _ => rfl, fun _ => rfl⟩ (fun j _ => by rw [hJ2 _ _ _ (by omega), hJ1 _ _ _ (by omega)])⟩
theorem w_28 {a3 : Int32} (hI : gInv I J h) (K : ∀ (I' : Nat → Nat → Nat → Int32) (J' : Nat → Nat → Nat → Int64) (h' : Nat × Option gNm), gInv I' J' h' → (gq (d + 90) 0 953 [some (.inr (.inr (some (0, 0)))), some (.inr (.inr (some (10, 0)))), some (.inr (.inr (some (50, 0)))), some (.inl (a3))] [] (gwd S I' J' h') Q)) : (gq (d + 90) 0 881 [some (.inr (.inr (some (0, 0)))), some (.inr (.inr (some (10, 0)))), some (.inr (.inr (some (50, 0)))), some (.inl (a3))] [] (gwd S I J h) Q) := by
  have hI0 := hI
  obtain ⟨tp, n, rf, im, sz, f, p, dr, hob, hkb, hmb, hcs⟩ := hI
  rw [gb_0_881]
  rcases id hcs with ⟨C, t, lg, nl, ac, sn, rm, hok, hk, hm⟩ | ⟨lg, hk, hm⟩
  · obtain ⟨hc, ⟨hto, h9, hhd, hps⟩, ⟨hn0, hn1⟩, hac, hsk⟩ := id hok
    have r2 := hc.2.2.1
    have r3 := hc.2.2.2.1
    refine m_imageP hc hk.1 hk.2.1 hto hk.2.2.1 fun I1 x hF1 hi1 hx => ?_
    have e1 : ∀ k i j, 50 ≤ k → I1 k i j = I k i j := fun k i j hk => hF1 _ _ _ (by omega)
    have m1 := mW_k (J' := J) hc hm e1 (fun j _ => rfl)
    have eB : (((C.1 2).toNat : Nat) : Int) = C.1 2 := by omega
    have eH : (((C.1 3).toNat : Nat) : Int) = C.1 3 := by omega
    rw [Option.toList_some, List.singleton_append, gb_0_885]
    refine n_image (B := (C.1 2).toNat) (H := (C.1 3).toNat) (t := t) (by omega) (by omega) (by rw [eB]; exact m1.1.1.2.1) (by rw [eH]; exact m1.1.1.2.2.1) m1.2.2.1.1.1 m1.2.2.1.1.2.1 m1.2.2.1.1.2.2.1 hto.1.1 (fun e => absurd e m1.1.2.2.2.2) (fun _ => m1.2.2.1.1.2.2.2) (fun j hj => ?_) (fun j hj => ?_) (fun j _ => gIm_r hc hto eB j) (fun I2 y hF2 hi2 hy => ?_)
    · have hb := m1.2.2.1.2.1 (j / 2) (by omega)
      unfold gIm
      rw [if_neg (by omega), if_neg (by omega), if_neg (by omega), if_neg (by omega), if_neg (by omega), if_pos (by omega)]
      by_cases e : j % 2 = 0
      · rw [if_pos (by omega), show 4 + j = 4 + 2 * (j / 2) by omega, show (5 + j - 5) / 2 = j / 2 by omega]; exact hb.1
      · rw [if_neg (by omega), show 4 + j = 5 + 2 * (j / 2) by omega, show (5 + j - 5) / 2 = j / 2 by omega]; exact hb.2
    · unfold gIm
      rw [if_neg (by omega), if_neg (by omega), if_neg (by omega), if_neg (by omega), if_neg (by omega), if_neg (by omega), show 5 + 2 * (C.1 2).toNat + j - 5 - 2 * (C.1 2).toNat = j by omega]
      exact m1.2.2.1.2.2 j (by omega)
    · rw [Option.toList_some, List.singleton_append, gb_0_889, if_pos (z_inj (by rw [hx, hy]; omega))]
      have hs30 : 6 + 2 * (C.1 2).toNat + (C.1 3).toNat ≤ 30 := by omega
      have es : 6 + 2 * C.1 2 + C.1 3 = ((6 + 2 * (C.1 2).toNat + (C.1 3).toNat : Nat) : Int) := by omega
      rw [es] at hi1
      exact K I2 J h ⟨tp, n, rf, _, _, f, p, dr, ⟨hob.1, hs30, hob.2.2⟩, ⟨kTb_congr hkb.1 (by rw [hF2 _ _ _ (by omega), hF1 _ _ _ (by omega)]) (fun j => by rw [hF2 _ _ _ (by omega), hF1 _ _ _ (by omega)]), kRf_c hkb.2.1 (fun j => by rw [hF2 _ _ _ (by omega), hF1 _ _ _ (by omega)]), kIm_c hi1 (hF2 _ _ _ (by omega)) (fun j => hF2 _ _ _ (by omega)), ⟨by rw [hF2 _ _ _ (by omega), hF1 _ _ _ (by omega)]; exact hkb.2.2.2.1.1, by rw [hF2 _ _ _ (by omega), hF1 _ _ _ (by omega)]; exact hkb.2.2.2.1.2⟩, hkb.2.2.2.2.1, hkb.2.2.2.2.2.1, fun g hg => by rw [hF2 _ _ _ (by omega), hF1 _ _ _ (by omega)]; exact hkb.2.2.2.2.2.2.1 g hg, gCd_congr (fun k _ _ => by rw [hF2 _ _ _ (by omega), hF1 _ _ _ (by omega)]) hkb.2.2.2.2.2.2.2⟩, ⟨mTp_congr hmb.1 (by rw [hF2 _ _ _ (by omega), hF1 _ _ _ (by omega)]) (fun j => by rw [hF2 _ _ _ (by omega), hF1 _ _ _ (by omega)]), mRf_c hmb.2.1 (fun j => by rw [hF2 _ _ _ (by omega), hF1 _ _ _ (by omega)]), hi2, ⟨by rw [hF2 _ _ _ (by omega), hF1 _ _ _ (by omega)]; exact hmb.2.2.2.1.1, by rw [hF2 _ _ _ (by omega), hF1 _ _ _ (by omega)]; exact hmb.2.2.2.1.2⟩, hmb.2.2.2.2.1, mWs_c hmb.2.2.2.2.2.1 (fun i j => by rw [hF2 _ _ _ (by omega), hF1 _ _ _ (by omega)]), by rw [hF2 _ _ _ (by omega), hF1 _ _ _ (by omega)]; exact hmb.2.2.2.2.2.2⟩, (gCs_c hcs ⟨by rw [hF2 _ _ _ (by omega), hF1 _ _ _ (by omega)], fun k j hk => by rw [hF2 _ _ _ (by omega), hF1 _ _ _ (by omega)], fun k j hk => by rw [hF2 _ _ _ (by omega), hF1 _ _ _ (by omega)], ⟨fun j => by rw [hF2 _ _ _ (by omega), hF1 _ _ _ (by omega)], fun j => by rw [hF2 _ _ _ (by omega), hF1 _ _ _ (by omega)], fun k j hk => by rw [hF2 _ _ _ (by omega), hF1 _ _ _ (by omega)]⟩, fun k j hk => by rw [hF2 _ _ _ (by omega), hF1 _ _ _ (by omega)], ⟨by rw [hF2 _ _ _ (by omega), hF1 _ _ _ (by omega)], by rw [hF2 _ _ _ (by omega), hF1 _ _ _ (by omega)], by rw [hF2 _ _ _ (by omega), hF1 _ _ _ (by omega)]⟩, fun j => by rw [hF2 _ _ _ (by omega), hF1 _ _ _ (by omega)], fun j => by rw [hF2 _ _ _ (by omega), hF1 _ _ _ (by omega)], fun j => by rw [hF2 _ _ _ (by omega), hF1 _ _ _ (by omega)]⟩ (fun j _ => rfl))⟩
  · refine m_image0 hk.1 fun I1 x hF1 hi1 hx => ?_
    have e1 : ∀ k i j, 50 ≤ k → I1 k i j = I k i j := fun k i j hk => hF1 _ _ _ (by omega)
    have m1 := (mN_k hm e1).1
    rw [Option.toList_some, List.singleton_append, gb_0_885]
    refine n_image (B := 0) (H := 0) (t := gT0) (by omega) (by omega) (by rw [m1.2.2.1]; rfl) (by rw [m1.2.2.2.1]; rfl) (by rw [m1.2.2.2.2.1]; rfl) (by rw [m1.2.2.2.2.2.1]; rfl) (by rw [m1.2.2.2.2.2.2.1]; rfl) (by decide) (fun _ => rfl) (fun e => absurd m1.1 e) (fun j hj => absurd hj (by omega)) (fun j hj => absurd hj (by omega)) (fun j hj => ?_) (fun I2 y hF2 hi2 hy => ?_)
    · have e : j = 0 ∨ j = 1 ∨ j = 2 ∨ j = 3 ∨ j = 4 := by omega
      rcases e with rfl | rfl | rfl | rfl | rfl <;> decide
    · rw [Option.toList_some, List.singleton_append, gb_0_889, if_pos (z_inj (by rw [hx, hy]; rfl))]
      have hs30 : 6 + 2 * 0 + 0 ≤ 30 := by omega
      exact K I2 J h ⟨tp, n, rf, _, _, f, p, dr, ⟨hob.1, hs30, hob.2.2⟩, ⟨kTb_congr hkb.1 (by rw [hF2 _ _ _ (by omega), hF1 _ _ _ (by omega)]) (fun j => by rw [hF2 _ _ _ (by omega), hF1 _ _ _ (by omega)]), kRf_c hkb.2.1 (fun j => by rw [hF2 _ _ _ (by omega), hF1 _ _ _ (by omega)]), kIm_c hi1 (hF2 _ _ _ (by omega)) (fun j => hF2 _ _ _ (by omega)), ⟨by rw [hF2 _ _ _ (by omega), hF1 _ _ _ (by omega)]; exact hkb.2.2.2.1.1, by rw [hF2 _ _ _ (by omega), hF1 _ _ _ (by omega)]; exact hkb.2.2.2.1.2⟩, hkb.2.2.2.2.1, hkb.2.2.2.2.2.1, fun g hg => by rw [hF2 _ _ _ (by omega), hF1 _ _ _ (by omega)]; exact hkb.2.2.2.2.2.2.1 g hg, gCd_congr (fun k _ _ => by rw [hF2 _ _ _ (by omega), hF1 _ _ _ (by omega)]) hkb.2.2.2.2.2.2.2⟩, ⟨mTp_congr hmb.1 (by rw [hF2 _ _ _ (by omega), hF1 _ _ _ (by omega)]) (fun j => by rw [hF2 _ _ _ (by omega), hF1 _ _ _ (by omega)]), mRf_c hmb.2.1 (fun j => by rw [hF2 _ _ _ (by omega), hF1 _ _ _ (by omega)]), hi2, ⟨by rw [hF2 _ _ _ (by omega), hF1 _ _ _ (by omega)]; exact hmb.2.2.2.1.1, by rw [hF2 _ _ _ (by omega), hF1 _ _ _ (by omega)]; exact hmb.2.2.2.1.2⟩, hmb.2.2.2.2.1, mWs_c hmb.2.2.2.2.2.1 (fun i j => by rw [hF2 _ _ _ (by omega), hF1 _ _ _ (by omega)]), by rw [hF2 _ _ _ (by omega), hF1 _ _ _ (by omega)]; exact hmb.2.2.2.2.2.2⟩, (gCs_c hcs ⟨by rw [hF2 _ _ _ (by omega), hF1 _ _ _ (by omega)], fun k j hk => by rw [hF2 _ _ _ (by omega), hF1 _ _ _ (by omega)], fun k j hk => by rw [hF2 _ _ _ (by omega), hF1 _ _ _ (by omega)], ⟨fun j => by rw [hF2 _ _ _ (by omega), hF1 _ _ _ (by omega)], fun j => by rw [hF2 _ _ _ (by omega), hF1 _ _ _ (by omega)], fun k j hk => by rw [hF2 _ _ _ (by omega), hF1 _ _ _ (by omega)]⟩, fun k j hk => by rw [hF2 _ _ _ (by omega), hF1 _ _ _ (by omega)], ⟨by rw [hF2 _ _ _ (by omega), hF1 _ _ _ (by omega)], by rw [hF2 _ _ _ (by omega), hF1 _ _ _ (by omega)], by rw [hF2 _ _ _ (by omega), hF1 _ _ _ (by omega)]⟩, fun j => by rw [hF2 _ _ _ (by omega), hF1 _ _ _ (by omega)], fun j => by rw [hF2 _ _ _ (by omega), hF1 _ _ _ (by omega)], fun j => by rw [hF2 _ _ _ (by omega), hF1 _ _ _ (by omega)]⟩ (fun j _ => rfl))⟩
