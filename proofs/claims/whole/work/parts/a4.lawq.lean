/-! The law: calls that ask. -/
variable {d S : Nat} {h : Nat × Option gNm} {I : Nat → Nat → Nat → Int32} {J : Nat → Nat → Nat → Int64} {Q : Option gV → gW → Prop}
theorem w_10 {a3 : Int32} (q1 : gin (a3 + 1) S = true) (q2 : gin (a3 + 2) S = true) (hI : gInv I J h) (K : ∀ (I' : Nat → Nat → Nat → Int32) (J' : Nat → Nat → Nat → Int64) (h' : Nat × Option gNm), gInv I' J' h' → (gq (d + 90) 0 953 [some (.inr (.inr (some (0, 0)))), some (.inr (.inr (some (10, 0)))), some (.inr (.inr (some (50, 0)))), some (.inl (a3))] [] (gwd S I' J' h') Q)) : (gq (d + 90) 0 496 [some (.inr (.inr (some (0, 0)))), some (.inr (.inr (some (10, 0)))), some (.inr (.inr (some (50, 0)))), some (.inl (a3))] [] (gwd S I J h) Q) := by
  have hI0 := hI
  obtain ⟨tp, n, rf, im, sz, f, p, dr, hob, hkb, hmb, hcs⟩ := hI
  rw [gb_0_496]
  refine ⟨q1, ?_⟩
  rw [gb_0_502]
  refine ⟨q2, ?_⟩
  rw [gb_0_507]
  rcases id hcs with ⟨C, t, lg, nl, ac, sn, rm, hok, hk, hm⟩ | ⟨lg, hk, hm⟩
  · obtain ⟨hc, ⟨hto, h9, hhd, hps⟩, ⟨hn0, hn1⟩, hac, hsk⟩ := id hok
    refine m_laterP hc hk.1 hk.2.1 hto hk.2.2.1 fun I1 x hF1 hx => ?_
    have e1 : ∀ k i j, 50 ≤ k → I1 k i j = I k i j := fun k i j hk => hF1 _ _ _ (by omega)
    have e00 : ∀ j, I1 0 0 j = I 0 0 j := fun j => hF1 _ _ _ (by omega)
    have m1 := mW_k (J' := J) hc hm e1 (fun j _ => rfl)
    have b1 := mBs_k (J' := J) hmb e1 rfl
    rw [Option.toList_some, List.singleton_append, gb_0_510]
    refine ⟨q1, ?_⟩
    rw [gb_0_516]
    refine ⟨q2, ?_⟩
    rw [gb_0_521]
    rw [e00, e00]
    refine n_later hc m1.1 hto h9 hps m1.2.2.1 b1.2.2.2.2.2.2 fun I2 J2 y hF2 hJ2 hy => ?_
    rw [Option.toList_some, List.singleton_append, gb_0_524, if_pos (z_inj (by rw [hx, hy]))]
    exact K I2 J2 h (gInv_q hob hkb hmb hcs (fun k i j hk hi => by rw [hF2 _ _ _ (by omega), hF1 _ _ _ (by omega)]) (fun k i j hk => by rw [hF2 _ _ _ (by omega), hF1 _ _ _ (by omega)]) ⟨by rw [hF2 _ _ _ (by omega), hF1 _ _ _ (by omega)], fun k j hk => by rw [hF2 _ _ _ (by omega), hF1 _ _ _ (by omega)], fun k j hk => by rw [hF2 _ _ _ (by omega), hF1 _ _ _ (by omega)], ⟨fun j => by rw [hF2 _ _ _ (by omega), hF1 _ _ _ (by omega)], fun j => by rw [hF2 _ _ _ (by omega), hF1 _ _ _ (by omega)], fun k j hk => by rw [hF2 _ _ _ (by omega), hF1 _ _ _ (by omega)]⟩, fun k j hk => by rw [hF2 _ _ _ (by omega), hF1 _ _ _ (by omega)], ⟨by rw [hF2 _ _ _ (by omega), hF1 _ _ _ (by omega)], by rw [hF2 _ _ _ (by omega), hF1 _ _ _ (by omega)], by rw [hF2 _ _ _ (by omega), hF1 _ _ _ (by omega)]⟩, fun j => by rw [hF2 _ _ _ (by omega), hF1 _ _ _ (by omega)], fun j => by rw [hF2 _ _ _ (by omega), hF1 _ _ _ (by omega)], fun j => by rw [hF2 _ _ _ (by omega), hF1 _ _ _ (by omega)]⟩ (hJ2 _ _ _ (by omega)) (hJ2 _ _ _ (by omega)) (fun j => hJ2 _ _ _ (by omega)))
  · refine m_later0 hk.1 fun x hx => ?_
    rw [Option.toList_some, List.singleton_append, gb_0_510]
    refine ⟨q1, ?_⟩
    rw [gb_0_516]
    refine ⟨q2, ?_⟩
    rw [gb_0_521]
    refine n_later0 hm.1.1 fun y hy => ?_
    rw [Option.toList_some, List.singleton_append, gb_0_524, if_pos (z_inj (by rw [hx, hy]))]
    exact K I J h hI0
theorem w_11 {a3 : Int32} (hI : gInv I J h) (K : ∀ (I' : Nat → Nat → Nat → Int32) (J' : Nat → Nat → Nat → Int64) (h' : Nat × Option gNm), gInv I' J' h' → (gq (d + 90) 0 953 [some (.inr (.inr (some (0, 0)))), some (.inr (.inr (some (10, 0)))), some (.inr (.inr (some (50, 0)))), some (.inl (a3))] [] (gwd S I' J' h') Q)) : (gq (d + 90) 0 529 [some (.inr (.inr (some (0, 0)))), some (.inr (.inr (some (10, 0)))), some (.inr (.inr (some (50, 0)))), some (.inl (a3))] [] (gwd S I J h) Q) := by
  have hI0 := hI
  obtain ⟨tp, n, rf, im, sz, f, p, dr, hob, hkb, hmb, hcs⟩ := hI
  rw [gb_0_529]
  rcases id hcs with ⟨C, t, lg, nl, ac, sn, rm, hok, hk, hm⟩ | ⟨lg, hk, hm⟩
  · obtain ⟨hc, ⟨hto, h9, hhd, hps⟩, ⟨hn0, hn1⟩, hac, hsk⟩ := id hok
    refine m_throughP hc hk.1 hk.2.1 hto h9 hk.2.2.1 fun I1 x hF1 hx => ?_
    have e1 : ∀ k i j, 50 ≤ k → I1 k i j = I k i j := fun k i j hk => hF1 _ _ _ (by omega)
    have m1 := mW_k (J' := J) hc hm e1 (fun j _ => rfl)
    have b1 := mBs_k (J' := J) hmb e1 rfl
    rw [Option.toList_some, List.singleton_append, gb_0_533]
    refine n_through hc m1.1 hto h9 m1.2.2.1 b1.2.2.2.2.2.2 fun I2 J2 y hF2 hJ2 hy => ?_
    rw [Option.toList_some, List.singleton_append, gb_0_537, if_pos (z_inj (by rw [hx, hy]))]
    exact K I2 J2 h (gInv_q hob hkb hmb hcs (fun k i j hk hi => by rw [hF2 _ _ _ (by omega), hF1 _ _ _ (by omega)]) (fun k i j hk => by rw [hF2 _ _ _ (by omega), hF1 _ _ _ (by omega)]) ⟨by rw [hF2 _ _ _ (by omega), hF1 _ _ _ (by omega)], fun k j hk => by rw [hF2 _ _ _ (by omega), hF1 _ _ _ (by omega)], fun k j hk => by rw [hF2 _ _ _ (by omega), hF1 _ _ _ (by omega)], ⟨fun j => by rw [hF2 _ _ _ (by omega), hF1 _ _ _ (by omega)], fun j => by rw [hF2 _ _ _ (by omega), hF1 _ _ _ (by omega)], fun k j hk => by rw [hF2 _ _ _ (by omega), hF1 _ _ _ (by omega)]⟩, fun k j hk => by rw [hF2 _ _ _ (by omega), hF1 _ _ _ (by omega)], ⟨by rw [hF2 _ _ _ (by omega), hF1 _ _ _ (by omega)], by rw [hF2 _ _ _ (by omega), hF1 _ _ _ (by omega)], by rw [hF2 _ _ _ (by omega), hF1 _ _ _ (by omega)]⟩, fun j => by rw [hF2 _ _ _ (by omega), hF1 _ _ _ (by omega)], fun j => by rw [hF2 _ _ _ (by omega), hF1 _ _ _ (by omega)], fun j => by rw [hF2 _ _ _ (by omega), hF1 _ _ _ (by omega)]⟩ (hJ2 _ _ _ (by omega)) (hJ2 _ _ _ (by omega)) (fun j => hJ2 _ _ _ (by omega)))
  · refine m_through0 hk.1 fun x hx => ?_
    rw [Option.toList_some, List.singleton_append, gb_0_533]
    refine n_through0 hm.1.1 fun y hy => ?_
    rw [Option.toList_some, List.singleton_append, gb_0_537, if_pos (z_inj (by rw [hx, hy]))]
    exact K I J h hI0
theorem w_12 {a3 : Int32} (hI : gInv I J h) (K : ∀ (I' : Nat → Nat → Nat → Int32) (J' : Nat → Nat → Nat → Int64) (h' : Nat × Option gNm), gInv I' J' h' → (gq (d + 90) 0 953 [some (.inr (.inr (some (0, 0)))), some (.inr (.inr (some (10, 0)))), some (.inr (.inr (some (50, 0)))), some (.inl (a3))] [] (gwd S I' J' h') Q)) : (gq (d + 90) 0 542 [some (.inr (.inr (some (0, 0)))), some (.inr (.inr (some (10, 0)))), some (.inr (.inr (some (50, 0)))), some (.inl (a3))] [] (gwd S I J h) Q) := by
  have hI0 := hI
  obtain ⟨tp, n, rf, im, sz, f, p, dr, hob, hkb, hmb, hcs⟩ := hI
  rw [gb_0_542]
  rcases id hcs with ⟨C, t, lg, nl, ac, sn, rm, hok, hk, hm⟩ | ⟨lg, hk, hm⟩
  · obtain ⟨hc, ⟨hto, h9, hhd, hps⟩, ⟨hn0, hn1⟩, hac, hsk⟩ := id hok
    refine m_fewP hc hk.1 hk.2.1 hto h9 hk.2.2.1 fun I1 x hF1 hx => ?_
    have e1 : ∀ k i j, 50 ≤ k → I1 k i j = I k i j := fun k i j hk => hF1 _ _ _ (by omega)
    have m1 := mW_k (J' := J) hc hm e1 (fun j _ => rfl)
    have b1 := mBs_k (J' := J) hmb e1 rfl
    rw [Option.toList_some, List.singleton_append, gb_0_546]
    refine n_few hc m1.1 hto h9 hhd m1.2.2.1 b1.2.2.2.2.2.2 fun I2 J2 y hF2 hJ2 hy => ?_
    rw [Option.toList_some, List.singleton_append, gb_0_550, if_pos (z_inj (by rw [hx, hy]))]
    exact K I2 J2 h (gInv_q hob hkb hmb hcs (fun k i j hk hi => by rw [hF2 _ _ _ (by omega), hF1 _ _ _ (by omega)]) (fun k i j hk => by rw [hF2 _ _ _ (by omega), hF1 _ _ _ (by omega)]) ⟨by rw [hF2 _ _ _ (by omega), hF1 _ _ _ (by omega)], fun k j hk => by rw [hF2 _ _ _ (by omega), hF1 _ _ _ (by omega)], fun k j hk => by rw [hF2 _ _ _ (by omega), hF1 _ _ _ (by omega)], ⟨fun j => by rw [hF2 _ _ _ (by omega), hF1 _ _ _ (by omega)], fun j => by rw [hF2 _ _ _ (by omega), hF1 _ _ _ (by omega)], fun k j hk => by rw [hF2 _ _ _ (by omega), hF1 _ _ _ (by omega)]⟩, fun k j hk => by rw [hF2 _ _ _ (by omega), hF1 _ _ _ (by omega)], ⟨by rw [hF2 _ _ _ (by omega), hF1 _ _ _ (by omega)], by rw [hF2 _ _ _ (by omega), hF1 _ _ _ (by omega)], by rw [hF2 _ _ _ (by omega), hF1 _ _ _ (by omega)]⟩, fun j => by rw [hF2 _ _ _ (by omega), hF1 _ _ _ (by omega)], fun j => by rw [hF2 _ _ _ (by omega), hF1 _ _ _ (by omega)], fun j => by rw [hF2 _ _ _ (by omega), hF1 _ _ _ (by omega)]⟩ (hJ2 _ _ _ (by omega)) (hJ2 _ _ _ (by omega)) (fun j => hJ2 _ _ _ (by omega)))
  · refine m_few0 hk.1 fun x hx => ?_
    rw [Option.toList_some, List.singleton_append, gb_0_546]
    refine n_few0 hm.1.1 fun y hy => ?_
    rw [Option.toList_some, List.singleton_append, gb_0_550, if_pos (z_inj (by rw [hx, hy]))]
    exact K I J h hI0
theorem w_13 {a3 : Int32} (q1 : gin (a3 + 1) S = true) (q2 : gin (a3 + 2) S = true) (hI : gInv I J h) (K : ∀ (I' : Nat → Nat → Nat → Int32) (J' : Nat → Nat → Nat → Int64) (h' : Nat × Option gNm), gInv I' J' h' → (gq (d + 90) 0 953 [some (.inr (.inr (some (0, 0)))), some (.inr (.inr (some (10, 0)))), some (.inr (.inr (some (50, 0)))), some (.inl (a3))] [] (gwd S I' J' h') Q)) : (gq (d + 90) 0 555 [some (.inr (.inr (some (0, 0)))), some (.inr (.inr (some (10, 0)))), some (.inr (.inr (some (50, 0)))), some (.inl (a3))] [] (gwd S I J h) Q) := by
  have hI0 := hI
  obtain ⟨tp, n, rf, im, sz, f, p, dr, hob, hkb, hmb, hcs⟩ := hI
  rw [gb_0_555]
  refine ⟨q1, ?_⟩
  rw [gb_0_561]
  refine ⟨q2, ?_⟩
  rw [gb_0_566]
  rcases id hcs with ⟨C, t, lg, nl, ac, sn, rm, hok, hk, hm⟩ | ⟨lg, hk, hm⟩
  · obtain ⟨hc, ⟨hto, h9, hhd, hps⟩, ⟨hn0, hn1⟩, hac, hsk⟩ := id hok
    refine m_postP hc hk.1 hk.2.1 hto h9 hk.2.2.1 fun I1 x hF1 hx => ?_
    have e1 : ∀ k i j, 50 ≤ k → I1 k i j = I k i j := fun k i j hk => hF1 _ _ _ (by omega)
    have e00 : ∀ j, I1 0 0 j = I 0 0 j := fun j => hF1 _ _ _ (by omega)
    have m1 := mW_k (J' := J) hc hm e1 (fun j _ => rfl)
    have b1 := mBs_k (J' := J) hmb e1 rfl
    rw [Option.toList_some, List.singleton_append, gb_0_569]
    refine ⟨q1, ?_⟩
    rw [gb_0_575]
    refine ⟨q2, ?_⟩
    rw [gb_0_580]
    rw [e00, e00]
    refine n_post hc m1.1 hto h9 m1.2.2.1 b1.2.2.2.2.2.2 fun I2 J2 y hF2 hJ2 hy => ?_
    rw [Option.toList_some, List.singleton_append, gb_0_583, if_pos (z_inj (by rw [hx, hy]))]
    exact K I2 J2 h (gInv_q hob hkb hmb hcs (fun k i j hk hi => by rw [hF2 _ _ _ (by omega), hF1 _ _ _ (by omega)]) (fun k i j hk => by rw [hF2 _ _ _ (by omega), hF1 _ _ _ (by omega)]) ⟨by rw [hF2 _ _ _ (by omega), hF1 _ _ _ (by omega)], fun k j hk => by rw [hF2 _ _ _ (by omega), hF1 _ _ _ (by omega)], fun k j hk => by rw [hF2 _ _ _ (by omega), hF1 _ _ _ (by omega)], ⟨fun j => by rw [hF2 _ _ _ (by omega), hF1 _ _ _ (by omega)], fun j => by rw [hF2 _ _ _ (by omega), hF1 _ _ _ (by omega)], fun k j hk => by rw [hF2 _ _ _ (by omega), hF1 _ _ _ (by omega)]⟩, fun k j hk => by rw [hF2 _ _ _ (by omega), hF1 _ _ _ (by omega)], ⟨by rw [hF2 _ _ _ (by omega), hF1 _ _ _ (by omega)], by rw [hF2 _ _ _ (by omega), hF1 _ _ _ (by omega)], by rw [hF2 _ _ _ (by omega), hF1 _ _ _ (by omega)]⟩, fun j => by rw [hF2 _ _ _ (by omega), hF1 _ _ _ (by omega)], fun j => by rw [hF2 _ _ _ (by omega), hF1 _ _ _ (by omega)], fun j => by rw [hF2 _ _ _ (by omega), hF1 _ _ _ (by omega)]⟩ (hJ2 _ _ _ (by omega)) (hJ2 _ _ _ (by omega)) (fun j => hJ2 _ _ _ (by omega)))
  · refine m_post0 hk.1 fun x hx => ?_
    rw [Option.toList_some, List.singleton_append, gb_0_569]
    refine ⟨q1, ?_⟩
    rw [gb_0_575]
    refine ⟨q2, ?_⟩
    rw [gb_0_580]
    refine n_post0 hm.1.2.2.1 fun y hy => ?_
    rw [Option.toList_some, List.singleton_append, gb_0_583, if_pos (z_inj (by rw [hx, hy]))]
    exact K I J h hI0
theorem w_14 {a3 : Int32} (q1 : gin (a3 + 1) S = true) (hI : gInv I J h) (K : ∀ (I' : Nat → Nat → Nat → Int32) (J' : Nat → Nat → Nat → Int64) (h' : Nat × Option gNm), gInv I' J' h' → (gq (d + 90) 0 953 [some (.inr (.inr (some (0, 0)))), some (.inr (.inr (some (10, 0)))), some (.inr (.inr (some (50, 0)))), some (.inl (a3))] [] (gwd S I' J' h') Q)) : (gq (d + 90) 0 588 [some (.inr (.inr (some (0, 0)))), some (.inr (.inr (some (10, 0)))), some (.inr (.inr (some (50, 0)))), some (.inl (a3))] [] (gwd S I J h) Q) := by
  have hI0 := hI
  obtain ⟨tp, n, rf, im, sz, f, p, dr, hob, hkb, hmb, hcs⟩ := hI
  rw [gb_0_588]
  refine ⟨q1, ?_⟩
  rw [gb_0_594]
  rcases id hcs with ⟨C, t, lg, nl, ac, sn, rm, hok, hk, hm⟩ | ⟨lg, hk, hm⟩
  · obtain ⟨hc, ⟨hto, h9, hhd, hps⟩, ⟨hn0, hn1⟩, hac, hsk⟩ := id hok
    refine m_changeP hc hk.1 hk.2.1 hto h9 hk.2.2.1 fun I1 x hF1 hx => ?_
    have e1 : ∀ k i j, 50 ≤ k → I1 k i j = I k i j := fun k i j hk => hF1 _ _ _ (by omega)
    have e00 : ∀ j, I1 0 0 j = I 0 0 j := fun j => hF1 _ _ _ (by omega)
    have m1 := mW_k (J' := J) hc hm e1 (fun j _ => rfl)
    have b1 := mBs_k (J' := J) hmb e1 rfl
    rw [Option.toList_some, List.singleton_append, gb_0_597]
    refine ⟨q1, ?_⟩
    rw [gb_0_603]
    rw [e00]
    refine n_change hc m1.1 hto h9 m1.2.2.1 b1.2.2.2.2.2.2 fun I2 J2 y hF2 hJ2 hy => ?_
    rw [Option.toList_some, List.singleton_append, gb_0_606, if_pos (z_inj (by rw [hx, hy]))]
    exact K I2 J2 h (gInv_q hob hkb hmb hcs (fun k i j hk hi => by rw [hF2 _ _ _ (by omega), hF1 _ _ _ (by omega)]) (fun k i j hk => by rw [hF2 _ _ _ (by omega), hF1 _ _ _ (by omega)]) ⟨by rw [hF2 _ _ _ (by omega), hF1 _ _ _ (by omega)], fun k j hk => by rw [hF2 _ _ _ (by omega), hF1 _ _ _ (by omega)], fun k j hk => by rw [hF2 _ _ _ (by omega), hF1 _ _ _ (by omega)], ⟨fun j => by rw [hF2 _ _ _ (by omega), hF1 _ _ _ (by omega)], fun j => by rw [hF2 _ _ _ (by omega), hF1 _ _ _ (by omega)], fun k j hk => by rw [hF2 _ _ _ (by omega), hF1 _ _ _ (by omega)]⟩, fun k j hk => by rw [hF2 _ _ _ (by omega), hF1 _ _ _ (by omega)], ⟨by rw [hF2 _ _ _ (by omega), hF1 _ _ _ (by omega)], by rw [hF2 _ _ _ (by omega), hF1 _ _ _ (by omega)], by rw [hF2 _ _ _ (by omega), hF1 _ _ _ (by omega)]⟩, fun j => by rw [hF2 _ _ _ (by omega), hF1 _ _ _ (by omega)], fun j => by rw [hF2 _ _ _ (by omega), hF1 _ _ _ (by omega)], fun j => by rw [hF2 _ _ _ (by omega), hF1 _ _ _ (by omega)]⟩ (hJ2 _ _ _ (by omega)) (hJ2 _ _ _ (by omega)) (fun j => hJ2 _ _ _ (by omega)))
  · refine m_change0 hk.1 fun x hx => ?_
    rw [Option.toList_some, List.singleton_append, gb_0_597]
    refine ⟨q1, ?_⟩
    rw [gb_0_603]
    refine n_change0 hm.1.1 fun y hy => ?_
    rw [Option.toList_some, List.singleton_append, gb_0_606, if_pos (z_inj (by rw [hx, hy]))]
    exact K I J h hI0
theorem w_15 {a3 : Int32} (hI : gInv I J h) (K : ∀ (I' : Nat → Nat → Nat → Int32) (J' : Nat → Nat → Nat → Int64) (h' : Nat × Option gNm), gInv I' J' h' → (gq (d + 90) 0 953 [some (.inr (.inr (some (0, 0)))), some (.inr (.inr (some (10, 0)))), some (.inr (.inr (some (50, 0)))), some (.inl (a3))] [] (gwd S I' J' h') Q)) : (gq (d + 90) 0 611 [some (.inr (.inr (some (0, 0)))), some (.inr (.inr (some (10, 0)))), some (.inr (.inr (some (50, 0)))), some (.inl (a3))] [] (gwd S I J h) Q) := by
  have hI0 := hI
  obtain ⟨tp, n, rf, im, sz, f, p, dr, hob, hkb, hmb, hcs⟩ := hI
  rw [gb_0_611]
  rcases id hcs with ⟨C, t, lg, nl, ac, sn, rm, hok, hk, hm⟩ | ⟨lg, hk, hm⟩
  · obtain ⟨hc, ⟨hto, h9, hhd, hps⟩, ⟨hn0, hn1⟩, hac, hsk⟩ := id hok
    refine m_leastP hc hk.1 hk.2.1 hto h9 hk.2.2.1 fun I1 x hF1 hx => ?_
    have e1 : ∀ k i j, 50 ≤ k → I1 k i j = I k i j := fun k i j hk => hF1 _ _ _ (by omega)
    have m1 := mW_k (J' := J) hc hm e1 (fun j _ => rfl)
    have b1 := mBs_k (J' := J) hmb e1 rfl
    rw [Option.toList_some, List.singleton_append, gb_0_615]
    refine n_least hc m1.1 hto h9 m1.2.2.1 b1.2.2.2.2.2.2 fun I2 J2 y hF2 hJ2 hy => ?_
    rw [Option.toList_some, List.singleton_append, gb_0_619, if_pos (z_inj (by rw [hx, hy]))]
    exact K I2 J2 h (gInv_q hob hkb hmb hcs (fun k i j hk hi => by rw [hF2 _ _ _ (by omega), hF1 _ _ _ (by omega)]) (fun k i j hk => by rw [hF2 _ _ _ (by omega), hF1 _ _ _ (by omega)]) ⟨by rw [hF2 _ _ _ (by omega), hF1 _ _ _ (by omega)], fun k j hk => by rw [hF2 _ _ _ (by omega), hF1 _ _ _ (by omega)], fun k j hk => by rw [hF2 _ _ _ (by omega), hF1 _ _ _ (by omega)], ⟨fun j => by rw [hF2 _ _ _ (by omega), hF1 _ _ _ (by omega)], fun j => by rw [hF2 _ _ _ (by omega), hF1 _ _ _ (by omega)], fun k j hk => by rw [hF2 _ _ _ (by omega), hF1 _ _ _ (by omega)]⟩, fun k j hk => by rw [hF2 _ _ _ (by omega), hF1 _ _ _ (by omega)], ⟨by rw [hF2 _ _ _ (by omega), hF1 _ _ _ (by omega)], by rw [hF2 _ _ _ (by omega), hF1 _ _ _ (by omega)], by rw [hF2 _ _ _ (by omega), hF1 _ _ _ (by omega)]⟩, fun j => by rw [hF2 _ _ _ (by omega), hF1 _ _ _ (by omega)], fun j => by rw [hF2 _ _ _ (by omega), hF1 _ _ _ (by omega)], fun j => by rw [hF2 _ _ _ (by omega), hF1 _ _ _ (by omega)]⟩ (hJ2 _ _ _ (by omega)) (hJ2 _ _ _ (by omega)) (fun j => hJ2 _ _ _ (by omega)))
  · refine m_least0 hk.1 fun x hx => ?_
    rw [Option.toList_some, List.singleton_append, gb_0_615]
    refine n_least0 hm.1.1 fun y hy => ?_
    rw [Option.toList_some, List.singleton_append, gb_0_619, if_pos (z_inj (by rw [hx, hy]))]
    exact K I J h hI0
theorem w_16 {a3 : Int32} (hI : gInv I J h) (K : ∀ (I' : Nat → Nat → Nat → Int32) (J' : Nat → Nat → Nat → Int64) (h' : Nat × Option gNm), gInv I' J' h' → (gq (d + 90) 0 953 [some (.inr (.inr (some (0, 0)))), some (.inr (.inr (some (10, 0)))), some (.inr (.inr (some (50, 0)))), some (.inl (a3))] [] (gwd S I' J' h') Q)) : (gq (d + 90) 0 624 [some (.inr (.inr (some (0, 0)))), some (.inr (.inr (some (10, 0)))), some (.inr (.inr (some (50, 0)))), some (.inl (a3))] [] (gwd S I J h) Q) := by
  have hI0 := hI
  obtain ⟨tp, n, rf, im, sz, f, p, dr, hob, hkb, hmb, hcs⟩ := hI
  rw [gb_0_624]
  rcases id hcs with ⟨C, t, lg, nl, ac, sn, rm, hok, hk, hm⟩ | ⟨lg, hk, hm⟩
  · obtain ⟨hc, ⟨hto, h9, hhd, hps⟩, ⟨hn0, hn1⟩, hac, hsk⟩ := id hok
    refine m_oddsP hc hk.1 hk.2.1 hto hk.2.2.1 fun I1 x hF1 hx => ?_
    have e1 : ∀ k i j, 50 ≤ k → I1 k i j = I k i j := fun k i j hk => hF1 _ _ _ (by omega)
    have m1 := mW_k (J' := J) hc hm e1 (fun j _ => rfl)
    have b1 := mBs_k (J' := J) hmb e1 rfl
    rw [Option.toList_some, List.singleton_append, gb_0_628]
    refine n_odds hc m1.1 hto h9 m1.2.2.1 b1.2.2.2.2.2.2 fun I2 J2 y hF2 hJ2 hy => ?_
    rw [Option.toList_some, List.singleton_append, gb_0_632, if_pos (z_inj (by rw [hx, hy]))]
    exact K I2 J2 h (gInv_q hob hkb hmb hcs (fun k i j hk hi => by rw [hF2 _ _ _ (by omega), hF1 _ _ _ (by omega)]) (fun k i j hk => by rw [hF2 _ _ _ (by omega), hF1 _ _ _ (by omega)]) ⟨by rw [hF2 _ _ _ (by omega), hF1 _ _ _ (by omega)], fun k j hk => by rw [hF2 _ _ _ (by omega), hF1 _ _ _ (by omega)], fun k j hk => by rw [hF2 _ _ _ (by omega), hF1 _ _ _ (by omega)], ⟨fun j => by rw [hF2 _ _ _ (by omega), hF1 _ _ _ (by omega)], fun j => by rw [hF2 _ _ _ (by omega), hF1 _ _ _ (by omega)], fun k j hk => by rw [hF2 _ _ _ (by omega), hF1 _ _ _ (by omega)]⟩, fun k j hk => by rw [hF2 _ _ _ (by omega), hF1 _ _ _ (by omega)], ⟨by rw [hF2 _ _ _ (by omega), hF1 _ _ _ (by omega)], by rw [hF2 _ _ _ (by omega), hF1 _ _ _ (by omega)], by rw [hF2 _ _ _ (by omega), hF1 _ _ _ (by omega)]⟩, fun j => by rw [hF2 _ _ _ (by omega), hF1 _ _ _ (by omega)], fun j => by rw [hF2 _ _ _ (by omega), hF1 _ _ _ (by omega)], fun j => by rw [hF2 _ _ _ (by omega), hF1 _ _ _ (by omega)]⟩ (hJ2 _ _ _ (by omega)) (hJ2 _ _ _ (by omega)) (fun j => hJ2 _ _ _ (by omega)))
  · refine m_odds0 hk.1 fun x hx => ?_
    rw [Option.toList_some, List.singleton_append, gb_0_628]
    refine n_odds0 hm.1.1 fun y hy => ?_
    rw [Option.toList_some, List.singleton_append, gb_0_632, if_pos (z_inj (by rw [hx, hy]))]
    exact K I J h hI0
theorem w_18 {a3 : Int32} (q1 : gin (a3 + 1) S = true) (hI : gInv I J h) (K : ∀ (I' : Nat → Nat → Nat → Int32) (J' : Nat → Nat → Nat → Int64) (h' : Nat × Option gNm), gInv I' J' h' → (gq (d + 90) 0 953 [some (.inr (.inr (some (0, 0)))), some (.inr (.inr (some (10, 0)))), some (.inr (.inr (some (50, 0)))), some (.inl (a3))] [] (gwd S I' J' h') Q)) : (gq (d + 90) 0 650 [some (.inr (.inr (some (0, 0)))), some (.inr (.inr (some (10, 0)))), some (.inr (.inr (some (50, 0)))), some (.inl (a3))] [] (gwd S I J h) Q) := by
  have hI0 := hI
  obtain ⟨tp, n, rf, im, sz, f, p, dr, hob, hkb, hmb, hcs⟩ := hI
  rw [gb_0_650]
  refine ⟨q1, ?_⟩
  rw [gb_0_656]
  rcases id hcs with ⟨C, t, lg, nl, ac, sn, rm, hok, hk, hm⟩ | ⟨lg, hk, hm⟩
  · obtain ⟨hc, ⟨hto, h9, hhd, hps⟩, ⟨hn0, hn1⟩, hac, hsk⟩ := id hok
    refine m_strengthsP hc hk.1 hk.2.1 hto hk.2.2.1 hsk hk.2.2.2.2 fun I1 x hF1 hx => ?_
    have e1 : ∀ k i j, 50 ≤ k → I1 k i j = I k i j := fun k i j hk => hF1 _ _ _ (by omega)
    have e00 : ∀ j, I1 0 0 j = I 0 0 j := fun j => hF1 _ _ _ (by omega)
    have m1 := mW_k (J' := J) hc hm e1 (fun j _ => rfl)
    have b1 := mBs_k (J' := J) hmb e1 rfl
    rw [Option.toList_some, List.singleton_append, gb_0_659]
    refine ⟨q1, ?_⟩
    rw [gb_0_665]
    rw [e00]
    refine n_strengths hc m1.1 hto h9 hps m1.2.2.1 m1.2.2.2.2.2 hsk b1.2.2.2.2.2.2 fun I2 J2 y hF2 hJ2 hy => ?_
    rw [Option.toList_some, List.singleton_append, gb_0_668, if_pos (z_inj (by rw [hx, hy]))]
    exact K I2 J2 h (gInv_q hob hkb hmb hcs (fun k i j hk hi => by rw [hF2 _ _ _ (by omega), hF1 _ _ _ (by omega)]) (fun k i j hk => by rw [hF2 _ _ _ (by omega), hF1 _ _ _ (by omega)]) ⟨by rw [hF2 _ _ _ (by omega), hF1 _ _ _ (by omega)], fun k j hk => by rw [hF2 _ _ _ (by omega), hF1 _ _ _ (by omega)], fun k j hk => by rw [hF2 _ _ _ (by omega), hF1 _ _ _ (by omega)], ⟨fun j => by rw [hF2 _ _ _ (by omega), hF1 _ _ _ (by omega)], fun j => by rw [hF2 _ _ _ (by omega), hF1 _ _ _ (by omega)], fun k j hk => by rw [hF2 _ _ _ (by omega), hF1 _ _ _ (by omega)]⟩, fun k j hk => by rw [hF2 _ _ _ (by omega), hF1 _ _ _ (by omega)], ⟨by rw [hF2 _ _ _ (by omega), hF1 _ _ _ (by omega)], by rw [hF2 _ _ _ (by omega), hF1 _ _ _ (by omega)], by rw [hF2 _ _ _ (by omega), hF1 _ _ _ (by omega)]⟩, fun j => by rw [hF2 _ _ _ (by omega), hF1 _ _ _ (by omega)], fun j => by rw [hF2 _ _ _ (by omega), hF1 _ _ _ (by omega)], fun j => by rw [hF2 _ _ _ (by omega), hF1 _ _ _ (by omega)]⟩ (hJ2 _ _ _ (by omega)) (hJ2 _ _ _ (by omega)) (fun j => hJ2 _ _ _ (by omega)))
  · refine m_strengths0 hk.1 fun x hx => ?_
    rw [Option.toList_some, List.singleton_append, gb_0_659]
    refine ⟨q1, ?_⟩
    rw [gb_0_665]
    refine n_strengths0 hm.1.1 fun y hy => ?_
    rw [Option.toList_some, List.singleton_append, gb_0_668, if_pos (z_inj (by rw [hx, hy]))]
    exact K I J h hI0
theorem w_19 {a3 : Int32} (q1 : gin (a3 + 1) S = true) (hI : gInv I J h) (K : ∀ (I' : Nat → Nat → Nat → Int32) (J' : Nat → Nat → Nat → Int64) (h' : Nat × Option gNm), gInv I' J' h' → (gq (d + 90) 0 953 [some (.inr (.inr (some (0, 0)))), some (.inr (.inr (some (10, 0)))), some (.inr (.inr (some (50, 0)))), some (.inl (a3))] [] (gwd S I' J' h') Q)) : (gq (d + 90) 0 673 [some (.inr (.inr (some (0, 0)))), some (.inr (.inr (some (10, 0)))), some (.inr (.inr (some (50, 0)))), some (.inl (a3))] [] (gwd S I J h) Q) := by
  have hI0 := hI
  obtain ⟨tp, n, rf, im, sz, f, p, dr, hob, hkb, hmb, hcs⟩ := hI
  rw [gb_0_673]
  refine ⟨q1, ?_⟩
  rw [gb_0_679]
  rcases id hcs with ⟨C, t, lg, nl, ac, sn, rm, hok, hk, hm⟩ | ⟨lg, hk, hm⟩
  · obtain ⟨hc, ⟨hto, h9, hhd, hps⟩, ⟨hn0, hn1⟩, hac, hsk⟩ := id hok
    refine m_tellsP hc hk.1 hk.2.1 hto h9 hk.2.2.1 hsk hk.2.2.2.2 fun I1 x hF1 hx => ?_
    have e1 : ∀ k i j, 50 ≤ k → I1 k i j = I k i j := fun k i j hk => hF1 _ _ _ (by omega)
    have e00 : ∀ j, I1 0 0 j = I 0 0 j := fun j => hF1 _ _ _ (by omega)
    have m1 := mW_k (J' := J) hc hm e1 (fun j _ => rfl)
    have b1 := mBs_k (J' := J) hmb e1 rfl
    rw [Option.toList_some, List.singleton_append, gb_0_682]
    refine ⟨q1, ?_⟩
    rw [gb_0_688]
    rw [e00]
    refine n_tells hc m1.1 hto h9 hps m1.2.2.1 m1.2.2.2.2.2 hsk b1.2.2.2.2.2.2 fun I2 J2 y hF2 hJ2 hy => ?_
    rw [Option.toList_some, List.singleton_append, gb_0_691, if_pos (z_inj (by rw [hx, hy]))]
    exact K I2 J2 h (gInv_q hob hkb hmb hcs (fun k i j hk hi => by rw [hF2 _ _ _ (by omega), hF1 _ _ _ (by omega)]) (fun k i j hk => by rw [hF2 _ _ _ (by omega), hF1 _ _ _ (by omega)]) ⟨by rw [hF2 _ _ _ (by omega), hF1 _ _ _ (by omega)], fun k j hk => by rw [hF2 _ _ _ (by omega), hF1 _ _ _ (by omega)], fun k j hk => by rw [hF2 _ _ _ (by omega), hF1 _ _ _ (by omega)], ⟨fun j => by rw [hF2 _ _ _ (by omega), hF1 _ _ _ (by omega)], fun j => by rw [hF2 _ _ _ (by omega), hF1 _ _ _ (by omega)], fun k j hk => by rw [hF2 _ _ _ (by omega), hF1 _ _ _ (by omega)]⟩, fun k j hk => by rw [hF2 _ _ _ (by omega), hF1 _ _ _ (by omega)], ⟨by rw [hF2 _ _ _ (by omega), hF1 _ _ _ (by omega)], by rw [hF2 _ _ _ (by omega), hF1 _ _ _ (by omega)], by rw [hF2 _ _ _ (by omega), hF1 _ _ _ (by omega)]⟩, fun j => by rw [hF2 _ _ _ (by omega), hF1 _ _ _ (by omega)], fun j => by rw [hF2 _ _ _ (by omega), hF1 _ _ _ (by omega)], fun j => by rw [hF2 _ _ _ (by omega), hF1 _ _ _ (by omega)]⟩ (hJ2 _ _ _ (by omega)) (hJ2 _ _ _ (by omega)) (fun j => hJ2 _ _ _ (by omega)))
  · refine m_tells0 hk.1 fun x hx => ?_
    rw [Option.toList_some, List.singleton_append, gb_0_682]
    refine ⟨q1, ?_⟩
    rw [gb_0_688]
    refine n_tells0 hm.1.1 fun y hy => ?_
    rw [Option.toList_some, List.singleton_append, gb_0_691, if_pos (z_inj (by rw [hx, hy]))]
    exact K I J h hI0
theorem w_6 {a3 : Int32} (q1 : gin (a3 + 1) S = true) (q2 : gin (a3 + 2) S = true) (hI : gInv I J h) (K : ∀ (I' : Nat → Nat → Nat → Int32) (J' : Nat → Nat → Nat → Int64) (h' : Nat × Option gNm), gInv I' J' h' → (gq (d + 90) 0 953 [some (.inr (.inr (some (0, 0)))), some (.inr (.inr (some (10, 0)))), some (.inr (.inr (some (50, 0)))), some (.inl (a3))] [] (gwd S I' J' h') Q)) : (gq (d + 90) 0 364 [some (.inr (.inr (some (0, 0)))), some (.inr (.inr (some (10, 0)))), some (.inr (.inr (some (50, 0)))), some (.inl (a3))] [] (gwd S I J h) Q) := by
  have hI0 := hI
  obtain ⟨tp, n, rf, im, sz, f, p, dr, hob, hkb, hmb, hcs⟩ := hI
  rw [gb_0_364]
  refine ⟨q1, ?_⟩
  rw [gb_0_370]
  refine ⟨q2, ?_⟩
  rw [gb_0_375]
  rcases id hcs with ⟨C, t, lg, nl, ac, sn, rm, hok, hk, hm⟩ | ⟨lg, hk, hm⟩
  · obtain ⟨hc, ⟨hto, h9, hhd, hps⟩, ⟨hn0, hn1⟩, hac, hsk⟩ := id hok
    refine m_bearerP hc hk.1 hk.2.1 hto hk.2.2.1 fun I1 x hF1 hx => ?_
    have e1 : ∀ k i j, 50 ≤ k → I1 k i j = I k i j := fun k i j hk => hF1 _ _ _ (by omega)
    have e00 : ∀ j, I1 0 0 j = I 0 0 j := fun j => hF1 _ _ _ (by omega)
    have m1 := mW_k (J' := J) hc hm e1 (fun j _ => rfl)
    have b1 := mBs_k (J' := J) hmb e1 rfl
    rw [Option.toList_some, List.singleton_append, gb_0_378]
    refine ⟨q1, ?_⟩
    rw [gb_0_384]
    refine ⟨q2, ?_⟩
    rw [gb_0_389]
    rw [e00, e00]
    refine n_bearer hc m1.1 hto m1.2.2.1 fun I2 J2 y hF2 hJ2 hy => ?_
    rw [Option.toList_some, List.singleton_append, gb_0_392, if_pos (z_inj (by rw [hx, hy]))]
    exact K I2 J2 h (gInv_q hob hkb hmb hcs (fun k i j hk hi => by rw [hF2 _ _ _ (by omega), hF1 _ _ _ (by omega)]) (fun k i j hk => by rw [hF2 _ _ _ (by omega), hF1 _ _ _ (by omega)]) ⟨by rw [hF2 _ _ _ (by omega), hF1 _ _ _ (by omega)], fun k j hk => by rw [hF2 _ _ _ (by omega), hF1 _ _ _ (by omega)], fun k j hk => by rw [hF2 _ _ _ (by omega), hF1 _ _ _ (by omega)], ⟨fun j => by rw [hF2 _ _ _ (by omega), hF1 _ _ _ (by omega)], fun j => by rw [hF2 _ _ _ (by omega), hF1 _ _ _ (by omega)], fun k j hk => by rw [hF2 _ _ _ (by omega), hF1 _ _ _ (by omega)]⟩, fun k j hk => by rw [hF2 _ _ _ (by omega), hF1 _ _ _ (by omega)], ⟨by rw [hF2 _ _ _ (by omega), hF1 _ _ _ (by omega)], by rw [hF2 _ _ _ (by omega), hF1 _ _ _ (by omega)], by rw [hF2 _ _ _ (by omega), hF1 _ _ _ (by omega)]⟩, fun j => by rw [hF2 _ _ _ (by omega), hF1 _ _ _ (by omega)], fun j => by rw [hF2 _ _ _ (by omega), hF1 _ _ _ (by omega)], fun j => by rw [hF2 _ _ _ (by omega), hF1 _ _ _ (by omega)]⟩ (hJ2 _ _ _ (by omega)) (hJ2 _ _ _ (by omega)) (fun j => hJ2 _ _ _ (by omega)))
  · refine m_bearerP0 hk.1 fun x hx => ?_
    rw [Option.toList_some, List.singleton_append, gb_0_378]
    refine ⟨q1, ?_⟩
    rw [gb_0_384]
    refine ⟨q2, ?_⟩
    rw [gb_0_389]
    refine n_bearer0 (by rw [hm.1.2.2.1]; rfl) fun y hy => ?_
    rw [Option.toList_some, List.singleton_append, gb_0_392, if_pos (z_inj (by rw [hx, hy]))]
    exact K I J h hI0
theorem w_8 {a3 : Int32} (q1 : gin (a3 + 1) S = true) (q2 : gin (a3 + 2) S = true) (hI : gInv I J h) (K : ∀ (I' : Nat → Nat → Nat → Int32) (J' : Nat → Nat → Nat → Int64) (h' : Nat × Option gNm), gInv I' J' h' → (gq (d + 90) 0 953 [some (.inr (.inr (some (0, 0)))), some (.inr (.inr (some (10, 0)))), some (.inr (.inr (some (50, 0)))), some (.inl (a3))] [] (gwd S I' J' h') Q)) : (gq (d + 90) 0 430 [some (.inr (.inr (some (0, 0)))), some (.inr (.inr (some (10, 0)))), some (.inr (.inr (some (50, 0)))), some (.inl (a3))] [] (gwd S I J h) Q) := by
  have hI0 := hI
  obtain ⟨tp, n, rf, im, sz, f, p, dr, hob, hkb, hmb, hcs⟩ := hI
  rw [gb_0_430]
  refine ⟨q1, ?_⟩
  rw [gb_0_436]
  refine ⟨q2, ?_⟩
  rw [gb_0_441]
  rcases id hcs with ⟨C, t, lg, nl, ac, sn, rm, hok, hk, hm⟩ | ⟨lg, hk, hm⟩
  · obtain ⟨hc, ⟨hto, h9, hhd, hps⟩, ⟨hn0, hn1⟩, hac, hsk⟩ := id hok
    refine m_lightP hc hk.1 hk.2.1 hto hk.2.2.1 fun I1 x hF1 hx => ?_
    have e1 : ∀ k i j, 50 ≤ k → I1 k i j = I k i j := fun k i j hk => hF1 _ _ _ (by omega)
    have e00 : ∀ j, I1 0 0 j = I 0 0 j := fun j => hF1 _ _ _ (by omega)
    have m1 := mW_k (J' := J) hc hm e1 (fun j _ => rfl)
    have b1 := mBs_k (J' := J) hmb e1 rfl
    rw [Option.toList_some, List.singleton_append, gb_0_444]
    refine ⟨q1, ?_⟩
    rw [gb_0_450]
    refine ⟨q2, ?_⟩
    rw [gb_0_455]
    rw [e00, e00]
    refine n_light hc m1.1 hto m1.2.2.1 fun I2 J2 y hF2 hJ2 hy => ?_
    rw [Option.toList_some, List.singleton_append, gb_0_458, if_pos (z_inj (by rw [hx, hy]))]
    exact K I2 J2 h (gInv_q hob hkb hmb hcs (fun k i j hk hi => by rw [hF2 _ _ _ (by omega), hF1 _ _ _ (by omega)]) (fun k i j hk => by rw [hF2 _ _ _ (by omega), hF1 _ _ _ (by omega)]) ⟨by rw [hF2 _ _ _ (by omega), hF1 _ _ _ (by omega)], fun k j hk => by rw [hF2 _ _ _ (by omega), hF1 _ _ _ (by omega)], fun k j hk => by rw [hF2 _ _ _ (by omega), hF1 _ _ _ (by omega)], ⟨fun j => by rw [hF2 _ _ _ (by omega), hF1 _ _ _ (by omega)], fun j => by rw [hF2 _ _ _ (by omega), hF1 _ _ _ (by omega)], fun k j hk => by rw [hF2 _ _ _ (by omega), hF1 _ _ _ (by omega)]⟩, fun k j hk => by rw [hF2 _ _ _ (by omega), hF1 _ _ _ (by omega)], ⟨by rw [hF2 _ _ _ (by omega), hF1 _ _ _ (by omega)], by rw [hF2 _ _ _ (by omega), hF1 _ _ _ (by omega)], by rw [hF2 _ _ _ (by omega), hF1 _ _ _ (by omega)]⟩, fun j => by rw [hF2 _ _ _ (by omega), hF1 _ _ _ (by omega)], fun j => by rw [hF2 _ _ _ (by omega), hF1 _ _ _ (by omega)], fun j => by rw [hF2 _ _ _ (by omega), hF1 _ _ _ (by omega)]⟩ (hJ2 _ _ _ (by omega)) (hJ2 _ _ _ (by omega)) (fun j => hJ2 _ _ _ (by omega)))
  · refine m_lightP0 hk.1 fun x hx => ?_
    rw [Option.toList_some, List.singleton_append, gb_0_444]
    refine ⟨q1, ?_⟩
    rw [gb_0_450]
    refine ⟨q2, ?_⟩
    rw [gb_0_455]
    refine n_light0 hm.1.1 fun y hy => ?_
    rw [Option.toList_some, List.singleton_append, gb_0_458, if_pos (z_inj (by rw [hx, hy]))]
    exact K I J h hI0
theorem w_7 {a3 : Int32} (q1 : gin (a3 + 1) S = true) (q2 : gin (a3 + 2) S = true) (hI : gInv I J h) (K : ∀ (I' : Nat → Nat → Nat → Int32) (J' : Nat → Nat → Nat → Int64) (h' : Nat × Option gNm), gInv I' J' h' → (gq (d + 90) 0 953 [some (.inr (.inr (some (0, 0)))), some (.inr (.inr (some (10, 0)))), some (.inr (.inr (some (50, 0)))), some (.inl (a3))] [] (gwd S I' J' h') Q)) : (gq (d + 90) 0 397 [some (.inr (.inr (some (0, 0)))), some (.inr (.inr (some (10, 0)))), some (.inr (.inr (some (50, 0)))), some (.inl (a3))] [] (gwd S I J h) Q) := by
  have hI0 := hI
  obtain ⟨tp, n, rf, im, sz, f, p, dr, hob, hkb, hmb, hcs⟩ := hI
  rw [gb_0_397]
  refine ⟨q1, ?_⟩
  rw [gb_0_403]
  refine ⟨q2, ?_⟩
  rw [gb_0_408]
  rcases id hcs with ⟨C, t, lg, nl, ac, sn, rm, hok, hk, hm⟩ | ⟨lg, hk, hm⟩
  · obtain ⟨hc, ⟨hto, h9, hhd, hps⟩, ⟨hn0, hn1⟩, hac, hsk⟩ := id hok
    refine m_houseP hc hk.1 hk.2.1 hto hk.2.2.1 fun x hx => ?_
    rw [Option.toList_some, List.singleton_append, gb_0_411]
    refine ⟨q1, ?_⟩
    rw [gb_0_417]
    refine ⟨q2, ?_⟩
    rw [gb_0_422]
    refine n_house hc hm.1 hm.2.2.1 fun y hy => ?_
    rw [Option.toList_some, List.singleton_append, gb_0_425, if_pos (z_inj (by rw [hx, hy]))]
    exact K I J h hI0
  · refine m_houseP0 hk.1 fun x hx => ?_
    rw [Option.toList_some, List.singleton_append, gb_0_411]
    refine ⟨q1, ?_⟩
    rw [gb_0_417]
    refine ⟨q2, ?_⟩
    rw [gb_0_422]
    refine n_house0 (by rw [hm.1.2.2.2.1]; rfl) fun y hy => ?_
    rw [Option.toList_some, List.singleton_append, gb_0_425, if_pos (z_inj (by rw [hx, hy]))]
    exact K I J h hI0
theorem w_9 {a3 : Int32} (q1 : gin (a3 + 1) S = true) (q2 : gin (a3 + 2) S = true) (hI : gInv I J h) (K : ∀ (I' : Nat → Nat → Nat → Int32) (J' : Nat → Nat → Nat → Int64) (h' : Nat × Option gNm), gInv I' J' h' → (gq (d + 90) 0 953 [some (.inr (.inr (some (0, 0)))), some (.inr (.inr (some (10, 0)))), some (.inr (.inr (some (50, 0)))), some (.inl (a3))] [] (gwd S I' J' h') Q)) : (gq (d + 90) 0 463 [some (.inr (.inr (some (0, 0)))), some (.inr (.inr (some (10, 0)))), some (.inr (.inr (some (50, 0)))), some (.inl (a3))] [] (gwd S I J h) Q) := by
  have hI0 := hI
  obtain ⟨tp, n, rf, im, sz, f, p, dr, hob, hkb, hmb, hcs⟩ := hI
  rw [gb_0_463]
  refine ⟨q1, ?_⟩
  rw [gb_0_469]
  refine ⟨q2, ?_⟩
  rw [gb_0_474]
  rcases id hcs with ⟨C, t, lg, nl, ac, sn, rm, hok, hk, hm⟩ | ⟨lg, hk, hm⟩
  · obtain ⟨hc, ⟨hto, h9, hhd, hps⟩, ⟨hn0, hn1⟩, hac, hsk⟩ := id hok
    refine m_keptP hk.2.2.2.1 ⟨hn0, by have := hto.2.1; have := hc.2.1; omega⟩ fun x hx => ?_
    rw [Option.toList_some, List.singleton_append, gb_0_477]
    refine ⟨q1, ?_⟩
    rw [gb_0_483]
    refine ⟨q2, ?_⟩
    rw [gb_0_488]
    refine n_kept hm.2.2.2.1 hn0 fun y hy => ?_
    rw [Option.toList_some, List.singleton_append, gb_0_491, if_pos (z_inj (by rw [hx, hy]))]
    exact K I J h hI0
  · refine m_keptP hk.2 (by omega) fun x hx => ?_
    rw [Option.toList_some, List.singleton_append, gb_0_477]
    refine ⟨q1, ?_⟩
    rw [gb_0_483]
    refine ⟨q2, ?_⟩
    rw [gb_0_488]
    refine n_kept (nl := 0) (lg := lg) ⟨by rw [hm.1.2.2.2.2.2.2.2.1]; rfl, fun k w h1 => absurd h1 (by omega)⟩ (by omega) fun y hy => ?_
    rw [Option.toList_some, List.singleton_append, gb_0_491, if_pos (z_inj (by rw [hx, hy]))]
    exact K I J h hI0
theorem w_5 {a3 : Int32} (q1 : gin (a3 + 1) S = true) (q2 : gin (a3 + 2) S = true) (q3 : gin (a3 + 3) S = true) (hI : gInv I J h) (K : ∀ (I' : Nat → Nat → Nat → Int32) (J' : Nat → Nat → Nat → Int64) (h' : Nat × Option gNm), gInv I' J' h' → (gq (d + 90) 0 953 [some (.inr (.inr (some (0, 0)))), some (.inr (.inr (some (10, 0)))), some (.inr (.inr (some (50, 0)))), some (.inl (a3))] [] (gwd S I' J' h') Q)) : (gq (d + 90) 0 321 [some (.inr (.inr (some (0, 0)))), some (.inr (.inr (some (10, 0)))), some (.inr (.inr (some (50, 0)))), some (.inl (a3))] [] (gwd S I J h) Q) := by
  have hI0 := hI
  obtain ⟨tp, n, rf, im, sz, f, p, dr, hob, hkb, hmb, hcs⟩ := hI
  rw [gb_0_321]
  refine ⟨q1, ?_⟩
  rw [gb_0_327]
  refine ⟨q2, ?_⟩
  rw [gb_0_332]
  refine ⟨q3, ?_⟩
  rw [gb_0_337]
  rcases id hcs with ⟨C, t, lg, nl, ac, sn, rm, hok, hk, hm⟩ | ⟨lg, hk, hm⟩
  · obtain ⟨hc, ⟨hto, h9, hhd, hps⟩, ⟨hn0, hn1⟩, hac, hsk⟩ := id hok
    refine m_letterP hc hk.1 hk.2.1 fun x hx => ?_
    rw [Option.toList_some, List.singleton_append, gb_0_340]
    refine ⟨q1, ?_⟩
    rw [gb_0_346]
    refine ⟨q2, ?_⟩
    rw [gb_0_351]
    refine ⟨q3, ?_⟩
    rw [gb_0_356]
    refine n_letter hc hm.1 hm.2.1 fun y hy => ?_
    rw [Option.toList_some, List.singleton_append, gb_0_359, if_pos (z_inj (by rw [hx, hy]))]
    exact K I J h hI0
  · refine m_letter0 hk.1 fun x hx => ?_
    rw [Option.toList_some, List.singleton_append, gb_0_340]
    refine ⟨q1, ?_⟩
    rw [gb_0_346]
    refine ⟨q2, ?_⟩
    rw [gb_0_351]
    refine ⟨q3, ?_⟩
    rw [gb_0_356]
    refine n_letter0 hm.1.2.2.1 hm.1.2.2.2.1 fun y hy => ?_
    rw [Option.toList_some, List.singleton_append, gb_0_359, if_pos (z_inj (by rw [hx, hy]))]
    exact K I J h hI0
theorem w_4 {a3 : Int32} (q1 : gin (a3 + 1) S = true) (hI : gInv I J h) (K : ∀ (I' : Nat → Nat → Nat → Int32) (J' : Nat → Nat → Nat → Int64) (h' : Nat × Option gNm), gInv I' J' h' → (gq (d + 90) 0 953 [some (.inr (.inr (some (0, 0)))), some (.inr (.inr (some (10, 0)))), some (.inr (.inr (some (50, 0)))), some (.inl (a3))] [] (gwd S I' J' h') Q)) : (gq (d + 90) 0 298 [some (.inr (.inr (some (0, 0)))), some (.inr (.inr (some (10, 0)))), some (.inr (.inr (some (50, 0)))), some (.inl (a3))] [] (gwd S I J h) Q) := by
  have hI0 := hI
  obtain ⟨tp, n, rf, im, sz, f, p, dr, hob, hkb, hmb, hcs⟩ := hI
  rw [gb_0_298]
  refine ⟨q1, ?_⟩
  rw [gb_0_304]
  rcases id hcs with ⟨C, t, lg, nl, ac, sn, rm, hok, hk, hm⟩ | ⟨lg, hk, hm⟩
  · obtain ⟨hc, ⟨hto, h9, hhd, hps⟩, ⟨hn0, hn1⟩, hac, hsk⟩ := id hok
    refine m_has hk.1 hk.2.1 hto hk.2.2.1 hk.2.2.2.1 hk.2.2.2.2 fun x hx => ?_
    rw [Option.toList_some, List.singleton_append, gb_0_307]
    refine ⟨q1, ?_⟩
    rw [gb_0_313]
    refine n_has hc hm.1 hto hps hm.2.2.1 hm.2.2.2.1 hm.2.2.2.2.2.1 hm.2.2.2.2.1.1 fun y hy => ?_
    rw [Option.toList_some, List.singleton_append, gb_0_316, if_pos (z_inj (by rw [hx, hy]))]
    exact K I J h hI0
  · refine m_has0 hk.1 fun x hx => ?_
    rw [Option.toList_some, List.singleton_append, gb_0_307]
    refine ⟨q1, ?_⟩
    rw [gb_0_313]
    refine n_has0 hm.1 fun y hy => ?_
    rw [Option.toList_some, List.singleton_append, gb_0_316, if_pos (z_inj (by rw [hx, hy]))]
    exact K I J h hI0
theorem w_3 {a3 : Int32} (q1 : gin (a3 + 1) S = true) (hI : gInv I J h) (K : ∀ (I' : Nat → Nat → Nat → Int32) (J' : Nat → Nat → Nat → Int64) (h' : Nat × Option gNm), gInv I' J' h' → (gq (d + 90) 0 953 [some (.inr (.inr (some (0, 0)))), some (.inr (.inr (some (10, 0)))), some (.inr (.inr (some (50, 0)))), some (.inl (a3))] [] (gwd S I' J' h') Q)) : (gq (d + 90) 0 275 [some (.inr (.inr (some (0, 0)))), some (.inr (.inr (some (10, 0)))), some (.inr (.inr (some (50, 0)))), some (.inl (a3))] [] (gwd S I J h) Q) := by
  have hI0 := hI
  obtain ⟨tp, n, rf, im, sz, f, p, dr, hob, hkb, hmb, hcs⟩ := hI
  rw [gb_0_275]
  refine ⟨q1, ?_⟩
  rw [gb_0_281]
  refine m_fault ?_
  rw [Option.toList_some, List.singleton_append, gb_0_284]
  refine ⟨q1, ?_⟩
  rw [gb_0_290]
  refine n_fault ?_
  rw [Option.toList_some, List.singleton_append, gb_0_293, if_pos (by rw [show I 10 0 12 = I 50 0 7 from z_inj (hkb.2.2.2.1.1.trans hmb.2.2.2.1.1.symm), show I 10 0 13 = I 50 0 8 from z_inj (hkb.2.2.2.1.2.trans hmb.2.2.2.1.2.symm)])]
  exact K I J h hI0
theorem w_31 {a3 : Int32} (q1 : gin (a3 + 1) S = true) (hI : gInv I J h) (K : ∀ (I' : Nat → Nat → Nat → Int32) (J' : Nat → Nat → Nat → Int64) (h' : Nat × Option gNm), gInv I' J' h' → (gq (d + 90) 0 953 [some (.inr (.inr (some (0, 0)))), some (.inr (.inr (some (10, 0)))), some (.inr (.inr (some (50, 0)))), some (.inl (a3))] [] (gwd S I' J' h') Q)) : (gq (d + 90) 0 930 [some (.inr (.inr (some (0, 0)))), some (.inr (.inr (some (10, 0)))), some (.inr (.inr (some (50, 0)))), some (.inl (a3))] [] (gwd S I J h) Q) := by
  have hI0 := hI
  obtain ⟨tp, n, rf, im, sz, f, p, dr, hob, hkb, hmb, hcs⟩ := hI
  rw [gb_0_930]
  refine ⟨q1, ?_⟩
  rw [gb_0_936]
  refine m_status hkb.2.1 fun x hx => ?_
  rw [Option.toList_some, List.singleton_append, gb_0_939]
  refine ⟨q1, ?_⟩
  rw [gb_0_945]
  refine n_status hmb.2.1 fun y hy => ?_
  rw [Option.toList_some, List.singleton_append, gb_0_948, if_pos (by rw [hx, hy])]
  exact K I J h hI0
theorem w_29 {a3 : Int32} (q1 : gin (a3 + 1) S = true) (hI : gInv I J h) (K : ∀ (I' : Nat → Nat → Nat → Int32) (J' : Nat → Nat → Nat → Int64) (h' : Nat × Option gNm), gInv I' J' h' → (gq (d + 90) 0 953 [some (.inr (.inr (some (0, 0)))), some (.inr (.inr (some (10, 0)))), some (.inr (.inr (some (50, 0)))), some (.inl (a3))] [] (gwd S I' J' h') Q)) : (gq (d + 90) 0 894 [some (.inr (.inr (some (0, 0)))), some (.inr (.inr (some (10, 0)))), some (.inr (.inr (some (50, 0)))), some (.inl (a3))] [] (gwd S I J h) Q) := by
  have hI0 := hI
  obtain ⟨tp, n, rf, im, sz, f, p, dr, hob, hkb, hmb, hcs⟩ := hI
  rw [gb_0_894]
  refine ⟨q1, ?_⟩
  rw [gb_0_900]
  refine m_octetP hkb.2.2.1 ⟨by omega, by have := hob.2.1; omega⟩ fun x hx => ?_
  rw [Option.toList_some, List.singleton_append, gb_0_903]
  refine ⟨q1, ?_⟩
  rw [gb_0_909]
  refine n_octet hmb.2.2.1 hob.2.1 fun y hy => ?_
  rw [Option.toList_some, List.singleton_append, gb_0_912, if_pos (z_inj (by rw [hx, hy]))]
  exact K I J h hI0
