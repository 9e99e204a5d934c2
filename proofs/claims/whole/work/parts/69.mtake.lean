/-! The model: an image taken. -/
variable {d S : Nat} {h : Nat × Option gNm} {I : Nat → Nat → Nat → Int32} {J : Nat → Nat → Nat → Int64} {Q : Option gV → gW → Prop}
theorem n_on_b {B : Nat} {tp : Nat → Int} {a1 : Int32} (hB : B ≤ 8) : ∀ (n i : Nat) (I : Nat → Nat → Nat → Int32) (a2 : Int32), i + n = 2 * B → a2.toInt = i → (I 54 0 6).toInt = B → (∀ j, j < 2 * B → (I 51 0 (5 + j)).toInt = tp (5 + j)) → (∀ j, j < i → (I 61 0 (4 + j)).toInt = tp (5 + j)) →
    (∀ (I' : Nat → Nat → Nat → Int32) a2, (∀ k i j, ¬ (k = 61 ∧ i = 0 ∧ 4 ≤ j ∧ j < 20) → I' k i j = I k i j) → (∀ j, j < 2 * B → (I' 61 0 (4 + j)).toInt = tp (5 + j)) → (gq (d + 1) 283 139 [some (.inr (.inr (some (50, 0)))), some (.inl (a1)), some (.inl (a2))] [] (gwd S I' J h) Q)) → (gq (d + 1) 283 107 [some (.inr (.inr (some (50, 0)))), some (.inl (a1)), some (.inl (a2))] [] (gwd S I J h) Q)
  | 0, i, I, a2, hn, h2, h6, hv, hg, K => by
    have e2 : (2 : Int32).toInt = 2 := rfl
    have q2 : (2 * I 54 0 6).toInt = 2 * B := by rw [z_mul (by rw [e2]; omega) (by rw [e2]; omega), e2, h6]
    rw [gb_283_107, n_bearers, Option.toList_some, List.singleton_append, gb_283_113, if_pos (by rw [z_le]; omega)]
    exact K I _ (fun _ _ _ _ => rfl) (fun j hj => hg j (by omega))
  | n + 1, i, I, a2, hn, h2, h6, hv, hg, K => by
    have e1 : (1 : Int32).toInt = 1 := rfl
    have e2 : (2 : Int32).toInt = 2 := rfl
    have e4 : (4 : Int32).toInt = 4 := rfl
    have e5 : (5 : Int32).toInt = 5 := rfl
    have q2 : (2 * I 54 0 6).toInt = 2 * B := by rw [z_mul (by rw [e2]; omega) (by rw [e2]; omega), e2, h6]
    have q4 : (4 + a2).toInt = 4 + i := by rw [z_add (by omega) (by omega), e4, h2]
    have q5 : (5 + a2).toInt = 5 + i := by rw [z_add (by omega) (by omega), e5, h2]
    have n4 : (4 + a2).toNatClampNeg = 4 + i := by rw [z_n]; omega
    have n5 : (5 + a2).toNatClampNeg = 5 + i := by rw [z_n]; omega
    rw [gb_283_107, n_bearers, Option.toList_some, List.singleton_append, gb_283_113, if_neg (by rw [z_le]; omega), gb_283_117]
    refine ⟨g_in.mpr (by omega), ?_⟩
    rw [n5, gb_283_132]
    refine ⟨g_in.mpr (by omega), ?_⟩
    rw [n4, gb_283_133]
    refine n_on_b hB n (i + 1) _ _ (by omega) (by rw [z_add (by omega) (by omega), h2, e1]; rfl) (by rw [u_k (by decide)]; exact h6) (fun j hj => by rw [u_k (by decide)]; exact hv j hj) (fun j hj => ?_) fun I' b2 hF g => K I' b2 (fun k i j hn => by rw [hF _ _ _ hn, u_ne (by omega)]) g
    rw [u_at]
    by_cases e : j = i
    · rw [if_pos (by omega), e]; exact hv i (by omega)
    · rw [if_neg (by omega)]; exact hg j (by omega)
theorem n_on_h {B H : Nat} {tp : Nat → Int} {a1 : Int32} (hB : B ≤ 8) (hH : H ≤ 8) : ∀ (n i : Nat) (I : Nat → Nat → Nat → Int32) (a2 : Int32), i + n = H → a2.toInt = i → (I 54 0 6).toInt = B → (I 54 0 7).toInt = H → (∀ j, j < H → (I 51 0 (5 + 2 * B + j)).toInt = tp (5 + 2 * B + j)) → (∀ j, j < i → (I 61 0 (20 + j)).toInt = tp (5 + 2 * B + j)) →
    (∀ (I' : Nat → Nat → Nat → Int32) a2, (∀ k i j, ¬ (k = 61 ∧ i = 0 ∧ 20 ≤ j ∧ j < 28) → I' k i j = I k i j) → (∀ j, j < H → (I' 61 0 (20 + j)).toInt = tp (5 + 2 * B + j)) → (gq (d + 1) 283 179 [some (.inr (.inr (some (50, 0)))), some (.inl (a1)), some (.inl (a2))] [] (gwd S I' J h) Q)) → (gq (d + 1) 283 141 [some (.inr (.inr (some (50, 0)))), some (.inl (a1)), some (.inl (a2))] [] (gwd S I J h) Q)
  | 0, i, I, a2, hn, h2, h6, h7, hv, hg, K => by
    rw [gb_283_141, n_houses, Option.toList_some, List.singleton_append, gb_283_146, if_pos (by rw [z_le]; omega)]
    exact K I _ (fun _ _ _ _ => rfl) (fun j hj => hg j (by omega))
  | n + 1, i, I, a2, hn, h2, h6, h7, hv, hg, K => by
    have e1 : (1 : Int32).toInt = 1 := rfl
    have e2 : (2 : Int32).toInt = 2 := rfl
    have e5 : (5 : Int32).toInt = 5 := rfl
    have e20 : (20 : Int32).toInt = 20 := rfl
    have q2 : (2 * I 54 0 6).toInt = 2 * B := by rw [z_mul (by rw [e2]; omega) (by rw [e2]; omega), e2, h6]
    have q3 : (5 + (2 * I 54 0 6)).toInt = 5 + 2 * B := by rw [z_add (by omega) (by omega), q2, e5]
    have q4 : ((5 + (2 * I 54 0 6)) + a2).toInt = 5 + 2 * B + i := by rw [z_add (by omega) (by omega), q3, h2]
    have q5 : (20 + a2).toInt = 20 + i := by rw [z_add (by omega) (by omega), e20, h2]
    have n4 : ((5 + (2 * I 54 0 6)) + a2).toNatClampNeg = 5 + 2 * B + i := by rw [z_n]; omega
    have n5 : (20 + a2).toNatClampNeg = 20 + i := by rw [z_n]; omega
    rw [gb_283_141, n_houses, Option.toList_some, List.singleton_append, gb_283_146, if_neg (by rw [z_le]; omega), gb_283_149, n_bearers, Option.toList_some, List.singleton_append, gb_283_167]
    refine ⟨g_in.mpr (by omega), ?_⟩
    rw [n4, gb_283_172]
    refine ⟨g_in.mpr (by omega), ?_⟩
    rw [n5, gb_283_173]
    refine n_on_h hB hH n (i + 1) _ _ (by omega) (by rw [z_add (by omega) (by omega), h2, e1]; rfl) (by rw [u_k (by decide)]; exact h6) (by rw [u_k (by decide)]; exact h7) (fun j hj => by rw [u_k (by decide)]; exact hv j hj) (fun j hj => ?_) fun I' b2 hF g => K I' b2 (fun k i j hn => by rw [hF _ _ _ hn, u_ne (by omega)]) g
    rw [u_at]
    by_cases e : j = i
    · rw [if_pos (by omega), e]; exact hv i (by omega)
    · rw [if_neg (by omega)]; exact hg j (by omega)
theorem n_on {x1 x2 : Option gV} {C : gCo} {t : gSt} {tp : Nat → Int} {ln : Int} {rf : Nat → Int32} (hc : cOk C) (hC : mCo I C) (hp : mTp I tp ln) (ho : tpOk tp ln) (hf : mRf I rf)
    (K0 : gIsOf C tp ln = false → ∀ (I' : Nat → Nat → Nat → Int32), (∀ k i j, ¬ ((k = 50 ∧ i = 0 ∧ j = 1) ∨ (k = 52 ∧ i = 0)) → I' k i j = I k i j) → I' 50 0 1 = 0 → mRf I' (gRef rf 5) → Q (some (.inl 0)) (gwd S I' J h))
    (K1 : gIsOf C tp ln = true → ∀ (I' : Nat → Nat → Nat → Int32), (∀ k i j, ¬ ((k = 50 ∧ i = 0 ∧ (j = 1 ∨ j = 70)) ∨ (k = 61 ∧ i = 0)) → I' k i j = I k i j) → I' 50 0 1 = 0 → I' 50 0 70 = 0 → I' 61 0 28 = 0 → mS I' C (gOn C tp t) → Q (some (.inl 1)) (gwd S I' J h)) : (gq (d + 4) 283 0 [some (.inr (.inr (some (50, 0)))), x1, x2] [] (gwd S I J h) Q) := by
  have e256 : (256 : Int32).toInt = 256 := rfl
  obtain ⟨hl, hp⟩ := hp
  have rB := hc.2.2.1
  have rH := hc.2.2.2.1
  have r1 := ho.1
  rw [gb_283_0]
  generalize hA : I 50 0 1 = A at hl
  have hC0 : mCo (gup I 50 0 1 0) C := mCo_congr hC fun k j hk => u_ne (by omega)
  have hF0 : (∀ k i j, ¬ ((k = 50 ∧ i = 0 ∧ j = 1)) → gup I 50 0 1 0 k i j = I k i j) := fun k i j hn => u_ne (by omega)
  have hz0 : gup I 50 0 1 0 50 0 1 = 0 := u_eq
  generalize gup I 50 0 1 0 = I0 at hC0 hF0 hz0
  have hp0 : ∀ j : Nat, (j : Int) < ln → (I0 51 0 j).toInt = tp j := fun j hj => by rw [hF0 _ _ _ (by omega)]; exact hp j hj
  have hf0 : mRf I0 rf := fun k hk => by rw [hF0 _ _ _ (by omega)]; exact hf k hk
  refine n_isImage hc hC0 hp0 ho hl fun x hx hx1 => ?_
  rw [Option.toList_some, List.singleton_append, gb_283_15]
  by_cases w : gIsOf C tp ln = true
  case neg =>
    rw [if_pos (hx.resolve_right fun e => w (hx1.mp e)), gb_283_18]
    refine ⟨rfl, ?_⟩
    rw [gb_283_25]
    refine ⟨rfl, ?_⟩
    rw [show (5 : Int32).toNatClampNeg = 5 from rfl, gb_283_28]
    exact K0 (Bool.eq_false_iff.mpr w) _ (fun k i j hn => by rw [u_ne (by omega), hF0 _ _ _ (by omega)]) (by rw [u_k (by decide)]; exact hz0) (mRf_up (by decide) hf0)
  obtain ⟨w1, w2, w3, w4, w5, w6, w7, w8⟩ := gIsOf_iff.mp w
  have v0 := hp0 0 (by omega)
  have v1 := hp0 1 (by omega)
  have v2 := hp0 2 (by omega)
  have v3 := hp0 3 (by omega)
  have v4 := hp0 4 (by omega)
  have p0 := ho.2 0 (by omega)
  have p1 := ho.2 1 (by omega)
  have p4 := ho.2 4 (by omega)
  have u0 : (256 * I0 51 0 0).toInt = 256 * tp 0 := by rw [z_mul (by rw [e256]; omega) (by rw [e256]; omega), e256, v0]
  have u1 : ((256 * I0 51 0 0) + I0 51 0 1).toInt = 256 * tp 0 + tp 1 := by rw [z_add (by omega) (by omega), u0, v1]
  rw [if_neg (by rw [hx1.mpr w]; decide), gb_283_30]
  refine ⟨rfl, ?_⟩
  rw [show (0 : Int32).toNatClampNeg = 0 from rfl, gb_283_44]
  refine ⟨rfl, ?_⟩
  rw [show (1 : Int32).toNatClampNeg = 1 from rfl, gb_283_51]
  refine ⟨rfl, ?_⟩
  rw [show (0 : Int32).toNatClampNeg = 0 from rfl]
  have d1 : (∀ k i j, ¬ ((k = 61 ∧ i = 0 ∧ j = 0)) → gup I0 61 0 0 ((256 * I0 51 0 0) + I0 51 0 1) k i j = I0 k i j) := fun k i j hn => u_ne (by omega)
  have a1' : (gup I0 61 0 0 ((256 * I0 51 0 0) + I0 51 0 1) 61 0 0).toInt = 256 * tp 0 + tp 1 := by rw [u_eq]; exact u1
  generalize gup I0 61 0 0 ((256 * I0 51 0 0) + I0 51 0 1) = I1 at d1 a1'
  rw [gb_283_53]
  refine ⟨rfl, ?_⟩
  rw [show (2 : Int32).toNatClampNeg = 2 from rfl, d1 51 0 2 (by omega), gb_283_64]
  refine ⟨rfl, ?_⟩
  rw [show (1 : Int32).toNatClampNeg = 1 from rfl]
  have d2 : (∀ k i j, ¬ ((k = 61 ∧ i = 0 ∧ j = 1)) → gup I1 61 0 1 (I0 51 0 2) k i j = I1 k i j) := fun k i j hn => u_ne (by omega)
  have a2' : (gup I1 61 0 1 (I0 51 0 2) 61 0 1).toInt = tp 2 := by rw [u_eq]; exact v2
  generalize gup I1 61 0 1 (I0 51 0 2) = I2 at d2 a2'
  have f2 : (∀ k i j, ¬ ((k = 61 ∧ i = 0 ∧ (j = 0 ∨ j = 1))) → I2 k i j = I0 k i j) := fun k i j hn => by rw [d2 _ _ _ (by omega), d1 _ _ _ (by omega)]
  rw [gb_283_65]
  refine ⟨rfl, ?_⟩
  rw [show (3 : Int32).toNatClampNeg = 3 from rfl, f2 51 0 3 (by omega), gb_283_76]
  refine ⟨rfl, ?_⟩
  rw [show (2 : Int32).toNatClampNeg = 2 from rfl]
  have d3 : (∀ k i j, ¬ ((k = 61 ∧ i = 0 ∧ j = 2)) → gup I2 61 0 2 (I0 51 0 3) k i j = I2 k i j) := fun k i j hn => u_ne (by omega)
  have a3' : (gup I2 61 0 2 (I0 51 0 3) 61 0 2).toInt = tp 3 := by rw [u_eq]; exact v3
  generalize gup I2 61 0 2 (I0 51 0 3) = I3 at d3 a3'
  have f3 : (∀ k i j, ¬ ((k = 61 ∧ i = 0 ∧ (j = 0 ∨ j = 1 ∨ j = 2))) → I3 k i j = I0 k i j) := fun k i j hn => by rw [d3 _ _ _ (by omega), f2 _ _ _ (by omega)]
  rw [gb_283_77]
  refine ⟨rfl, ?_⟩
  rw [show (4 : Int32).toNatClampNeg = 4 from rfl, f3 51 0 4 (by omega), gb_283_88]
  have hv3 : (if C.1 2 = 0 then (-1 : Int) else tp 4) = (if tp 4 = 255 then -1 else tp 4) := by
    unfold gHold at w6
    by_cases z : C.1 2 = 0
    · rw [if_pos z] at w6
      rw [if_pos z, if_pos (of_decide_eq_true w6)]
    · rw [if_neg z, Bool.and_eq_true] at w6
      have := of_decide_eq_true w6.1
      rw [if_neg z, if_neg (by omega)]
  have go : ∀ y : Int32, y.toInt = (if tp 4 = 255 then -1 else tp 4) → (gq (d + 4) 283 104 [some (.inr (.inr (some (50, 0)))), some (.inl (A)), x2] [.inl (y), .inl (3), .inr (.inr (some (61, 0)))] (gwd S I3 J h) Q) := fun y hy => by
    rw [gb_283_104]
    refine ⟨rfl, ?_⟩
    rw [show (3 : Int32).toNatClampNeg = 3 from rfl]
    have d4 : (∀ k i j, ¬ ((k = 61 ∧ i = 0 ∧ j = 3)) → gup I3 61 0 3 y k i j = I3 k i j) := fun k i j hn => u_ne (by omega)
    have a4' : (gup I3 61 0 3 y 61 0 3).toInt = (if tp 4 = 255 then -1 else tp 4) := by rw [u_eq]; exact hy
    generalize gup I3 61 0 3 y = I4 at d4 a4'
    have f4 : (∀ k i j, ¬ ((k = 61 ∧ i = 0 ∧ (j = 0 ∨ j = 1 ∨ j = 2 ∨ j = 3))) → I4 k i j = I0 k i j) := fun k i j hn => by rw [d4 _ _ _ (by omega), f3 _ _ _ (by omega)]
    have c6 : (I4 54 0 6).toInt = ((C.1 2).toNat : Int) := by rw [f4 _ _ _ (by omega)]; have := hC0.1.2.1; omega
    have c7 : (I4 54 0 7).toInt = ((C.1 3).toNat : Int) := by rw [f4 _ _ _ (by omega)]; have := hC0.1.2.2.1; omega
    rw [gb_283_105]
    refine n_on_b (B := (C.1 2).toNat) (tp := tp) (by omega) (2 * (C.1 2).toNat) 0 I4 _ (by omega) rfl c6 (fun j hj => by rw [f4 _ _ _ (by omega)]; exact hp0 _ (by omega)) (fun j hj => by omega) fun I5 b2 hF5 g5 => ?_
    rw [gb_283_139]
    refine n_on_h (B := (C.1 2).toNat) (H := (C.1 3).toNat) (tp := tp) (by omega) (by omega) (C.1 3).toNat 0 I5 _ (by omega) rfl (by rw [hF5 _ _ _ (by omega)]; exact c6) (by rw [hF5 _ _ _ (by omega)]; exact c7) (fun j hj => by rw [hF5 _ _ _ (by omega), f4 _ _ _ (by omega)]; exact hp0 _ (by omega)) (fun j hj => by omega) fun I6 b3 hF6 g6 => ?_
    rw [gb_283_179]
    refine ⟨rfl, ?_⟩
    rw [show (28 : Int32).toNatClampNeg = 28 from rfl, gb_283_187]
    have lo : ∀ j, j < 4 → gup (gup I6 61 0 28 0) 50 0 70 0 61 0 j = I4 61 0 j := fun j hj => by rw [u_k (by decide), u_j (by omega), hF6 _ _ _ (by omega), hF5 _ _ _ (by omega)]
    refine K1 w _ (fun k i j hn => by rw [u_ne (by omega), u_ne (by omega), hF6 _ _ _ (by omega), hF5 _ _ _ (by omega), f4 _ _ _ (by omega), hF0 _ _ _ (by omega)]) (by rw [u_j (by decide), u_k (by decide), hF6 _ _ _ (by omega), hF5 _ _ _ (by omega), f4 _ _ _ (by omega)]; exact hz0) u_eq (by rw [u_k (by decide), u_eq]) ⟨⟨?_, ?_, ?_, ?_⟩, fun b hb => ?_, fun b hb => ?_⟩
    · rw [lo 0 (by omega), d4 _ _ _ (by omega), d3 _ _ _ (by omega), d2 _ _ _ (by omega)]; exact a1'
    · rw [lo 1 (by omega), d4 _ _ _ (by omega), d3 _ _ _ (by omega)]; exact a2'
    · rw [lo 2 (by omega), d4 _ _ _ (by omega)]; exact a3'
    · rw [lo 3 (by omega), a4']; exact hv3.symm
    · have z1 := g5 (2 * b) (by omega)
      have z2 := g5 (2 * b + 1) (by omega)
      have rr := gOnB_at w7 b (by omega) (by omega)
      have rp := ho.2 (6 + 2 * b) (by omega)
      refine ⟨?_, ?_⟩
      · rw [u_k (by decide), u_j (by omega), hF6 _ _ _ (by omega), z1]
        unfold gOn
        rw [if_neg (by omega), if_neg (by omega), if_neg (by omega), if_neg (by omega), if_neg (by omega), if_neg (by omega), if_pos ⟨by omega, by omega⟩, show 10 + b - 10 = b by omega]
      · rw [u_k (by decide), u_j (by omega), hF6 _ _ _ (by omega), show 5 + 2 * b = 4 + (2 * b + 1) by omega, z2]
        show _ = gBi (gMsk (fun b => tp (6 + 2 * b)) (C.1 2).toNat 0 0) b
        rw [gMsk_bi (f := fun b => tp (6 + 2 * b)) (by omega) ⟨rp.1, rr.2⟩]; congr 1; omega
    · have rr := gOnF_at w8 (5 + 2 * (C.1 2).toNat + b) (by omega) (by omega)
      have rp := ho.2 (5 + 2 * (C.1 2).toNat + b) (by omega)
      rw [u_k (by decide), u_j (by omega), g6 b (by omega)]
      show _ = gBi (gMsk (fun b => tp (5 + 2 * (C.1 2).toNat + b)) (C.1 3).toNat 0 0) b
      rw [gMsk_bi (f := fun b => tp (5 + 2 * (C.1 2).toNat + b)) (by omega) ⟨rp.1, rr⟩]
  by_cases z : tp 4 = 255
  · rw [if_pos (z_inj (by rw [v4, z]; rfl)), gb_283_94, gb_283_95]
    exact go _ (by rw [if_pos z]; rfl)
  · rw [if_neg (fun e => z (by rw [← v4, e]; rfl)), gb_283_98]
    refine ⟨rfl, ?_⟩
    rw [show (4 : Int32).toNatClampNeg = 4 from rfl, f3 51 0 4 (by omega)]
    exact go _ (by rw [if_neg z]; exact v4)
