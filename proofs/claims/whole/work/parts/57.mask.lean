/-! The model: later, through, post, change, least, odds. -/
def FL (I I' : Nat → Nat → Nat → Int32) : Prop := ∀ k i j, ¬ (k = 50 ∧ i = 0 ∧ (49 ≤ j ∧ j ≤ 63 ∨ j = 105) ∨ k = 62 ∧ i = 0 ∨ k = 61 ∧ i = 0 ∧ j < 28) → I' k i j = I k i j
/-- what a call that thinks leaves as it was -/
def FA (I I' : Nat → Nat → Nat → Int32) : Prop := ∀ k i j, ¬ (k = 50 ∧ i = 0 ∧ (49 ≤ j ∧ j ≤ 61 ∨ j = 63 ∨ j = 105) ∨ k = 62 ∧ i = 0) → I' k i j = I k i j
def mTr (I0 I : Nat → Nat → Nat → Int32) : Prop := FL I0 I ∧ (∀ j, j < 28 → I 62 0 j = I0 61 0 j) ∧ I 50 0 62 ≠ 0
theorem mTr_FT {I0 I I' : Nat → Nat → Nat → Int32} (h : mTr I0 I) (hF : FT I I') : mTr I0 I' := ⟨fun k i j hn => by rw [hF _ _ _ (by omega), h.1 _ _ _ hn], fun j hj => by rw [hF _ _ _ (by omega)]; exact h.2.1 j hj, by rw [hF _ _ _ (by omega)]; exact h.2.2⟩
theorem mTr_61 {I0 I I' : Nat → Nat → Nat → Int32} (h : mTr I0 I) (hF : ∀ k i j, ¬ (k = 61 ∧ i = 0 ∧ j < 28) → I' k i j = I k i j) : mTr I0 I' := ⟨fun k i j hn => by rw [hF _ _ _ (by omega), h.1 _ _ _ hn], fun j hj => by rw [hF _ _ _ (by omega)]; exact h.2.1 j hj, by rw [hF _ _ _ (by omega)]; exact h.2.2⟩
variable {d S : Nat} {h : Nat × Option gNm} {I : Nat → Nat → Nat → Int32} {J : Nat → Nat → Nat → Int64} {Q : Option gV → gW → Prop}
theorem mTr_co {I0 : Nat → Nat → Nat → Int32} {C : gCo} (h : mTr I0 I) (hC : mCo I0 C) : mCo I C := mCo_congr hC fun k j hk => h.1 _ _ _ (by omega)
theorem n_putsTr {x1 : Option gV} (K : ∀ (I' : Nat → Nat → Nat → Int32), mTr I I' → (∀ j, I' 61 0 j = I 61 0 j) → Q none (gwd S I' J h)) : (gq d 208 0 [some (.inr (.inr (some (50, 0)))), x1] [] (gwd S I J h) Q) := by
  refine n_putsAside fun I1 hF h62 g => K I1 ⟨fun k i j hn => hF _ _ _ (by omega), g, h62⟩ (fun j => hF _ _ _ (by omega))
theorem n_backTr {I0 : Nat → Nat → Nat → Int32} (ht : mTr I0 I) (h0 : I0 50 0 62 = 0) (K : ∀ (I' : Nat → Nat → Nat → Int32), FA I0 I' → Q none (gwd S I' J h)) : (gq (d + 1) 210 0 [some (.inr (.inr (some (50, 0))))] [] (gwd S I J h) Q) := by
  refine n_takesBack fun I1 hF h62 g => K I1 fun k i j hn => ?_
  by_cases e : k = 61 ∧ i = 0 ∧ j < 28
  · obtain ⟨rfl, rfl, hj⟩ := e
    rw [g j hj, ht.2.1 j hj]
  · by_cases e2 : k = 50 ∧ i = 0 ∧ j = 62
    · obtain ⟨rfl, rfl, rfl⟩ := e2; rw [h62, h0]
    · rw [hF _ _ _ (by omega), ht.1 _ _ _ (by omega)]
theorem n_triesTr {I0 : Nat → Nat → Nat → Int32} {x1 : Option gV} (ht : mTr I0 I) (K : ∀ (I' : Nat → Nat → Nat → Int32), mTr I0 I' → (∀ j, I' 61 0 j = I0 61 0 j) → Q none (gwd S I' J h)) : (gq d 209 0 [some (.inr (.inr (some (50, 0)))), x1] [] (gwd S I J h) Q) := by
  refine n_triesAnew fun I1 hF g => K I1 (mTr_61 ht hF) fun j => ?_
  by_cases e : j < 28
  · rw [g j e, ht.2.1 j e]
  · rw [hF _ _ _ (by omega), ht.1 _ _ _ (by omega)]
theorem n_strongTr {I0 : Nat → Nat → Nat → Int32} {x1 : Option gV} {C : gCo} {t : gSt} (hc : cOk C) (hC0 : mCo I0 C) (ht : mTr I0 I) (hto : tOk C t) (h9 : t 0 ≤ 999) (hS : mS I C t)
    (K : ∀ I' (J' : Nat → Nat → Nat → Int64) x, mTr I0 I' → FJ J J' → (∀ j, I' 61 0 j = I0 61 0 j) → x.toInt = gStr C t → Q (some (.inl x)) (gwd S I' J' h)) : (gq (d + 9) 224 0 [some (.inr (.inr (some (50, 0)))), x1] [] (gwd S I J h) Q) := by
  refine n_strong hc (mTr_co ht hC0) hto h9 hS ht.2.2 fun I1 J1 x hF1 hFJ1 g hx => K I1 J1 x (mTr_FT ht hF1) hFJ1 (fun j => ?_) hx
  by_cases e : j < 28
  · rw [g j e, ht.2.1 j e]
  · rw [hF1 _ _ _ (by omega), ht.1 _ _ _ (by omega)]
/-- houses passed as bits -/
theorem gBit_msk {f : Nat → Int} {b : Nat} : ∀ {n i : Nat} {m : Int}, gBit (gMsk f n i m) b = (gBit m b || decide (i ≤ b ∧ b < i + n ∧ f b = 1))
  | 0, i, m => by
    rw [show gMsk f 0 i m = m from rfl, decide_eq_false (by omega), Bool.or_false]
  | n + 1, i, m => by
    rw [show gMsk f (n + 1) i m = gMsk f n (i + 1) (if f i = 1 then gSetB m i else m) from rfl, gBit_msk]
    by_cases hf : f i = 1
    · rw [if_pos hf, gBit_set]
      by_cases e : i = b
      · rw [decide_eq_true e, Bool.or_true, Bool.true_or, decide_eq_true (show i ≤ b ∧ b < i + (n + 1) ∧ f b = 1 from ⟨by omega, by omega, by rw [← e]; exact hf⟩), Bool.or_true]
      · rw [decide_eq_false e, Bool.or_false]
        congr 1
        exact decide_eq_decide.mpr (by omega)
    · rw [if_neg hf]
      congr 1
      refine decide_eq_decide.mpr ⟨fun e => ⟨by omega, by omega, e.2.2⟩, fun e => ⟨?_, by omega, e.2.2⟩⟩
      by_cases e2 : i = b
      · rw [e2] at hf; exact absurd e.2.2 hf
      · omega
theorem bits_ext : ∀ n, n < 256 → ∀ m, m < 256 → (∀ b, b < 8 → n.testBit b = m.testBit b) → n = m := by
  intro n hn m hm hb
  apply Nat.eq_of_testBit_eq
  intro i
  by_cases hi : i < 8
  · exact hb i hi
  · have e1 : n < 2 ^ i := Nat.lt_of_lt_of_le hn (Nat.pow_le_pow_right (n := 2) (by decide) (show 8 ≤ i by omega))
    have e2 : m < 2 ^ i := Nat.lt_of_lt_of_le hm (Nat.pow_le_pow_right (n := 2) (by decide) (show 8 ≤ i by omega))
    rw [Nat.testBit_lt_two_pow e1, Nat.testBit_lt_two_pow e2]
/-- only houses are passed -/
def tPs (C : gCo) (t : gSt) : Prop := ∀ b : Nat, gBit (t 5) b = true → (b : Int) < C.1 3
theorem n_passed_loop {C : gCo} {t : gSt} (hc : cOk C) (hC : mCo I C) (hS : mS I C t) (K : ∀ x, x.toInt = gMsk (gBi (t 5)) (C.1 3).toNat 0 0 → Q (some (.inl x)) (gwd S I J h)) : ∀ (n b : Nat) (m : Int) (a1 a2 : Int32), ((b + n : Nat) : Int) = C.1 3 → a2.toInt = b → a1.toInt = m → 0 ≤ m → m < 256 → gMsk (gBi (t 5)) n b m = gMsk (gBi (t 5)) (C.1 3).toNat 0 0 → (gq (d + 1) 213 4 [some (.inr (.inr (some (50, 0)))), some (.inl (a1)), some (.inl (a2))] [] (gwd S I J h) Q)
  | 0, b, m, a1, a2, hn, h2, h1, hm0, hm1, he => by
    have c3 := hC.1.2.2.1
    rw [gb_213_4, n_houses, Option.toList_some, List.singleton_append, gb_213_9, if_pos (by rw [z_le]; omega), gb_213_37]
    exact K _ (by rw [h1, ← he]; rfl)
  | n + 1, b, m, a1, a2, hn, h2, h1, hm0, hm1, he => by
    have e1 : (1 : Int32).toInt = 1 := rfl
    have e20 : (20 : Int32).toInt = 20 := rfl
    have c3 := hC.1.2.2.1
    have rH := hc.2.2.2.1
    have hf := hS.2.2 b (by omega)
    have q2 : (20 + a2).toInt = 20 + b := by rw [z_add (by omega) (by omega), h2, e20]
    have n2 : (20 + a2).toNatClampNeg = 20 + b := by rw [z_n, q2]; omega
    have ea : (a2 + 1).toInt = ((b + 1 : Nat) : Int) := by rw [z_add (by omega) (by omega), h2, e1]; rfl
    rw [gb_213_4, n_houses, Option.toList_some, List.singleton_append, gb_213_9, if_neg (by rw [z_le]; omega), gb_213_12]
    refine ⟨g_in.mpr (by omega), ?_⟩
    rw [n2, gb_213_21]
    rw [show gMsk (gBi (t 5)) (n + 1) b m = gMsk (gBi (t 5)) n (b + 1) (if gBi (t 5) b = 1 then gSetB m b else m) from rfl] at he
    by_cases w : gBi (t 5) b = 1
    · rw [if_pos (z_inj (by rw [hf, w]; rfl)), gb_213_25, gb_213_31]
      rw [if_pos w] at he
      have ho := z_orb (x := a1) (a := a2) (b := b) (by omega) (by omega) h2 (by omega)
      rw [h1] at ho
      exact n_passed_loop hc hC hS K n (b + 1) (gSetB m b) _ _ (by omega) ea ho.1 gSetB_0 ho.2 he
    · rw [if_neg (fun e => w (by rw [← hf, e]; rfl)), gb_213_31]
      rw [if_neg w] at he
      exact n_passed_loop hc hC hS K n (b + 1) m _ _ (by omega) ea h1 hm0 hm1 he
theorem gMsk_self {C : gCo} {t : gSt} (hc : cOk C) (hto : tOk C t) (hp : tPs C t) : gMsk (gBi (t 5)) (C.1 3).toNat 0 0 = t 5 := by
  have rH := hc.2.2.2.1
  have r5 := hto.2.2.2.2.2.1
  have hr := @gMsk_r (gBi (t 5)) (C.1 3).toNat 0 0 (by omega) (by omega) (by omega)
  have : (gMsk (gBi (t 5)) (C.1 3).toNat 0 0).toNat = (t 5).toNat := by
    apply bits_ext _ (by omega) _ (by omega)
    intro b hb
    have e := @gBit_msk (gBi (t 5)) b (C.1 3).toNat 0 0
    show gBit _ b = gBit _ b
    rw [e, show gBit 0 b = false from Nat.zero_testBit b, Bool.false_or]
    cases hx : gBit (t 5) b
    · exact decide_eq_false (fun e => by have := gBi_iff.mp e.2.2; rw [hx] at this; cases this)
    · exact decide_eq_true ⟨by omega, by have := hp b hx; omega, gBi_iff.mpr hx⟩
  omega
theorem n_passedSet {x1 x2 : Option gV} {C : gCo} {t : gSt} (hc : cOk C) (hC : mCo I C) (hto : tOk C t) (hp : tPs C t) (hS : mS I C t) (K : ∀ x, x.toInt = t 5 → Q (some (.inl x)) (gwd S I J h)) : (gq (d + 1) 213 0 [some (.inr (.inr (some (50, 0)))), x1, x2] [] (gwd S I J h) Q) := by
  have rH := hc.2.2.2.1
  rw [gb_213_0]
  exact n_passed_loop hc hC hS (fun x hx => K x (by rw [hx, gMsk_self hc hto hp])) (C.1 3).toNat 0 0 _ _ (by omega) rfl rfl (by omega) (by omega) rfl
theorem gPassN_bit {C : gCo} {t : gSt} {g : Int} {b : Nat} : ∀ {n i : Nat} {m : Int}, gBit (gPassN C t g n i m) b = true → gBit m b = true ∨ (b : Int) < C.1 3
  | 0, _, _, h => Or.inl h
  | n + 1, i, m, h => by
    unfold gPassN at h
    split at h
    · rename_i w
      rcases gPassN_bit h with h1 | h1
      · rw [gBit_set, Bool.or_eq_true] at h1
        rcases h1 with h1 | h1
        · exact Or.inl h1
        · have := of_decide_eq_true h1; exact Or.inr (by omega)
      · exact Or.inr h1
    · exact gPassN_bit h
theorem tPs_ran {C : gCo} {t : gSt} {x : Int} (hp : tPs C t) : tPs C (sUp (gRan C t) 0 x) := fun b hb => by
  rw [sUp_ne (by decide), show (gRan C t) 5 = gPassN C t (gGoal C t).1 8 0 (t 5) by unfold gRan; rw [sUp_ne (by decide), sUp_ne (by decide), sUp_ne (by decide), sUp_ne (by omega), sUp_eq]] at hb
  exact (gPassN_bit hb).elim (hp b) id
theorem tPs_up {C : gCo} {t : gSt} {k : Nat} {x : Int} (hk : k ≠ 5) (hp : tPs C t) : tPs C (sUp t k x) := fun b hb => hp b (by rw [sUp_ne (fun e => hk e.symm)] at hb; exact hb)
theorem tPs_hour {C : gCo} {t : gSt} (hp : tPs C t) : tPs C (gHour C t) := by
  unfold gHour
  split
  · exact tPs_ran hp
  · exact tPs_up (by decide) hp
theorem tPs_hourM {C : gCo} {t : gSt} (hp : tPs C t) : tPs C (gHourM C t) := by
  unfold gHourM
  split
  · exact tPs_ran hp
  · exact tPs_up (by decide) hp
theorem tPs_it {C : gCo} : ∀ {n : Nat} {t : gSt}, tPs C t → tPs C (gIt C n t)
  | 0, _, h => h
  | n + 1, _, h => tPs_it (n := n) (tPs_hour h)
theorem n_later {a1 a2 : Int32} {x3 : Option gV} {C : gCo} {t : gSt} (hc : cOk C) (hC : mCo I C) (hto : tOk C t) (h9 : t 0 ≤ 999) (hp : tPs C t) (hS : mS I C t) (h62 : I 50 0 62 = 0)
    (K : ∀ I' (J' : Nat → Nat → Nat → Int64) x, FA I I' → FJ J J' → x.toInt = (if 0 ≤ a1.toInt ∧ a1.toInt ≤ 60 ∧ t 0 + a1.toInt ≤ 999 ∧ 0 ≤ a2.toInt ∧ a2.toInt ≤ 3 then gTold (gIt C a1.toInt.toNat t) a2.toInt else -1) → Q (some (.inl x)) (gwd S I' J' h)) : (gq (d + 9) 220 0 [some (.inr (.inr (some (50, 0)))), some (.inl (a1)), some (.inl (a2)), x3] [] (gwd S I J h) Q) := by
  have e1 : (1 : Int32).toInt = 1 := rfl
  have e3 : (3 : Int32).toInt = 3 := rfl
  have e60 : (60 : Int32).toInt = 60 := rfl
  have y3 : (3 : Int64).toInt = 3 := rfl
  have no : ¬ (0 ≤ a1.toInt ∧ a1.toInt ≤ 60 ∧ t 0 + a1.toInt ≤ 999 ∧ 0 ≤ a2.toInt ∧ a2.toInt ≤ 3) → (gq (d + 9) 220 23 [some (.inr (.inr (some (50, 0)))), some (.inl (a1)), some (.inl (a2)), x3] [] (gwd S I J h) Q) := fun hno => by
    rw [gb_220_23, gb_220_24]
    exact K I J _ (fun _ _ _ _ => rfl) FJ_refl (by rw [if_neg hno]; rfl)
  rw [gb_220_0, n_isAhead hC hS hto.1 (by decide) (by decide), Option.toList_some, List.singleton_append, gb_220_8, z_0, e60]
  by_cases w1 : 0 ≤ a1.toInt ∧ a1.toInt ≤ 60 ∧ t 0 + a1.toInt ≤ 999
  case neg => rw [if_pos (zb_neg w1)]; exact no (fun e => w1 ⟨e.1, e.2.1, e.2.2.1⟩)
  rw [if_neg (by rw [zb_pos w1]; decide), gb_220_11, n_isIn, Option.toList_some, List.singleton_append, gb_220_20, z_64, yi_0, y3]
  by_cases w2 : 0 ≤ a2.toInt ∧ a2.toInt ≤ 3
  case neg => rw [if_pos (zb_neg w2)]; exact no (fun e => w2 e.2.2.2)
  rw [if_neg (by rw [zb_pos w2]; decide), gb_220_25]
  refine n_putsTr fun I1 ht1 g1 => ?_
  rw [Option.toList_none, List.nil_append, gb_220_29]
  refine n_hoursT (n := a1.toInt.toNat) hc (by omega) (mTr_co ht1 hC) hto (by omega) (mS_congr hc hS fun j _ => g1 j) ht1.2.2 fun I2 J2 hF2 hFJ2 hS2 => ?_
  have ht2 := mTr_FT ht1 hF2
  have hto2 : tOk C (gIt C a1.toInt.toNat t) := tOk_it hc hto
  rw [Option.toList_none, List.nil_append, gb_220_34]
  rw [if_pos ⟨w1.1, w1.2.1, w1.2.2, w2⟩] at K
  have fin : ∀ y : Int32, y.toInt = gTold (gIt C a1.toInt.toNat t) a2.toInt → (gq (d + 9) 220 54 [some (.inr (.inr (some (50, 0)))), some (.inl (a1)), some (.inl (a2)), x3] [.inl (y)] (gwd S I2 J2 h) Q) := fun y hy => by
    rw [gb_220_54]
    refine n_backTr ht2 h62 fun I3 hA => ?_
    rw [Option.toList_none, List.nil_append, gb_220_59]
    exact K I3 J2 _ hA hFJ2 hy
  obtain ⟨s0, s1, s2, s3⟩ := hS2.1
  by_cases w3 : a2.toInt = 3
  · rw [if_pos (by rw [z_le]; omega), gb_220_50]
    refine n_passedSet hc (mTr_co ht2 hC) hto2 (tPs_it hp) hS2 fun y hy => ?_
    rw [Option.toList_some, List.singleton_append]
    exact fin y (by rw [hy, w3]; rfl)
  · have q : (1 + a2).toInt = 1 + a2.toInt := by rw [z_add (by omega) (by omega), e1]
    rw [if_neg (by rw [z_le]; omega), gb_220_39]
    refine ⟨g_in.mpr (by omega), ?_⟩
    rw [gb_220_47, z_n, q]
    refine fin _ ?_
    have e : a2.toInt = 0 ∨ a2.toInt = 1 ∨ a2.toInt = 2 := by omega
    rcases e with e | e | e <;> rw [e]
    · exact s1
    · exact s2
    · exact s3
theorem n_through {x1 : Option gV} {C : gCo} {t : gSt} (hc : cOk C) (hC : mCo I C) (hto : tOk C t) (h9 : t 0 ≤ 999) (hS : mS I C t) (h62 : I 50 0 62 = 0)
    (K : ∀ I' (J' : Nat → Nat → Nat → Int64) x, FA I I' → FJ J J' → x.toInt = (gThrough C t).1 → Q (some (.inl x)) (gwd S I' J' h)) : (gq (d + 9) 222 0 [some (.inr (.inr (some (50, 0)))), x1] [] (gwd S I J h) Q) := by
  rw [gb_222_0, if_neg hC.2.2.2.2, gb_222_9]
  refine n_putsTr fun I1 ht1 g1 => ?_
  rw [Option.toList_none, List.nil_append, gb_222_13]
  refine n_hoursThrough hc (mTr_co ht1 hC) hto h9 (mS_congr hc hS fun j _ => g1 j) ht1.2.2 fun I2 J2 x hF2 hFJ2 _ hx => ?_
  rw [Option.toList_some, List.singleton_append, gb_222_17]
  refine n_backTr (mTr_FT ht1 hF2) h62 fun I3 hA => ?_
  rw [Option.toList_none, List.nil_append, gb_222_22]
  exact K I3 J2 x hA hFJ2 hx
theorem mS_up2 {C : gCo} {t : gSt} {x : Int32} {v : Int} (hS : mS I C t) (hx : x.toInt = v) : mS (gup I 61 0 2 x) C (sUp t 2 v) := by
  obtain ⟨⟨s0, s1, s2, s3⟩, p2, p3⟩ := hS
  refine ⟨⟨?_, ?_, ?_, ?_⟩, fun b hb => ?_, fun b hb => ?_⟩
  · rw [u_j (by decide), sUp_ne (by decide)]; exact s0
  · rw [u_j (by decide), sUp_ne (by decide)]; exact s1
  · rw [u_eq, sUp_eq]; exact hx
  · rw [u_j (by decide), sUp_ne (by decide)]; exact s3
  · rw [u_j (by omega), u_j (by omega), sUp_ne (by omega), sUp_ne (by decide)]; exact p2 b hb
  · rw [u_j (by omega), sUp_ne (by decide)]; exact p3 b hb
theorem mS_upm {C : gCo} {t : gSt} {x : Int32} {v : Int} {k : Nat} (hc : cOk C) (hk : (k : Int) < C.1 2) (hS : mS I C t) (hx : x.toInt = v) : mS (gup I 61 0 (4 + 2 * k) x) C (sUp t (10 + k) v) := by
  have rB := hc.2.2.1
  obtain ⟨⟨s0, s1, s2, s3⟩, p2, p3⟩ := hS
  refine ⟨⟨?_, ?_, ?_, ?_⟩, fun b hb => ?_, fun b hb => ?_⟩
  · rw [u_j (by omega), sUp_ne (by omega)]; exact s0
  · rw [u_j (by omega), sUp_ne (by omega)]; exact s1
  · rw [u_j (by omega), sUp_ne (by omega)]; exact s2
  · rw [u_j (by omega), sUp_ne (by omega)]; exact s3
  · rw [u_at, u_j (by omega), sUp_at, sUp_ne (by omega)]
    by_cases e : b = k
    · rw [if_pos (by omega), if_pos (by omega)]; exact ⟨hx, (p2 b hb).2⟩
    · rw [if_neg (by omega), if_neg (by omega)]; exact p2 b hb
  · rw [u_j (by omega), sUp_ne (by omega)]; exact p3 b hb
theorem n_least_loop {I0 : Nat → Nat → Nat → Int32} {C : gCo} {t : gSt} (hc : cOk C) (hC0 : mCo I0 C) (hto : tOk C t) (h9 : t 0 ≤ 999) (hS0 : mS I0 C t) : ∀ (n : Nat) (s : Int) (I : Nat → Nat → Nat → Int32) (J : Nat → Nat → Nat → Int64) (a2 : Int32), s + n = 100 → 1 ≤ s → a2.toInt = s → mTr I0 I → (∀ j, I 61 0 j = I0 61 0 j) →
    (∀ I' (J' : Nat → Nat → Nat → Int64) a1 a2, mTr I0 I' → FJ J J' → a1.toInt = gLeastF C t n s → (gq (d + 9) 227 55 [some (.inr (.inr (some (50, 0)))), some (.inl (a1)), some (.inl (a2))] [] (gwd S I' J' h) Q)) → (gq (d + 9) 227 17 [some (.inr (.inr (some (50, 0)))), some (.inl ((Int32.ofInt (-1)))), some (.inl (a2))] [] (gwd S I J h) Q)
  | 0, s, I, J, a2, hn, hs, h2, ht, hr, K => by
    have e99 : (99 : Int32).toInt = 99 := rfl
    rw [gb_227_17, if_pos (by rw [z_lt]; omega)]
    exact K I J _ _ ht FJ_refl z_m1
  | n + 1, s, I, J, a2, hn, hs, h2, ht, hr, K => by
    have e99 : (99 : Int32).toInt = 99 := rfl
    have e1 : (1 : Int32).toInt = 1 := rfl
    rw [gb_227_17, if_neg (by rw [z_lt]; omega), gb_227_23, gb_227_25, if_pos rfl, gb_227_28]
    refine ⟨rfl, ?_⟩
    rw [show (2 : Int32).toNatClampNeg = 2 from rfl, gb_227_35]
    have ht1 : mTr I0 (gup I 61 0 2 a2) := mTr_61 ht fun k i j hn => u_ne (by omega)
    refine n_hoursThrough hc (mTr_co ht1 hC0) (tOk_up2 hto s (by omega)) (by rw [sUp_ne (by decide)]; exact h9) (mS_up2 (mS_congr hc hS0 fun j _ => hr j) h2) ht1.2.2 fun I2 J2 x hF2 hFJ2 _ hx => ?_
    rw [Option.toList_some, List.singleton_append, gb_227_39, gb_227_40]
    have ht2 := mTr_FT ht1 hF2
    rw [show gLeastF C t (n + 1) s = if (gThrough C (sUp t 2 s)).1 = -1 then gLeastF C t n (s + 1) else s from rfl] at K
    by_cases hz : (gThrough C (sUp t 2 s)).1 = -1
    · rw [if_pos ((gThr_str hx).mpr hz), gb_227_45]
      rw [if_pos hz] at K
      refine n_triesTr ht2 fun I3 ht3 hr3 => ?_
      rw [Option.toList_none, List.nil_append, gb_227_49]
      exact n_least_loop hc hC0 hto h9 hS0 n (s + 1) I3 J2 _ (by omega) (by omega) (by rw [z_add (by omega) (by omega), h2, e1]) ht3 hr3 fun I4 J4 z1 z2 ht4 hFJ4 g => K I4 J4 z1 z2 ht4 (FJ_trans hFJ2 hFJ4) g
    · rw [if_neg (fun e => hz ((gThr_str hx).mp e)), gb_227_43, gb_227_45]
      rw [if_neg hz] at K
      refine n_triesTr ht2 fun I3 ht3 hr3 => ?_
      rw [Option.toList_none, List.nil_append, gb_227_49, gb_227_17]
      split
      · exact K I3 J2 _ _ ht3 hFJ2 h2
      · rw [gb_227_23, gb_227_25, if_neg (by rw [z_eq, z_m1]; omega)]
        exact K I3 J2 _ _ ht3 hFJ2 h2
theorem n_least {x1 x2 : Option gV} {C : gCo} {t : gSt} (hc : cOk C) (hC : mCo I C) (hto : tOk C t) (h9 : t 0 ≤ 999) (hS : mS I C t) (h62 : I 50 0 62 = 0)
    (K : ∀ I' (J' : Nat → Nat → Nat → Int64) x, FA I I' → FJ J J' → x.toInt = gLeastF C t 99 1 → Q (some (.inl x)) (gwd S I' J' h)) : (gq (d + 9) 227 0 [some (.inr (.inr (some (50, 0)))), x1, x2] [] (gwd S I J h) Q) := by
  rw [gb_227_0, if_neg hC.2.2.2.2, gb_227_9, gb_227_10]
  refine n_putsTr fun I1 ht1 g1 => ?_
  rw [Option.toList_none, List.nil_append, gb_227_15]
  refine n_least_loop hc hC hto h9 hS 99 1 I1 J _ rfl (by omega) rfl ht1 g1 fun I2 J2 z1 z2 ht2 hFJ2 g => ?_
  rw [gb_227_55]
  refine n_backTr ht2 h62 fun I3 hA => ?_
  rw [Option.toList_none, List.nil_append, gb_227_59]
  exact K I3 J2 _ hA hFJ2 g
