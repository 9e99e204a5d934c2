/-! The model: an image looked through and taken; counts of what was refused. -/
variable {d S : Nat} {h : Nat × Option gNm} {I : Nat → Nat → Nat → Int32} {J : Nat → Nat → Nat → Int64} {Q : Option gV → gW → Prop}
theorem n_canHave {x1 : Option gV} {C : gCo} {tp : Nat → Int} {ln : Int} (hc : cOk C) (hC : mCo I C) (hp : ∀ j : Nat, (j : Int) < ln → (I 51 0 j).toInt = tp j) (ho : tpOk tp ln) (hl : ln = 6 + 2 * C.1 2 + C.1 3) (K : ∀ x, (x = 0 ∨ x = 1) → (x = 1 ↔ gHold C tp = true) → Q (some (.inl x)) (gwd S I J h)) : (gq (d + 2) 281 0 [some (.inr (.inr (some (50, 0)))), x1] [] (gwd S I J h) Q) := by
  have e2 : (2 : Int32).toInt = 2 := rfl
  have e5 : (5 : Int32).toInt = 5 := rfl
  have e6 : (6 : Int32).toInt = 6 := rfl
  have e255 : (255 : Int32).toInt = 255 := rfl
  have c6 := hC.1.2.1
  have rB := hc.2.2.1
  have rH := hc.2.2.2.1
  have t4 := hp 4 (by omega)
  have r4 := ho.2 4 (by omega)
  have no : gHold C tp = false → (gq (d + 2) 281 73 [some (.inr (.inr (some (50, 0)))), some (.inl ((I 51 0 4)))] [] (gwd S I J h) Q) := fun e => by
    rw [gb_281_73, gb_281_74]
    exact ⟨rfl, K _ (Or.inl rfl) ⟨fun f => absurd f (by decide), fun f => (by rw [e] at f; cases f)⟩⟩
  rw [gb_281_0]
  refine ⟨rfl, ?_⟩
  rw [show (4 : Int32).toNatClampNeg = 4 from rfl, gb_281_6, n_bearers, Option.toList_some, List.singleton_append, gb_281_11]
  by_cases hB : C.1 2 = 0
  · rw [if_pos (z_inj (by rw [c6, hB]; rfl)), gb_281_14]
    by_cases w : tp 4 = 255
    · rw [if_pos (z_inj (by rw [t4, w]; rfl)), gb_281_21, gb_281_26]
      exact ⟨rfl, K _ (Or.inr rfl) ⟨fun _ => by unfold gHold; rw [if_pos hB, decide_eq_true w], fun _ => rfl⟩⟩
    · rw [if_neg (fun e => w (by rw [← t4, e]; rfl)), gb_281_25, gb_281_26]
      exact ⟨rfl, K _ (Or.inl rfl) ⟨fun f => absurd f (by decide), fun f => (by unfold gHold at f; rw [if_pos hB, decide_eq_false w] at f; cases f)⟩⟩
  rw [if_neg (fun e => hB (by rw [← c6, e]; rfl)), gb_281_27, n_isBearer (by omega), Option.toList_some, List.singleton_append, gb_281_33, z_64, t4, c6]
  have gh : gHold C tp = (decide (tp 4 < C.1 2) && (decide (tp (5 + 2 * (tp 4).toNat) = tp 2) && decide (tp (6 + 2 * (tp 4).toNat) = 0))) := by unfold gHold; rw [if_neg hB]
  by_cases w1 : tp 4 < C.1 2
  case neg =>
    rw [if_pos (zb_neg (fun e => w1 e.2))]
    exact no (by rw [gh, decide_eq_false w1]; rfl)
  have q0 : (2 * I 51 0 4).toInt = 2 * tp 4 := by rw [z_mul (by rw [e2]; omega) (by rw [e2]; omega), e2, t4]
  have q1 : (5 + (2 * I 51 0 4)).toInt = 5 + 2 * tp 4 := by rw [z_add (by omega) (by omega), q0, e5]
  have q2 : (6 + (2 * I 51 0 4)).toInt = 6 + 2 * tp 4 := by rw [z_add (by omega) (by omega), q0, e6]
  have n1 : (5 + (2 * I 51 0 4)).toNatClampNeg = 5 + 2 * (tp 4).toNat := by rw [z_n]; omega
  have n2 : (6 + (2 * I 51 0 4)).toNatClampNeg = 6 + 2 * (tp 4).toNat := by rw [z_n]; omega
  have v1 := hp (5 + 2 * (tp 4).toNat) (by omega)
  have v2 := hp (6 + 2 * (tp 4).toNat) (by omega)
  have v3 := hp 2 (by omega)
  rw [if_neg (by rw [zb_pos ⟨r4.1, w1⟩]; decide), gb_281_36]
  refine ⟨g_in.mpr (by omega), ?_⟩
  rw [n1, gb_281_46]
  refine ⟨rfl, ?_⟩
  rw [show (2 : Int32).toNatClampNeg = 2 from rfl, gb_281_52]
  by_cases w2 : tp (5 + 2 * (tp 4).toNat) = tp 2
  case neg =>
    rw [if_neg (fun e => w2 (by rw [← v1, ← v3, e]))]
    exact no (by rw [gh, decide_eq_false w2, Bool.false_and, Bool.and_false])
  rw [if_pos (z_inj (by rw [v1, v3, w2])), gb_281_55]
  refine ⟨g_in.mpr (by omega), ?_⟩
  rw [n2, gb_281_66]
  by_cases w3 : tp (6 + 2 * (tp 4).toNat) = 0
  case neg =>
    rw [if_neg (fun e => w3 (by rw [← v2, e]; rfl))]
    exact no (by rw [gh, decide_eq_false w3, Bool.and_false, Bool.and_false])
  rw [if_pos (z_inj (by rw [v2, w3]; rfl)), gb_281_69, gb_281_74]
  exact ⟨rfl, K _ (Or.inr rfl) ⟨fun _ => by rw [gh, decide_eq_true w1, decide_eq_true w2, decide_eq_true w3]; rfl, fun _ => rfl⟩⟩
theorem n_isImage_f {tp : Nat → Int} {ln : Int} {a1 a2 : Int32} {F : Bool} (hp : ∀ j : Nat, (j : Int) < ln → (I 51 0 j).toInt = tp j) (ho : tpOk tp ln) (h1 : a1.toInt = ln) (l1 : 1 ≤ ln) (K : ∀ x, (x = 0 ∨ x = 1) → (x = 1 ↔ F = true) → Q (some (.inl x)) (gwd S I J h)) : ∀ (n i : Nat) (a3 : Int32), ((i + n : Nat) : Int) = ln - 1 → a3.toInt = i → gOnF tp n i = F → (gq d 282 149 [some (.inr (.inr (some (50, 0)))), some (.inl (a1)), some (.inl (a2)), some (.inl (a3))] [] (gwd S I J h) Q)
  | 0, i, a3, hn, h3, hF => by
    have e1 : (1 : Int32).toInt = 1 := rfl
    have r1 := ho.1
    have q : (a1 - 1).toInt = ln - 1 := by rw [z_sub (by omega) (by omega), h1, e1]
    rw [gb_282_149, if_pos (by rw [z_le]; omega), gb_282_174]
    exact K 1 (Or.inr rfl) ⟨fun _ => hF.symm, fun _ => rfl⟩
  | n + 1, i, a3, hn, h3, hF => by
    have e1 : (1 : Int32).toInt = 1 := rfl
    have r1 := ho.1
    have q : (a1 - 1).toInt = ln - 1 := by rw [z_sub (by omega) (by omega), h1, e1]
    have n0 : a3.toNatClampNeg = i := by rw [z_n]; omega
    have v := hp i (by omega)
    rw [gb_282_149, if_neg (by rw [z_le]; omega), gb_282_156]
    refine ⟨g_in.mpr (by omega), ?_⟩
    rw [n0, gb_282_162]
    unfold gOnF at hF
    by_cases w : tp i ≤ 1
    · rw [if_pos w] at hF
      rw [if_pos (by rw [z_le]; omega), gb_282_168]
      exact n_isImage_f hp ho h1 l1 K n (i + 1) _ (by omega) (by rw [z_add (by omega) (by omega), h3, e1]; rfl) hF
    · rw [if_neg w] at hF
      rw [if_neg (by rw [z_le]; omega), gb_282_166]
      exact K 0 (Or.inl rfl) ⟨fun f => absurd f (by decide), fun f => (by rw [← hF] at f; cases f)⟩
theorem n_isImage_b {C : gCo} {tp : Nat → Int} {ln : Int} {a1 a2 : Int32} {F : Bool} (hc : cOk C) (hC : mCo I C) (hp : ∀ j : Nat, (j : Int) < ln → (I 51 0 j).toInt = tp j) (ho : tpOk tp ln) (hl : ln = 6 + 2 * C.1 2 + C.1 3) (h2 : a2.toInt = 5 + 2 * C.1 2) (K : ∀ x, (x = 0 ∨ x = 1) → (x = 1 ↔ F = true) → Q (some (.inl x)) (gwd S I J h)) (K1 : gOnF tp (C.1 3).toNat (5 + 2 * (C.1 2).toNat) = F → ∀ a3, (gq (d + 2) 282 147 [some (.inr (.inr (some (50, 0)))), some (.inl (a1)), some (.inl (a2)), some (.inl (a3))] [] (gwd S I J h) Q)) : ∀ (n b : Nat) (a3 : Int32), ((b + n : Nat) : Int) = C.1 2 → a3.toInt = 5 + 2 * b → (gOnB C tp n b && gOnF tp (C.1 3).toNat (5 + 2 * (C.1 2).toNat)) = F → (gq (d + 2) 282 109 [some (.inr (.inr (some (50, 0)))), some (.inl (a1)), some (.inl (a2)), some (.inl (a3))] [] (gwd S I J h) Q)
  | 0, b, a3, hn, h3, hF => by
    rw [gb_282_109, if_pos (by rw [z_le]; omega)]
    exact K1 hF _
  | n + 1, b, a3, hn, h3, hF => by
    have e1 : (1 : Int32).toInt = 1 := rfl
    have e2 : (2 : Int32).toInt = 2 := rfl
    have rB := hc.2.2.1
    have rH := hc.2.2.2.1
    have c5 := hC.1.1
    have q1 : (a3 + 1).toInt = 6 + 2 * b := by rw [z_add (by omega) (by omega), h3, e1]; omega
    have n0 : a3.toNatClampNeg = 5 + 2 * b := by rw [z_n]; omega
    have n1 : (a3 + 1).toNatClampNeg = 6 + 2 * b := by rw [z_n]; omega
    have v0 := hp (5 + 2 * b) (by omega)
    have v1 := hp (6 + 2 * b) (by omega)
    have r0 := ho.2 (5 + 2 * b) (by omega)
    have no : ¬ (tp (5 + 2 * b) ≤ C.1 1 ∧ tp (6 + 2 * b) ≤ 1) → (gq (d + 2) 282 139 [some (.inr (.inr (some (50, 0)))), some (.inl (a1)), some (.inl (a2)), some (.inl (a3))] [] (gwd S I J h) Q) := fun w => by
      rw [gb_282_139]
      unfold gOnB at hF
      rw [if_neg w, Bool.false_and] at hF
      exact K 0 (Or.inl rfl) ⟨fun f => absurd f (by decide), fun f => (by rw [← hF] at f; cases f)⟩
    rw [gb_282_109, if_neg (by rw [z_le]; omega), gb_282_114]
    refine ⟨g_in.mpr (by omega), ?_⟩
    rw [n0, gb_282_121, n_isMile, Option.toList_some, List.singleton_append, gb_282_124, v0, c5]
    by_cases w1 : tp (5 + 2 * b) ≤ C.1 1
    case neg =>
      rw [if_pos (zb_neg (fun e => w1 e.2.2))]
      exact no (fun e => w1 e.1)
    rw [if_neg (by rw [zb_pos ⟨hC.2.2.2.2, r0.1, w1⟩]; decide), gb_282_127]
    refine ⟨g_in.mpr (by omega), ?_⟩
    rw [n1, gb_282_135]
    by_cases w2 : tp (6 + 2 * b) ≤ 1
    case neg =>
      rw [if_neg (by rw [z_le]; omega)]
      exact no (fun e => w2 e.2)
    unfold gOnB at hF
    rw [if_pos ⟨w1, w2⟩] at hF
    rw [if_pos (by rw [z_le]; omega), gb_282_141]
    exact n_isImage_b hc hC hp ho hl h2 K K1 n (b + 1) _ (by omega) (by rw [z_add (by omega) (by omega), h3, e2]; omega) hF
theorem n_isImage {x2 x3 : Option gV} {C : gCo} {tp : Nat → Int} {ln : Int} {a1 : Int32} (hc : cOk C) (hC : mCo I C) (hp : ∀ j : Nat, (j : Int) < ln → (I 51 0 j).toInt = tp j) (ho : tpOk tp ln) (h1 : a1.toInt = ln) (K : ∀ x, (x = 0 ∨ x = 1) → (x = 1 ↔ gIsOf C tp ln = true) → Q (some (.inl x)) (gwd S I J h)) : (gq (d + 3) 282 0 [some (.inr (.inr (some (50, 0)))), some (.inl (a1)), x2, x3] [] (gwd S I J h) Q) := by
  have e1 : (1 : Int32).toInt = 1 := rfl
  have e2 : (2 : Int32).toInt = 2 := rfl
  have e5 : (5 : Int32).toInt = 5 := rfl
  have e99 : (99 : Int32).toInt = 99 := rfl
  have e256 : (256 : Int32).toInt = 256 := rfl
  have e999 : (999 : Int32).toInt = 999 := rfl
  have c5 := hC.1.1
  have c6 := hC.1.2.1
  have c7 := hC.1.2.2.1
  have rB := hc.2.2.1
  have rH := hc.2.2.2.1
  have r1 := ho.1
  have q0 : (2 * I 54 0 6).toInt = 2 * C.1 2 := by rw [z_mul (by rw [e2]; omega) (by rw [e2]; omega), e2, c6]
  have q1 : (5 + (2 * I 54 0 6)).toInt = 5 + 2 * C.1 2 := by rw [z_add (by omega) (by omega), q0, e5]
  have q2 : ((5 + (2 * I 54 0 6)) + I 54 0 7).toInt = 5 + 2 * C.1 2 + C.1 3 := by rw [z_add (by omega) (by omega), q1, c7]
  have q3 : (((5 + (2 * I 54 0 6)) + I 54 0 7) + 1).toInt = 6 + 2 * C.1 2 + C.1 3 := by rw [z_add (by omega) (by omega), q2, e1]; omega
  have not : ∀ {y : Int32}, y = 0 → gIsOf C tp ln = false → Q (some (.inl y)) (gwd S I J h) := fun hy e => K _ (Or.inl hy) ⟨fun f => absurd (hy ▸ f) (by decide), fun f => (by rw [e] at f; cases f)⟩
  have fls : ¬ (ln = 6 + 2 * C.1 2 + C.1 3 ∧ tp (ln - 1).toNat = gSum tp (ln - 1).toNat 0 199 ∧ 256 * tp 0 + tp 1 ≤ 999 ∧ tp 2 ≤ C.1 1 ∧ tp 3 ≤ 99 ∧ gHold C tp = true ∧ gOnB C tp (C.1 2).toNat 0 = true ∧ gOnF tp (C.1 3).toNat (5 + 2 * (C.1 2).toNat) = true) → gIsOf C tp ln = false := fun w => Bool.eq_false_iff.mpr fun e => w (gIsOf_iff.mp e)
  rw [gb_282_0, n_bearers, Option.toList_some, List.singleton_append, gb_282_6, if_neg hC.2.2.2.2, gb_282_16, n_houses, Option.toList_some, List.singleton_append, gb_282_22]
  generalize hA : 5 + 2 * I 54 0 6 = A2 at q1 q2 q3
  by_cases w1 : ln = 6 + 2 * C.1 2 + C.1 3
  case neg =>
    rw [if_neg (fun e => w1 (by rw [← h1, e, q3])), gb_282_72]
    exact not rfl (fls fun e => w1 e.1)
  have qm : (a1 - 1).toInt = ln - 1 := by rw [z_sub (by omega) (by omega), h1, e1]
  have nm : (a1 - 1).toNatClampNeg = (ln - 1).toNat := by rw [z_n]; omega
  rw [if_pos (z_inj (by rw [h1, q3, w1])), gb_282_28]
  refine ⟨g_in.mpr (by omega), ?_⟩
  rw [nm, gb_282_36, gb_277_0]
  refine n_sum_T (tp := tp) (N := (ln - 1).toNat) (by omega) (by omega) (fun j hj => by have := ho.2 j (by omega); omega) (fun j hj => hp j (by omega)) (fun x hx => ?_) (ln - 1).toNat 0 199 _ _ (by omega) rfl rfl (by decide) (by decide) rfl
  have vm := hp (ln - 1).toNat (by omega)
  rw [Option.toList_some, List.singleton_append, gb_282_46]
  by_cases w2 : tp (ln - 1).toNat = gSum tp (ln - 1).toNat 0 199
  case neg =>
    rw [if_neg (fun e => w2 (by rw [← vm, ← hx, e])), gb_282_72]
    exact not rfl (fls fun e => w2 e.2.1)
  rw [if_pos (z_inj (by rw [vm, hx, w2])), gb_282_49]
  refine ⟨rfl, ?_⟩
  rw [show (0 : Int32).toNatClampNeg = 0 from rfl, gb_282_58]
  refine ⟨rfl, ?_⟩
  rw [show (1 : Int32).toNatClampNeg = 1 from rfl, gb_282_65]
  have v0 := hp 0 (by omega)
  have v1 := hp 1 (by omega)
  have v2 := hp 2 (by omega)
  have v3 := hp 3 (by omega)
  have p0 := ho.2 0 (by omega)
  have p1 := ho.2 1 (by omega)
  have p2 := ho.2 2 (by omega)
  have p3 := ho.2 3 (by omega)
  have u0 : (256 * I 51 0 0).toInt = 256 * tp 0 := by rw [z_mul (by rw [e256]; omega) (by rw [e256]; omega), e256, v0]
  have u1 : ((256 * I 51 0 0) + I 51 0 1).toInt = 256 * tp 0 + tp 1 := by rw [z_add (by omega) (by omega), u0, v1]
  by_cases w3 : 256 * tp 0 + tp 1 ≤ 999
  case neg =>
    rw [if_neg (by rw [z_le]; omega), gb_282_72]
    exact not rfl (fls fun e => w3 e.2.2.1)
  rw [if_pos (by rw [z_le]; omega), gb_282_74]
  refine ⟨rfl, ?_⟩
  rw [show (2 : Int32).toNatClampNeg = 2 from rfl, gb_282_81, n_isMile, Option.toList_some, List.singleton_append, gb_282_84, v2, c5]
  by_cases w4 : tp 2 ≤ C.1 1
  case neg =>
    rw [if_pos (zb_neg (fun e => w4 e.2.2)), gb_282_105]
    exact not rfl (fls fun e => w4 e.2.2.2.1)
  rw [if_neg (by rw [zb_pos ⟨hC.2.2.2.2, p2.1, w4⟩]; decide), gb_282_87]
  refine ⟨rfl, ?_⟩
  rw [show (3 : Int32).toNatClampNeg = 3 from rfl, gb_282_93]
  by_cases w5 : tp 3 ≤ 99
  case neg =>
    rw [if_pos (by rw [z_lt]; omega), gb_282_105]
    exact not rfl (fls fun e => w5 e.2.2.2.2.1)
  rw [if_neg (by rw [z_lt]; omega), gb_282_98]
  refine n_canHave hc hC hp ho w1 fun y hy hy1 => ?_
  rw [Option.toList_some, List.singleton_append, gb_282_102]
  by_cases w6 : gHold C tp = true
  case neg =>
    rw [if_pos (hy.resolve_right fun e => w6 (hy1.mp e)), gb_282_105]
    exact not rfl (fls fun e => w6 e.2.2.2.2.2.1)
  rw [if_neg (by rw [hy1.mpr w6]; decide), gb_282_107]
  have all : gIsOf C tp ln = (gOnB C tp (C.1 2).toNat 0 && gOnF tp (C.1 3).toNat (5 + 2 * (C.1 2).toNat)) := by
    unfold gIsOf
    rw [decide_eq_true w1, decide_eq_true w2, decide_eq_true w3, decide_eq_true w4, decide_eq_true w5, w6]
    rfl
  refine n_isImage_b (F := gIsOf C tp ln) hc hC hp ho w1 q1 K (fun hF a3 => ?_) (C.1 2).toNat 0 _ (by omega) rfl all.symm
  rw [gb_282_147]
  exact n_isImage_f hp ho h1 (by omega) K (C.1 3).toNat (5 + 2 * (C.1 2).toNat) _ (by omega) (by omega) hF
theorem gMsk_bit {f : Nat → Int} {b : Nat} : ∀ {n i : Nat} {m : Int}, gBit (gMsk f n i m) b = (gBit m b || decide (i ≤ b ∧ b < i + n ∧ f b = 1))
  | 0, i, m => by
    rw [decide_eq_false (fun e => by omega), Bool.or_false]; rfl
  | n + 1, i, m => by
    unfold gMsk
    rw [gMsk_bit (n := n)]
    by_cases w : f i = 1
    · rw [if_pos w, gBit_set, Bool.or_assoc]
      congr 1
      by_cases e : i = b
      · rw [decide_eq_true e, decide_eq_true (show i ≤ b ∧ b < i + (n + 1) ∧ f b = 1 from ⟨by omega, by omega, by rw [← e]; exact w⟩)]; rfl
      · rw [decide_eq_false e, Bool.false_or]
        exact decide_eq_decide.mpr ⟨fun h => ⟨by omega, by omega, h.2.2⟩, fun h => ⟨by omega, by omega, h.2.2⟩⟩
    · rw [if_neg w]
      congr 1
      exact decide_eq_decide.mpr ⟨fun h => ⟨by omega, by omega, h.2.2⟩, fun h => ⟨by have : i ≠ b := fun e => w (by rw [e]; exact h.2.2); omega, by omega, h.2.2⟩⟩
theorem gMsk_bi {f : Nat → Int} {n b : Nat} (hb : b < n) (hf : 0 ≤ f b ∧ f b ≤ 1) : gBi (gMsk f n 0 0) b = f b := by
  unfold gBi
  rw [gMsk_bit, show gBit 0 b = false from Nat.zero_testBit b, Bool.false_or]
  by_cases w : f b = 1
  · rw [decide_eq_true ⟨Nat.zero_le _, by omega, w⟩, if_pos rfl, w]
  · rw [decide_eq_false (fun e => w e.2.2), if_neg (by decide)]; omega
theorem n_status {a1 : Int32} {rf : Nat → Int32} (hf : mRf I rf) (K : ∀ x : Int32, x = (if 0 ≤ a1.toInt ∧ a1.toInt ≤ 5 then rf a1.toInt.toNat else Int32.ofInt (-1)) → Q (some (.inl x)) (gwd S I J h)) : (gq (d + 1) 284 0 [some (.inr (.inr (some (50, 0)))), some (.inl (a1))] [] (gwd S I J h) Q) := by
  have y5 : (5 : Int64).toInt = 5 := rfl
  rw [gb_284_0, n_isIn, Option.toList_some, List.singleton_append, gb_284_9, z_64, yi_0, y5]
  by_cases w : 0 ≤ a1.toInt ∧ a1.toInt ≤ 5
  · rw [if_neg (by rw [zb_pos w]; decide), gb_284_12]
    refine ⟨g_in.mpr (by omega), ?_⟩
    rw [gb_284_18, gb_284_22]
    exact K _ (by rw [if_pos w, z_n]; exact hf _ (by omega))
  · rw [if_pos (zb_neg w), gb_284_21, gb_284_22]
    exact K _ (by rw [if_neg w])
