/-! The model: what the course and the state hold. -/
variable {d S : Nat} {h : Nat × Option gNm} {I : Nat → Nat → Nat → Int32} {J : Nat → Nat → Nat → Int64} {Q : Option gV → gW → Prop}
def gHas (C : gCo) (t : gSt) (nl rm al v : Int) : Int := if v = 0 then C.1 1 else if v = 1 then C.1 2 else if v = 2 then C.1 3 else if v = 3 then t 0 else if v = 4 then t 1 else if v = 5 then t 2 else if v = 6 then t 3 else if v = 7 then (gPc (t 5).toNat : Int) else if v = 8 then (if gThru C t then 1 else 0) else if v = 9 then min nl 40 else if v = 10 then rm else if v = 11 then al else -1
def gBear (C : gCo) (t : gSt) (v w : Int) : Int := if 0 ≤ v ∧ v < C.1 2 then (if w = 0 then t (10 + v.toNat) else if w = 1 then C.1 (20 + v.toNat) else if w = 2 then gBi (t 4) v.toNat else if w = 3 then (if gTkb C t v.toNat then 1 else 0) else -1) else -1
def gHous (C : gCo) (t : gSt) (v w : Int) : Int := if 0 ≤ v ∧ v < C.1 3 then (if w = 0 then C.1 (30 + v.toNat) else if w = 1 then C.1 (40 + v.toNat) else if w = 2 then gBi (t 5) v.toNat else -1) else -1
def gLit (C : gCo) (t : gSt) (m k : Int) : Int := if (0 ≤ m ∧ m ≤ C.1 1) ∧ 0 ≤ k ∧ k ≤ 60 ∧ t 0 + k ≤ 999 then gLight (C.2 0) m (t 0 + k) else -1
theorem n_kept {a1 a2 : Int32} {lg : Nat → Int} {nl : Int} (hk : mKp I lg nl) (hn : 0 ≤ nl) (K : ∀ x : Int32, x.toInt = gKept lg nl a1.toInt a2.toInt → Q (some (.inl x)) (gwd S I J h)) : (gq (d + 1) 219 0 [some (.inr (.inr (some (50, 0)))), some (.inl (a1)), some (.inl (a2))] [] (gwd S I J h) Q) := by
  have e1 : (1 : Int32).toInt = 1 := rfl
  have e4 : (4 : Int32).toInt = 4 := rfl
  have e29 : (29 : Int32).toInt = 29 := rfl
  have y3 : (3 : Int64).toInt = 3 := rfl
  have k1 := hk.1
  have qs : ((I 61 0 28 - 1 : Int32).toInt64).toInt = min nl 40 - 1 := by rw [z_64, z_sub (by omega) (by omega), k1, e1]
  rw [gb_219_0]
  refine ⟨rfl, ?_⟩
  rw [show (28 : Int32).toNatClampNeg = 28 from rfl, gb_219_10, n_isIn, Option.toList_some, List.singleton_append, gb_219_16, z_64, yi_0, qs]
  have no : ¬ (0 ≤ a1.toInt ∧ a1.toInt < min nl 40 ∧ 0 ≤ a2.toInt ∧ a2.toInt ≤ 3) → (gq (d + 1) 219 47 [some (.inr (.inr (some (50, 0)))), some (.inl (a1)), some (.inl (a2))] [] (gwd S I J h) Q) := fun w => by
    rw [gb_219_47, gb_219_48]
    exact K _ (by unfold gKept; rw [if_neg w]; rfl)
  by_cases w1 : 0 ≤ a1.toInt ∧ a1.toInt ≤ min nl 40 - 1
  case neg =>
    rw [if_pos (zb_neg w1)]
    exact no (by omega)
  rw [if_neg (by rw [zb_pos w1]; decide), gb_219_19, n_isIn, Option.toList_some, List.singleton_append, gb_219_28, z_64, yi_0, y3]
  by_cases w2 : 0 ≤ a2.toInt ∧ a2.toInt ≤ 3
  case neg =>
    rw [if_pos (zb_neg w2)]
    exact no (by omega)
  have q0 : (4 * a1).toInt = 4 * a1.toInt := by rw [z_mul (by rw [e4]; omega) (by rw [e4]; omega), e4]
  have q1 : (29 + (4 * a1)).toInt = 29 + 4 * a1.toInt := by rw [z_add (by omega) (by omega), q0, e29]
  have q2 : ((29 + (4 * a1)) + a2).toInt = 29 + 4 * a1.toInt + a2.toInt := by rw [z_add (by omega) (by omega), q1]
  have n2 : ((29 + (4 * a1)) + a2).toNatClampNeg = 29 + 4 * a1.toInt.toNat + a2.toInt.toNat := by rw [z_n]; omega
  rw [if_neg (by rw [zb_pos w2]; decide), gb_219_31]
  refine ⟨g_in.mpr (by omega), ?_⟩
  rw [n2, gb_219_44, gb_219_48]
  refine K _ ?_
  rw [hk.2 a1.toInt.toNat a2.toInt.toNat (by omega) (by omega)]
  unfold gKept
  rw [if_pos (by omega)]
  congr 1; omega
theorem n_house {a1 a2 : Int32} {C : gCo} {t : gSt} (hc : cOk C) (hC : mCo I C) (hS : mS I C t) (K : ∀ x : Int32, x.toInt = gHous C t a1.toInt a2.toInt → Q (some (.inl x)) (gwd S I J h)) : (gq (d + 2) 217 0 [some (.inr (.inr (some (50, 0)))), some (.inl (a1)), some (.inl (a2))] [] (gwd S I J h) Q) := by
  have e2 : (2 : Int32).toInt = 2 := rfl
  have e17 : (17 : Int32).toInt = 17 := rfl
  have e20 : (20 : Int32).toInt = 20 := rfl
  have c7 := hC.1.2.2.1
  have rH := hc.2.2.2.1
  rw [gb_217_0, n_isHouse (by omega), Option.toList_some, List.singleton_append, gb_217_5, c7]
  by_cases w : 0 ≤ a1.toInt ∧ a1.toInt < C.1 3
  case neg =>
    rw [if_pos (zb_neg w), gb_217_8, gb_217_9]
    exact K _ (by unfold gHous; rw [if_neg w]; rfl)
  have hm := hC.2.2.1 a1.toInt.toNat (by omega)
  rw [if_neg (by rw [zb_pos w]; decide), gb_217_10]
  by_cases w0 : a2 = 0
  · rw [if_pos w0, gb_217_14, n_houseMile (b := a1.toInt.toNat) (by omega) (by omega), Option.toList_some, List.singleton_append, gb_217_19, gb_217_59]
    exact K _ (by unfold gHous; rw [if_pos w, if_pos (by rw [w0]; rfl)]; exact hm.1)
  have w0' : ¬ a2.toInt = 0 := fun e => w0 (z_inj e)
  rw [if_neg w0, gb_217_22]
  by_cases w1 : a2 = 1
  · have q0 : (2 * a1).toInt = 2 * a1.toInt := by rw [z_mul (by rw [e2]; omega) (by rw [e2]; omega), e2]
    have q1 : (17 + (2 * a1)).toInt = 17 + 2 * a1.toInt := by rw [z_add (by omega) (by omega), q0, e17]
    have n1 : (17 + (2 * a1)).toNatClampNeg = 17 + 2 * a1.toInt.toNat := by rw [z_n]; omega
    rw [if_pos w1, gb_217_27]
    refine ⟨g_in.mpr (by omega), ?_⟩
    rw [n1, gb_217_38, gb_217_59]
    exact K _ (by unfold gHous; rw [if_pos w, if_neg w0', if_pos (by rw [w1]; rfl)]; exact hm.2)
  have w1' : ¬ a2.toInt = 1 := fun e => w1 (z_inj e)
  rw [if_neg w1, gb_217_41]
  by_cases w2 : a2 = 2
  · have q1 : (20 + a1).toInt = 20 + a1.toInt := by rw [z_add (by omega) (by omega), e20]
    have n1 : (20 + a1).toNatClampNeg = 20 + a1.toInt.toNat := by rw [z_n]; omega
    rw [if_pos w2, gb_217_46]
    refine ⟨g_in.mpr (by omega), ?_⟩
    rw [n1, gb_217_55, gb_217_59]
    exact K _ (by unfold gHous; rw [if_pos w, if_neg w0', if_neg w1', if_pos (by rw [w2]; rfl)]; exact hS.2.2 _ (by omega))
  have w2' : ¬ a2.toInt = 2 := fun e => w2 (z_inj e)
  rw [if_neg w2, gb_217_58, gb_217_59]
  exact K _ (by unfold gHous; rw [if_pos w, if_neg w0', if_neg w1', if_neg w2']; rfl)
theorem n_house0 {a1 a2 : Int32} (h7 : (I 54 0 7).toInt = 0) (K : ∀ x : Int32, x.toInt = -1 → Q (some (.inl x)) (gwd S I J h)) : (gq (d + 2) 217 0 [some (.inr (.inr (some (50, 0)))), some (.inl (a1)), some (.inl (a2))] [] (gwd S I J h) Q) := by
  rw [gb_217_0, n_isHouse (by omega), Option.toList_some, List.singleton_append, gb_217_5, if_pos (zb_neg (by omega)), gb_217_8, gb_217_9]
  exact K _ rfl
theorem n_light {a1 a2 : Int32} {C : gCo} {t : gSt} (hc : cOk C) (hC : mCo I C) (hto : tOk C t) (hS : mS I C t)
    (K : ∀ I' (J' : Nat → Nat → Nat → Int64) (x : Int32), (∀ k i j, ¬ ((k = 50 ∧ i = 0 ∧ (j = 49 ∨ j = 52 ∨ j = 53 ∨ j = 105))) → I' k i j = I k i j) → FJ J J' → x.toInt = gLit C t a1.toInt a2.toInt → Q (some (.inl x)) (gwd S I' J' h)) : (gq (d + 4) 218 0 [some (.inr (.inr (some (50, 0)))), some (.inl (a1)), some (.inl (a2))] [] (gwd S I J h) Q) := by
  have e60 : (60 : Int32).toInt = 60 := rfl
  have c5 := hC.1.1
  have rm := hc.2.1
  have r0 := hto.1
  have no : ¬ ((0 ≤ a1.toInt ∧ a1.toInt ≤ C.1 1) ∧ 0 ≤ a2.toInt ∧ a2.toInt ≤ 60 ∧ t 0 + a2.toInt ≤ 999) → (gq (d + 4) 218 35 [some (.inr (.inr (some (50, 0)))), some (.inl (a1)), some (.inl (a2))] [] (gwd S I J h) Q) := fun w => by
    rw [gb_218_35, gb_218_36]
    exact K I J _ (fun _ _ _ _ => rfl) FJ_refl (by unfold gLit; rw [if_neg w]; rfl)
  rw [gb_218_0, n_isMile, Option.toList_some, List.singleton_append, gb_218_5, c5]
  by_cases w1 : 0 ≤ a1.toInt ∧ a1.toInt ≤ C.1 1
  case neg =>
    rw [if_pos (zb_neg (fun e => w1 e.2))]
    exact no (fun e => w1 e.1)
  rw [if_neg (by rw [zb_pos ⟨hC.2.2.2.2, w1⟩]; decide), gb_218_8, n_isAhead hC hS hto.1 (by decide) (by decide), Option.toList_some, List.singleton_append, gb_218_16, e60, z_0]
  by_cases w2 : 0 ≤ a2.toInt ∧ a2.toInt ≤ 60 ∧ t 0 + a2.toInt ≤ 999
  case neg =>
    rw [if_pos (zb_neg w2)]
    exact no (fun e => w2 e.2)
  have q : (I 61 0 0 + a2).toInt = t 0 + a2.toInt := by rw [z_add (by rw [hS.1.1]; omega) (by rw [hS.1.1]; omega), hS.1.1]
  rw [if_neg (by rw [zb_pos w2]; decide), gb_218_19]
  refine ⟨rfl, ?_⟩
  rw [show (0 : Int32).toNatClampNeg = 0 from rfl, gb_218_27]
  refine n_lightAt hc hC (by omega) (by omega) fun I1 J1 x hF hFJ hx => ?_
  rw [Option.toList_some, List.singleton_append, gb_218_32, gb_218_36]
  exact K I1 J1 _ hF hFJ (by unfold gLit; rw [if_pos ⟨w1, w2⟩, hx, q])
theorem n_light0 {a1 a2 : Int32} (h48 : I 50 0 48 = 0) (K : ∀ x : Int32, x.toInt = -1 → Q (some (.inl x)) (gwd S I J h)) : (gq (d + 4) 218 0 [some (.inr (.inr (some (50, 0)))), some (.inl (a1)), some (.inl (a2))] [] (gwd S I J h) Q) := by
  rw [gb_218_0, n_isMile, Option.toList_some, List.singleton_append, gb_218_5, if_pos (zb_neg (fun e => e.1 h48)), gb_218_35, gb_218_36]
  exact K _ rfl
theorem n_bearer {a1 a2 : Int32} {C : gCo} {t : gSt} (hc : cOk C) (hC : mCo I C) (hto : tOk C t) (hS : mS I C t)
    (K : ∀ I' (J' : Nat → Nat → Nat → Int64) (x : Int32), (∀ k i j, ¬ ((k = 50 ∧ i = 0 ∧ (j = 49 ∨ j = 52 ∨ j = 53 ∨ j = 54 ∨ j = 55 ∨ j = 56 ∨ j = 59 ∨ j = 105))) → I' k i j = I k i j) → FJ J J' → x.toInt = gBear C t a1.toInt a2.toInt → Q (some (.inl x)) (gwd S I' J' h)) : (gq (d + 5) 216 0 [some (.inr (.inr (some (50, 0)))), some (.inl (a1)), some (.inl (a2))] [] (gwd S I J h) Q) := by
  have e2 : (2 : Int32).toInt = 2 := rfl
  have e5 : (5 : Int32).toInt = 5 := rfl
  have c6 := hC.1.2.1
  have rB := hc.2.2.1
  have K' : ∀ x : Int32, x.toInt = gBear C t a1.toInt a2.toInt → Q (some (.inl x)) (gwd S I J h) := fun x hx => K I J x (fun _ _ _ _ => rfl) FJ_refl hx
  rw [gb_216_0, n_isBearer (by omega), Option.toList_some, List.singleton_append, gb_216_6, c6, z_64]
  by_cases w : 0 ≤ a1.toInt ∧ a1.toInt < C.1 2
  case neg =>
    rw [if_pos (zb_neg w), gb_216_9, gb_216_10]
    exact K' _ (by unfold gBear; rw [if_neg w]; rfl)
  have hm := hC.2.1 a1.toInt.toNat (by omega)
  have hs := hS.2.1 a1.toInt.toNat (by omega)
  rw [if_neg (by rw [zb_pos w]; decide), gb_216_11]
  by_cases w0 : a2 = 0
  · rw [if_pos w0, gb_216_44, n_mileOf (b := a1.toInt.toNat) (by omega) (by omega), Option.toList_some, List.singleton_append, gb_216_49]
    exact K' _ (by unfold gBear; rw [if_pos w, if_pos (by rw [w0]; rfl)]; exact hs.1)
  have w0' : ¬ a2.toInt = 0 := fun e => w0 (z_inj e)
  rw [if_neg w0]
  by_cases w1 : a2 = 1
  · rw [if_pos w1, gb_216_50, n_pace (b := a1.toInt.toNat) (by omega) (by omega), Option.toList_some, List.singleton_append, gb_216_55]
    exact K' _ (by unfold gBear; rw [if_pos w, if_neg w0', if_pos (by rw [w1]; rfl)]; exact hm.2)
  have w1' : ¬ a2.toInt = 1 := fun e => w1 (z_inj e)
  rw [if_neg w1]
  by_cases w2 : a2 = 2
  · have q0 : (2 * a1).toInt = 2 * a1.toInt := by rw [z_mul (by rw [e2]; omega) (by rw [e2]; omega), e2]
    have q1 : (5 + (2 * a1)).toInt = 5 + 2 * a1.toInt := by rw [z_add (by omega) (by omega), q0, e5]
    have n1 : (5 + (2 * a1)).toNatClampNeg = 5 + 2 * a1.toInt.toNat := by rw [z_n]; omega
    rw [if_pos w2, gb_216_56]
    refine ⟨g_in.mpr (by omega), ?_⟩
    rw [n1, gb_216_66]
    exact K' _ (by unfold gBear; rw [if_pos w, if_neg w0', if_neg w1', if_pos (by rw [w2]; rfl)]; exact hs.2)
  have w2' : ¬ a2.toInt = 2 := fun e => w2 (z_inj e)
  rw [if_neg w2]
  by_cases w3 : a2 = 3
  · have w3' : a2.toInt = 3 := by rw [w3]; rfl
    rw [if_pos w3, gb_216_67]
    refine n_doesTake (b := a1.toInt.toNat) hc hC hto hS (by omega) (by omega) fun I1 J1 x hF hFJ hx hx1 => ?_
    rw [Option.toList_some, List.singleton_append, gb_216_72]
    by_cases w4 : gTkb C t a1.toInt.toNat = true
    · rw [if_neg (by rw [hx1.mpr w4]; decide), gb_216_75, gb_216_80]
      exact K I1 J1 _ hF hFJ (by unfold gBear; rw [if_pos w, if_neg w0', if_neg w1', if_neg w2', if_pos w3', if_pos w4]; rfl)
    · rw [if_pos (hx.resolve_right fun e => w4 (hx1.mp e)), gb_216_79, gb_216_80]
      exact K I1 J1 _ hF hFJ (by unfold gBear; rw [if_pos w, if_neg w0', if_neg w1', if_neg w2', if_pos w3', if_neg w4]; rfl)
  have w3' : ¬ a2.toInt = 3 := fun e => w3 (z_inj e)
  rw [if_neg w3, gb_216_81, gb_216_82]
  exact K' _ (by unfold gBear; rw [if_pos w, if_neg w0', if_neg w1', if_neg w2', if_neg w3']; rfl)
theorem n_bearer0 {a1 a2 : Int32} (h6 : (I 54 0 6).toInt = 0) (K : ∀ x : Int32, x.toInt = -1 → Q (some (.inl x)) (gwd S I J h)) : (gq (d + 5) 216 0 [some (.inr (.inr (some (50, 0)))), some (.inl (a1)), some (.inl (a2))] [] (gwd S I J h) Q) := by
  rw [gb_216_0, n_isBearer (by omega), Option.toList_some, List.singleton_append, gb_216_6, if_pos (zb_neg (by omega)), gb_216_9, gb_216_10]
  exact K _ rfl
theorem n_fault {a1 : Int32} (K : Q (some (.inl (if a1 = 0 then I 50 0 7 else if a1 = 1 then I 50 0 8 else Int32.ofInt (-1)))) (gwd S I J h)) : (gq d 183 0 [some (.inr (.inr (some (50, 0)))), some (.inl (a1))] [] (gwd S I J h) Q) := by
  rw [gb_183_0]
  by_cases w0 : a1 = 0
  · rw [if_pos w0] at K; rw [if_pos w0, gb_183_4, gb_183_24]; exact K
  rw [if_neg w0] at K
  rw [if_neg w0, gb_183_11]
  by_cases w1 : a1 = 1
  · rw [if_pos w1] at K; rw [if_pos w1, gb_183_16, gb_183_24]; exact K
  rw [if_neg w1] at K
  rw [if_neg w1, gb_183_23, gb_183_24]; exact K
theorem n_end {a1 : Int32} {ln : Int} {rf : Nat → Int32} (hl : (I 50 0 1).toInt = ln) (hf : mRf I rf) (K0 : ¬ (0 ≤ a1.toInt ∧ a1.toInt ≤ ln) → ∀ (I' : Nat → Nat → Nat → Int32), (∀ k i j, ¬ ((k = 52 ∧ i = 0)) → I' k i j = I k i j) → mRf I' (gRef rf 0) → Q (some (.inl 0)) (gwd S I' J h)) (K1 : 0 ≤ a1.toInt ∧ a1.toInt ≤ ln → Q (some (.inl 1)) (gwd S (gup I 50 0 1 a1) J h)) : (gq d 161 0 [some (.inr (.inr (some (50, 0)))), some (.inl (a1))] [] (gwd S I J h) Q) := by
  have no : ¬ (0 ≤ a1.toInt ∧ a1.toInt ≤ ln) → (gq d 161 12 [some (.inr (.inr (some (50, 0)))), some (.inl (a1))] [] (gwd S I J h) Q) := fun w => by
    rw [gb_161_12]
    refine ⟨rfl, ?_⟩
    rw [gb_161_19]
    refine ⟨rfl, ?_⟩
    rw [show (0 : Int32).toNatClampNeg = 0 from rfl, gb_161_22]
    exact K0 w _ (fun k i j hn => u_ne (by omega)) (mRf_up (by decide) hf)
  rw [gb_161_0]
  by_cases w1 : 0 ≤ a1.toInt
  case neg => rw [if_pos (by rw [z_lt, z_0]; omega)]; exact no (by omega)
  rw [if_neg (by rw [z_lt, z_0]; omega), gb_161_4]
  by_cases w2 : a1.toInt ≤ ln
  · rw [if_pos (by rw [z_le]; omega), gb_161_24]; exact K1 ⟨w1, w2⟩
  · rw [if_neg (by rw [z_le]; omega)]; exact no (by omega)
