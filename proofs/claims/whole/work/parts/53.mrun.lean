/-! The model lets an hour go by. -/
def gHourM (C : gCo) (t : gSt) : gSt := sUp (if gMovb C t then gRan C t else t) 0 (t 0 + 1)
theorem gHourM_eq {C : gCo} {t : gSt} (h : t 0 ≤ 998) : gHourM C t = gHour C t := by unfold gHourM gHour; rw [show min (t 0 + 1) 999 = t 0 + 1 by omega]
theorem tOk_hourM {C : gCo} {t : gSt} (hc : cOk C) (ht : tOk C t) (h : t 0 ≤ 1999) : tOk C (gHourM C t) := by
  have r0 := ht.1
  unfold gHourM
  by_cases hm : gMovb C t = true
  · rw [if_pos hm]; exact tOk_ran hc ht hm _ (by omega)
  · rw [if_neg hm]; exact tOk_up0 ht _ (by omega)
theorem gBit_set {m : Int} {b i : Nat} : gBit (gSetB m b) i = (gBit m i || decide (b = i)) := by
  unfold gBit gSetB
  rw [Int.toNat_natCast, Nat.testBit_or, Nat.testBit_two_pow]
/-- what the model tells as kept -/
def mKp (I : Nat → Nat → Nat → Int32) (lg : Nat → Int) (nl : Int) : Prop := (I 61 0 28).toInt = min nl 40 ∧ ∀ k w : Nat, (k : Int) < min nl 40 → w < 4 → (I 61 0 (29 + 4 * k + w)).toInt = lg (4 * (nl - min nl 40).toNat + 4 * k + w)
theorem mKp_congr {I I' : Nat → Nat → Nat → Int32} {lg : Nat → Int} {nl : Int} (h : mKp I lg nl) (e : ∀ j, 28 ≤ j → I' 61 0 j = I 61 0 j) : mKp I' lg nl := ⟨by rw [e _ (by omega)]; exact h.1, fun k w hk hw => by rw [e _ (by omega)]; exact h.2 k w hk hw⟩
variable {d S : Nat} {h : Nat × Option gNm} {I : Nat → Nat → Nat → Int32} {J : Nat → Nat → Nat → Int64} {Q : Option gV → gW → Prop}
theorem n_passes_loop {C : gCo} {t : gSt} {a1 a2 : Int32} {g : Int} (hc : cOk C) (h1 : a1.toInt = t 1) (h2 : a2.toInt = g) : ∀ (n b : Nat) (m : Int) (I : Nat → Nat → Nat → Int32) (a3 : Int32), b + n = 8 → (b : Int) ≤ C.1 3 → a3.toInt = b → mCo I C → (I 61 0 2).toInt = t 2 → (∀ u : Nat, (u : Int) < C.1 3 → (I 61 0 (20 + u)).toInt = gBi m u) →
    (∀ (I' : Nat → Nat → Nat → Int32), (∀ k i j, ¬ (k = 61 ∧ i = 0 ∧ 20 ≤ j ∧ j < 28) → I' k i j = I k i j) → (∀ u : Nat, (u : Int) < C.1 3 → (I' 61 0 (20 + u)).toInt = gBi (gPassN C t g n b m) u) → Q none (gwd S I' J h)) → (gq (d + 1) 202 2 [some (.inr (.inr (some (50, 0)))), some (.inl (a1)), some (.inl (a2)), some (.inl (a3))] [] (gwd S I J h) Q)
  | n, b, m, I, a3, hn, hbH, h3, hC, hs2, hf, K => by
    have e1 : (1 : Int32).toInt = 1 := rfl
    have e2 : (2 : Int32).toInt = 2 := rfl
    have e17 : (17 : Int32).toInt = 17 := rfl
    have e20 : (20 : Int32).toInt = 20 := rfl
    have rH := hc.2.2.2.1
    have c3 := hC.1.2.2.1
    have out : ∀ (n b : Nat) (m : Int), C.1 3 ≤ (b : Int) → gPassN C t g n b m = m := fun n => by
      induction n with
      | zero => intro b m _; rfl
      | succ n ih =>
        intro b m hb
        unfold gPassN
        rw [if_neg (fun e => by have := e.1; omega), ih (b + 1) m (by omega)]
    rw [gb_202_2, n_houses, Option.toList_some, List.singleton_append, gb_202_7]
    by_cases hb : (b : Int) < C.1 3
    case neg =>
      rw [if_pos (by rw [z_le]; omega), gb_202_64]
      exact K I (fun _ _ _ _ => rfl) (fun u hu => by rw [out n b m (by omega)]; exact hf u hu)
    match n, hn, K with
    | 0, hn, K => omega
    | n + 1, hn, K =>
      have ch := hC.2.2.1 b hb
      have ea : (a3 + 1).toInt = ((b + 1 : Nat) : Int) := by rw [z_add (by omega) (by omega), h3, e1]; rfl
      have q0 : (2 * a3).toInt = 2 * b := by rw [z_mul (by rw [h3, e2]; omega) (by rw [h3, e2]; omega), h3, e2]
      have q1 : (17 + 2 * a3).toInt = 17 + 2 * b := by rw [z_add (by omega) (by omega), q0, e17]
      have n1 : (17 + 2 * a3).toNatClampNeg = 17 + 2 * b := by rw [z_n, q1]; omega
      have q2 : (20 + a3).toInt = 20 + b := by rw [z_add (by omega) (by omega), h3, e20]
      have n2 : (20 + a3).toNatClampNeg = 20 + b := by rw [z_n, q2]; omega
      have hun : gPassN C t g (n + 1) b m = gPassN C t g n (b + 1) (if (b : Int) < C.1 3 ∧ t 1 < C.1 (30 + b) ∧ C.1 (30 + b) ≤ g ∧ C.1 (40 + b) ≤ t 2 then gSetB m b else m) := rfl
      have skip : ¬ ((b : Int) < C.1 3 ∧ t 1 < C.1 (30 + b) ∧ C.1 (30 + b) ≤ g ∧ C.1 (40 + b) ≤ t 2) → (gq (d + 1) 202 58 [some (.inr (.inr (some (50, 0)))), some (.inl (a1)), some (.inl (a2)), some (.inl (a3))] [] (gwd S I J h) Q) := fun hno => by
        rw [gb_202_58]
        refine n_passes_loop hc h1 h2 n (b + 1) m I _ (by omega) (by omega) ea hC hs2 hf fun I' hF g1 => K I' hF fun u hu => ?_
        rw [hun, if_neg hno]; exact g1 u hu
      rw [if_neg (by rw [z_le]; omega), gb_202_10, n_houseMile h3 (by omega), Option.toList_some, List.singleton_append, gb_202_15]
      by_cases w1 : t 1 < C.1 (30 + b)
      case neg => rw [if_pos (by rw [z_le]; omega)]; exact skip (fun e => w1 e.2.1)
      rw [if_neg (by rw [z_le]; omega), gb_202_19, n_houseMile h3 (by omega), Option.toList_some, List.singleton_append, gb_202_24]
      by_cases w2 : C.1 (30 + b) ≤ g
      case neg => rw [if_pos (by rw [z_lt]; omega)]; exact skip (fun e => w2 e.2.2.1)
      rw [if_neg (by rw [z_lt]; omega), gb_202_28]
      refine ⟨g_in.mpr (by omega), ?_⟩
      rw [n1, gb_202_39]
      refine ⟨rfl, ?_⟩
      rw [show (2 : Int32).toNatClampNeg = 2 from rfl, gb_202_45]
      by_cases w3 : C.1 (40 + b) ≤ t 2
      case neg => rw [if_pos (by rw [z_lt]; omega)]; exact skip (fun e => w3 e.2.2.2)
      rw [if_neg (by rw [z_lt]; omega), gb_202_48]
      refine ⟨g_in.mpr (by omega), ?_⟩
      rw [n2, gb_202_58]
      refine n_passes_loop hc h1 h2 n (b + 1) (gSetB m b) _ _ (by omega) (by omega) ea (mCo_congr hC fun k j hk => u_ne (by omega)) (by rw [u_j (by omega)]; exact hs2) (fun u hu => ?_) fun I' hF g1 => K I' (fun k i j hn => by rw [hF _ _ _ hn, u_ne (by omega)]) fun u hu => ?_
      · rw [u_at]
        unfold gBi
        rw [gBit_set]
        by_cases e : u = b
        · rw [if_pos (by omega), if_pos (by simp [e])]; rfl
        · rw [if_neg (by omega), hf u hu]
          unfold gBi
          rw [decide_eq_false (show ¬ b = u by omega), Bool.or_false]
      · rw [hun, if_pos ⟨hb, w1, w2, w3⟩]; exact g1 u hu
  termination_by n => n
theorem n_passes {C : gCo} {t : gSt} {a1 a2 : Int32} {x3 : Option gV} {g : Int} (hc : cOk C) (h1 : a1.toInt = t 1) (h2 : a2.toInt = g) (hC : mCo I C) (hS : mS I C t)
    (K : ∀ (I' : Nat → Nat → Nat → Int32), (∀ k i j, ¬ (k = 61 ∧ i = 0 ∧ 20 ≤ j ∧ j < 28) → I' k i j = I k i j) → (∀ u : Nat, (u : Int) < C.1 3 → (I' 61 0 (20 + u)).toInt = gBi (gPassN C t g 8 0 (t 5)) u) → Q none (gwd S I' J h)) : (gq (d + 1) 202 0 [some (.inr (.inr (some (50, 0)))), some (.inl (a1)), some (.inl (a2)), x3] [] (gwd S I J h) Q) := by
  have rH := hc.2.2.2.1
  rw [gb_202_0]
  exact n_passes_loop hc h1 h2 8 0 (t 5) I _ rfl (by omega) rfl hC hS.1.2.2.1 hS.2.2 K
theorem n_waned {C : gCo} {a1 a2 a3 : Int32} {r : Nat} {hour mile strength run : Int} {hd : Bool} (hc : cOk C) (hC : mCo I C) (h0 : (I 61 0 0).toInt = hour) (h1 : (I 61 0 1).toInt = mile) (h2 : (I 61 0 2).toInt = strength) (r0 : 0 ≤ hour ∧ hour ≤ 2000) (r1 : 0 ≤ mile ∧ mile ≤ 100) (r2 : 0 ≤ strength ∧ strength ≤ 99) (ha1 : a1.toInt = r) (hr : (r : Int) < C.1 2) (ha2 : a2.toInt = run) (rr : 0 ≤ run ∧ run ≤ 100) (ha3 : a3 = 0 ∨ a3 = 1) (ha3' : a3 = 1 ↔ hd = true)
    (K : ∀ I' (J' : Nat → Nat → Nat → Int64) x, (∀ k i j, ¬ ((k = 50 ∧ i = 0 ∧ (j = 49 ∨ j = 52 ∨ j = 53 ∨ j = 54 ∨ j = 55 ∨ j = 56 ∨ j = 57 ∨ j = 58 ∨ j = 105))) → I' k i j = I k i j) → FJ J J' → x.toInt = gWane (C.2 1) hour strength (gLight (C.2 0) mile hour) (C.1 (20 + r)) (if hd then 1 else 0) run → Q (some (.inl x)) (gwd S I' J' h)) : (gq (d + 4) 203 0 [some (.inr (.inr (some (50, 0)))), some (.inl (a1)), some (.inl (a2)), some (.inl (a3))] [] (gwd S I J h) Q) := by
  have e99 : (99 : Int32).toInt = 99 := rfl
  have rB := hc.2.2.1
  have hfo := hC.2.2.2.1 1 (by decide)
  have rp := (hc.2.2.2.2.2.2.1 r hr).2
  have cp := (hC.2.1 r hr).2
  rw [gb_203_0]
  refine ⟨rfl, ?_⟩
  rw [show (1 : Int32).toNatClampNeg = 1 from rfl, gb_203_8]
  refine ⟨rfl, ?_⟩
  rw [show (0 : Int32).toNatClampNeg = 0 from rfl, gb_203_14]
  refine n_lightAt hc hC (by omega) (by omega) fun I1 J1 x hF1 hFJ1 hx => ?_
  rw [h1, h0] at hx
  have hlr := gLight_r (C.2 0) mile hour
  rw [Option.toList_some, List.singleton_append, gb_203_17, n_coded (f := 1) rfl (by decide), Option.toList_some, List.singleton_append, gb_203_25, u_k (by decide), hF1 _ _ _ (by omega)]
  unfold mFo at hfo
  by_cases ht : C.1 (50 + 1) = 1
  case neg =>
    rw [if_neg ht] at hfo
    rw [if_pos (by rw [zb_0]; exact fun e => e hfo.1), gb_203_28]
    refine ⟨rfl, ?_⟩
    rw [show (2 : Int32).toNatClampNeg = 2 from rfl, gb_203_34, u_k (by decide), u_eq, hF1 61 0 2 (by omega)]
    refine n_cut (by decide) fun y hy => ?_
    rw [Option.toList_some, List.singleton_append, gb_203_45]
    refine K _ _ y (fun k i j hn => by rw [u_ne (by omega), hF1 _ _ _ (by omega)]) hFJ1 ?_
    rw [hy, z_64, z_sub (by omega) (by omega), h2, hx, e99, hfo.2, gWane_def (by omega) (by omega)]
  rw [if_pos ht] at hfo
  have hne : (I 58 0 (3 + 1)).toInt ≠ -1 := by obtain ⟨b, g1, _⟩ := hfo; omega
  rw [if_neg (by rw [zb_0]; exact fun e => e hne), gb_203_46]
  refine ⟨rfl, ?_⟩
  rw [gb_203_53]
  refine ⟨rfl, ?_⟩
  rw [gb_203_63, n_pace ha1 (by omega), Option.toList_some, List.singleton_append, gb_203_72]
  simp only [u_k (show (61 : Nat) ≠ 50 by decide), u_k (show (56 : Nat) ≠ 50 by decide), show (0 : Int32).toNatClampNeg = 0 from rfl, show (2 : Int32).toNatClampNeg = 2 from rfl]
  rw [hF1 61 0 0 (by omega), hF1 61 0 2 (by omega), hF1 56 0 (17 + 2 * r) (by omega)]
  have go : ∀ y : Int32, y.toInt = (if hd then 1 else 0) → (gq (d + 4) 203 85 [some (.inr (.inr (some (50, 0)))), some (.inl (a1)), some (.inl (a2)), some (.inl (a3))] [.inl (y), .inr (.inr (some (50, 0)))] (gwd S (gup (gup (gup (gup I1 50 0 55 x) 50 0 52 (I 61 0 0)) 50 0 54 (I 61 0 2)) 50 0 56 (I 56 0 (17 + 2 * r))) J1 h) Q) := fun y hy => by
    rw [gb_203_85]
    generalize hI2 : gup (gup (gup (gup (gup (gup I1 50 0 55 x) 50 0 52 (I 61 0 0)) 50 0 54 (I 61 0 2)) 50 0 56 (I 56 0 (17 + 2 * r))) 50 0 57 y) 50 0 58 a2 = I2
    have hF2 : (∀ k i j, ¬ ((k = 50 ∧ i = 0 ∧ (j = 49 ∨ j = 52 ∨ j = 53 ∨ j = 54 ∨ j = 55 ∨ j = 56 ∨ j = 57 ∨ j = 58 ∨ j = 105))) → I2 k i j = I k i j) := fun k i j hn => by
      rw [← hI2]
      repeat rw [u_ne (by omega)]
      exact hF1 _ _ _ (by omega)
    refine n_tell (f := 1) (al := alWn) (V := eVW hour strength (gLight (C.2 0) mile hour) (C.1 (20 + r)) y.toInt run) rfl (by decide) (fun w hw => by have : w = 0 ∨ w = 2 ∨ w = 3 ∨ w = 4 ∨ w = 5 ∨ w = 6 := of_decide_eq_true hw; omega) (fun w _ _ => ?_) hc.2.2.2.2.2.2.2.2.2.1 (fun w hw => ?_) (mSl_congr (hF2 _ _ _ (by omega)) (hF2 _ _ _ (by omega)) (fun z => hF2 _ _ _ (by omega)) hfo) fun I3 J3 z hF3 hFJ3 hz _ => ?_
    · have : 0 ≤ y.toInt ∧ y.toInt ≤ 1 := by rw [hy]; split <;> omega
      unfold eVW
      (repeat' split) <;> omega
    · have hw' : w = 0 ∨ w = 2 ∨ w = 3 ∨ w = 4 ∨ w = 5 ∨ w = 6 := of_decide_eq_true hw
      rw [← hI2]
      rcases hw' with rfl | rfl | rfl | rfl | rfl | rfl
      · rw [u_j (by decide), u_j (by decide), u_j (by decide), u_j (by decide), u_eq]; exact h0
      · rw [u_j (by decide), u_j (by decide), u_j (by decide), u_eq]; exact h2
      · rw [u_j (by decide), u_j (by decide), u_j (by decide), u_j (by decide), u_j (by decide), u_eq]; exact hx
      · rw [u_j (by decide), u_j (by decide), u_eq]; exact cp
      · rw [u_j (by decide), u_eq]; rfl
      · rw [u_eq]; exact ha2
    · rw [Option.toList_some, List.singleton_append, gb_203_98]
      refine n_cut (by decide) fun u hu => ?_
      rw [Option.toList_some, List.singleton_append, gb_203_103]
      refine K I3 J3 u (fun k i j hn => by rw [hF3 _ _ _ (by omega), hF2 _ _ _ hn]) (FJ_trans hFJ1 hFJ3) ?_
      rw [hu, hz, e99, ← hy]; rfl
  by_cases hz : a3 = 0
  · rw [if_pos hz, gb_203_84]
    refine go 0 ?_
    have : hd = false := by
      cases hh : hd
      · rfl
      · rw [ha3'.mpr hh] at hz; exact absurd hz (by decide)
    rw [this]; rfl
  · rw [if_neg hz, gb_203_80]
    exact go 1 (by rw [ha3'.mp (ha3.resolve_left hz)]; rfl)
