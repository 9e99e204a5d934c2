/-! The model: a run, an hour, hours, copies. -/
variable {d S : Nat} {h : Nat × Option gNm} {I : Nat → Nat → Nat → Int32} {J : Nat → Nat → Nat → Int64} {Q : Option gV → gW → Prop}
theorem n_run_loop {C : gCo} {t : gSt} {a1 a2 : Int32} (hc : cOk C) (hto : tOk C t) : ∀ (L : Nat) (m : Int) (I : Nat → Nat → Nat → Int32) (J : Nat → Nat → Nat → Int64) (a3 a4 a5 : Int32), L ≤ 9 → 0 ≤ m → m ≤ C.1 1 → a5.toInt = L → a3.toInt = m → a4.toInt = -1 → mCo I C → mS I C t →
    (∀ I' (J' : Nat → Nat → Nat → Int64) a3 a4 a5, (∀ k i j, ¬ ((k = 50 ∧ i = 0 ∧ (j = 49 ∨ j = 52 ∨ j = 53 ∨ j = 54 ∨ j = 55 ∨ j = 56 ∨ j = 59 ∨ j = 105))) → I' k i j = I k i j) → FJ J J' → a3.toInt = (gScan C t (min (L : Int) (C.1 1 - m)).toNat m).1 → a4.toInt = (gScan C t (min (L : Int) (C.1 1 - m)).toNat m).2 → (gq (d + 6) 205 61 [some (.inr (.inr (some (50, 0)))), some (.inl (a1)), some (.inl (a2)), some (.inl (a3)), some (.inl (a4)), some (.inl (a5))] [] (gwd S I' J' h) Q)) → (gq (d + 6) 205 26 [some (.inr (.inr (some (50, 0)))), some (.inl (a1)), some (.inl (a2)), some (.inl (a3)), some (.inl (a4)), some (.inl (a5))] [] (gwd S I J h) Q)
  | 0, m, I, J, a3, a4, a5, hL, hm, hmM, h5, h3, h4, hC, hS, K => by
    rw [gb_205_26, if_pos (by rw [z_le, z_0]; omega)]
    refine K I J _ _ _ (fun _ _ _ _ => rfl) FJ_refl ?_ ?_
    · rw [show (min ((0 : Nat) : Int) (C.1 1 - m)).toNat = 0 by omega]; exact h3
    · rw [show (min ((0 : Nat) : Int) (C.1 1 - m)).toNat = 0 by omega]; exact h4
  | L + 1, m, I, J, a3, a4, a5, hL, hm, hmM, h5, h3, h4, hC, hS, K => by
    have e1 : (1 : Int32).toInt = 1 := rfl
    have c1 := hC.1.1
    have rM := hc.2.1
    rw [gb_205_26, if_neg (by rw [z_le, z_0]; omega), gb_205_31, n_miles, Option.toList_some, List.singleton_append, gb_205_36]
    by_cases hM : m < C.1 1
    case neg =>
      rw [if_pos (by rw [z_le]; omega)]
      refine K I J _ _ _ (fun _ _ _ _ => rfl) FJ_refl ?_ ?_
      · rw [show (min ((L + 1 : Nat) : Int) (C.1 1 - m)).toNat = 0 by omega]; exact h3
      · rw [show (min ((L + 1 : Nat) : Int) (C.1 1 - m)).toNat = 0 by omega]; exact h4
    have e4 : a4 = Int32.ofInt (-1) := z_inj (by rw [h4, z_m1])
    have ea : (a3 + 1).toInt = m + 1 := by rw [z_add (by omega) (by omega), h3, e1]
    have en : (min ((L + 1 : Nat) : Int) (C.1 1 - m)).toNat = (min (L : Int) (C.1 1 - (m + 1))).toNat + 1 := by omega
    rw [if_neg (by rw [z_le]; omega), gb_205_39, gb_205_42, if_pos e4, gb_205_45]
    refine n_taker hc hC hto hS fun I1 J1 x hF1 hFJ1 hx => ?_
    rw [ea] at hx
    have e5 : (a5 + Int32.ofInt (-1)).toInt = L := by rw [z_add (by rw [z_m1]; omega) (by rw [z_m1]; omega), h5, z_m1]; omega
    rw [Option.toList_some, List.singleton_append, gb_205_53, gb_205_55, gb_205_58]
    generalize a5 + Int32.ofInt (-1) = A5 at e5 ⊢
    have hC1 : mCo I1 C := mCo_congr hC fun k j hk => hF1 _ _ _ (by omega)
    have hS1 : mS I1 C t := mS_congr hc hS fun j _ => hF1 _ _ _ (by omega)
    rw [en] at K
    by_cases hz : gTaker C t (m + 1) = -1
    · refine n_run_loop hc hto L (m + 1) I1 J1 _ _ _ (by omega) (by omega) (by omega) e5 ea (by rw [hx, hz]) hC1 hS1 fun I2 J2 z3 z4 z5 hF2 hFJ2 g1 g2 => K I2 J2 z3 z4 z5 (fun k i j hn => by rw [hF2 _ _ _ hn, hF1 _ _ _ hn]) (FJ_trans hFJ1 hFJ2) ?_ ?_
      · rw [show gScan C t ((min (L : Int) (C.1 1 - (m + 1))).toNat + 1) m = if gTaker C t (m + 1) = -1 then gScan C t (min (L : Int) (C.1 1 - (m + 1))).toNat (m + 1) else (m + 1, gTaker C t (m + 1)) from rfl, if_pos hz]; exact g1
      · rw [show gScan C t ((min (L : Int) (C.1 1 - (m + 1))).toNat + 1) m = if gTaker C t (m + 1) = -1 then gScan C t (min (L : Int) (C.1 1 - (m + 1))).toNat (m + 1) else (m + 1, gTaker C t (m + 1)) from rfl, if_pos hz]; exact g2
    · have fin : ∀ z5 : Int32, (gq (d + 6) 205 61 [some (.inr (.inr (some (50, 0)))), some (.inl (a1)), some (.inl (a2)), some (.inl ((a3 + 1))), some (.inl (x)), some (.inl (z5))] [] (gwd S I1 J1 h) Q) := fun z5 => by
        refine K I1 J1 _ _ _ hF1 hFJ1 ?_ ?_
        · rw [show gScan C t ((min (L : Int) (C.1 1 - (m + 1))).toNat + 1) m = if gTaker C t (m + 1) = -1 then gScan C t (min (L : Int) (C.1 1 - (m + 1))).toNat (m + 1) else (m + 1, gTaker C t (m + 1)) from rfl, if_neg hz]; exact ea
        · rw [show gScan C t ((min (L : Int) (C.1 1 - (m + 1))).toNat + 1) m = if gTaker C t (m + 1) = -1 then gScan C t (min (L : Int) (C.1 1 - (m + 1))).toNat (m + 1) else (m + 1, gTaker C t (m + 1)) from rfl, if_neg hz]; exact hx
      rw [gb_205_26]
      split
      · exact fin _
      · rw [gb_205_31, n_miles, Option.toList_some, List.singleton_append, gb_205_36]
        split
        · exact fin _
        · rw [gb_205_39, gb_205_42, if_neg (by rw [z_eq, z_m1, hx]; exact hz)]
          exact fin _
/-- thought of: nothing is kept; else it is kept in a log -/
def mTh (I : Nat → Nat → Nat → Int32) (th : Bool) (lg : Nat → Int) (nl : Int) : Prop := if th then I 50 0 62 ≠ 0 else I 50 0 62 = 0 ∧ mKp I lg nl ∧ 0 ≤ nl ∧ nl ≤ 98
def mThd (I I' : Nat → Nat → Nat → Int32) (th : Bool) (lg : Nat → Int) (nl a b c e : Int) : Prop := if th then (∀ j, 28 ≤ j → I' 61 0 j = I 61 0 j) else mKp I' (gLog lg nl a b c e) (nl + 1)
theorem n_isRun {x1 x2 x3 x4 x5 : Option gV} {C : gCo} {t : gSt} {th : Bool} {lg : Nat → Int} {nl : Int} (hc : cOk C) (hC : mCo I C) (hto : tOk C t) (hS : mS I C t) (hmv : gMovb C t = true) (hth : mTh I th lg nl)
    (K : ∀ I' (J' : Nat → Nat → Nat → Int64), (∀ k i j, ¬ ((k = 50 ∧ i = 0 ∧ (j = 49 ∨ j = 52 ∨ j = 53 ∨ j = 54 ∨ j = 55 ∨ j = 56 ∨ j = 57 ∨ j = 58 ∨ j = 59 ∨ j = 63 ∨ j = 105)) ∨ (k = 61 ∧ i = 0)) → I' k i j = I k i j) → FJ J J' → (I' 50 0 63 = I 50 0 63 + Int32.ofInt ((gGoal C t).1 - t 1)) → I' 61 0 0 = I 61 0 0 → mS I' C (gRan C t) → mThd I I' th lg nl (t 0) (t 3) ((gRan C t) 1) ((gRan C t) 2) → Q none (gwd S I' J' h)) : (gq (d + 6) 205 0 [some (.inr (.inr (some (50, 0)))), x1, x2, x3, x4, x5] [] (gwd S I J h) Q) := by
  have e1 : (1 : Int32).toInt = 1 := rfl
  have e2 : (2 : Int32).toInt = 2 := rfl
  have e4 : (4 : Int32).toInt = 4 := rfl
  have rB := hc.2.2.1
  have rH := hc.2.2.2.1
  have rM := hc.2.1
  have m := gMovb_iff.mp hmv
  have hg := gGoal_r hc hto hmv
  have r0 := hto.1
  have r1 := hto.2.1
  have r2 := hto.2.2.1
  obtain ⟨s0, s1, s2, s3⟩ := hS.1
  have hr : ((t 3).toNat : Int) < C.1 2 := by omega
  have s3' : (I 61 0 3).toInt = (((t 3).toNat : Nat) : Int) := by omega
  have rp := (hc.2.2.2.2.2.2.1 (t 3).toNat hr).2
  have cp := (hC.2.1 (t 3).toNat hr).2
  rw [gb_205_0]
  refine ⟨rfl, ?_⟩
  rw [show (3 : Int32).toNatClampNeg = 3 from rfl, gb_205_6]
  refine ⟨rfl, ?_⟩
  rw [show (1 : Int32).toNatClampNeg = 1 from rfl, gb_205_13, gb_205_17, n_pace s3' (by omega), Option.toList_some, List.singleton_append, gb_205_24]
  refine n_run_loop hc hto (C.1 (20 + (t 3).toNat)).toNat (t 1) I J _ _ _ (by omega) (by omega) (by omega) (by rw [cp]; omega) s1 z_m1 hC hS fun I1 J1 a3 a4 a5 hF1 hFJ1 g1 g2 => ?_
  rw [show (min (((C.1 (20 + (t 3).toNat)).toNat : Nat) : Int) (C.1 1 - t 1)).toNat = (min (t 1 + C.1 (20 + (t 3).toNat)) (C.1 1) - t 1).toNat by omega] at g1 g2
  have g1' : a3.toInt = (gGoal C t).1 := g1
  have g2' : a4.toInt = (gGoal C t).2 := g2
  rw [gb_205_61]
  refine n_passes hc s1 g1' (mCo_congr hC fun k j hk => hF1 _ _ _ (by omega)) (mS_congr hc hS fun j _ => hF1 _ _ _ (by omega)) fun I2 hF2 hp2 => ?_
  have hF12 : (∀ k i j, ¬ ((k = 50 ∧ i = 0 ∧ (j = 49 ∨ j = 52 ∨ j = 53 ∨ j = 54 ∨ j = 55 ∨ j = 56 ∨ j = 59 ∨ j = 105)) ∨ (k = 61 ∧ i = 0 ∧ (j = 20 ∨ j = 21 ∨ j = 22 ∨ j = 23 ∨ j = 24 ∨ j = 25 ∨ j = 26 ∨ j = 27))) → I2 k i j = I k i j) := fun k i j hn => by rw [hF2 _ _ _ (by omega), hF1 _ _ _ (by omega)]
  have q0 : (2 * I 61 0 3).toInt = 2 * (((t 3).toNat : Nat) : Int) := by rw [z_mul (by rw [s3', e2]; omega) (by rw [s3', e2]; omega), s3', e2]
  have q1 : (4 + 2 * I 61 0 3).toInt = 4 + 2 * (((t 3).toNat : Nat) : Int) := by rw [z_add (by omega) (by omega), q0, e4]
  have n1 : (4 + 2 * I 61 0 3).toNatClampNeg = 4 + 2 * (t 3).toNat := by rw [z_n, q1]; omega
  rw [Option.toList_none, List.nil_append, gb_205_67]
  refine ⟨rfl, ?_⟩
  rw [gb_205_74]
  refine ⟨g_in.mpr (by omega), ?_⟩
  rw [show (1 : Int32).toNatClampNeg = 1 from rfl, n1, gb_205_85, gb_205_88]
  have go : ∀ I3 : Nat → Nat → Nat → Int32, I3 = (if (gGoal C t).2 = -1 then gup (gup I2 61 0 1 a3) 61 0 (4 + 2 * (t 3).toNat) a3 else gup (gup (gup I2 61 0 1 a3) 61 0 (4 + 2 * (t 3).toNat) a3) 61 0 3 a4) → (gq (d + 6) 205 99 [some (.inr (.inr (some (50, 0)))), some (.inl ((I 61 0 3))), some (.inl ((I 61 0 1))), some (.inl (a3)), some (.inl (a4)), some (.inl (a5))] [] (gwd S I3 J1 h) Q) := fun I3 hI3 => by
    have v : ∀ j, I3 61 0 j = if (gGoal C t).2 ≠ -1 ∧ j = 3 then a4 else if j = 4 + 2 * (t 3).toNat then a3 else if j = 1 then a3 else I2 61 0 j := fun j => by
      rw [hI3]
      by_cases hz : (gGoal C t).2 = -1
      · rw [if_pos hz, if_neg (fun e => e.1 hz), u_at, u_at]
      · rw [if_neg hz, u_at, u_at, u_at]
        by_cases e3 : j = 3
        · rw [if_pos e3, if_pos ⟨hz, e3⟩]
        · rw [if_neg e3, if_neg (show ¬ ((gGoal C t).2 ≠ -1 ∧ j = 3) from fun e => e3 e.2)]
    have vo : ∀ k i j, ¬ (k = 61 ∧ i = 0) → I3 k i j = I2 k i j := fun k i j hn => by
      rw [hI3]
      split
      · rw [u_ne (by omega), u_ne (by omega)]
      · rw [u_ne (by omega), u_ne (by omega), u_ne (by omega)]
    have v0 : I3 61 0 0 = I 61 0 0 := by rw [v, if_neg (by omega), if_neg (by omega), if_neg (by omega), hF12 _ _ _ (by omega)]
    have v1 : I3 61 0 1 = a3 := by rw [v, if_neg (by omega), if_neg (by omega), if_pos rfl]
    have v2 : I3 61 0 2 = I 61 0 2 := by rw [v, if_neg (by omega), if_neg (by omega), if_neg (by omega), hF12 _ _ _ (by omega)]
    have hC3 : mCo I3 C := mCo_congr hC fun k j hk => by rw [vo _ _ _ (by omega), hF12 _ _ _ (by omega)]
    have sub : (a3 - I 61 0 1).toInt = (gGoal C t).1 - t 1 := by rw [z_sub (by omega) (by omega), g1', s1]
    rw [gb_205_99, gb_205_112]
    have wan : ∀ y : Int32, (y = 0 ∨ y = 1) → (y = 1 ↔ decide ((gGoal C t).2 ≠ -1) = true) → (gq (d + 6) 205 120 [some (.inr (.inr (some (50, 0)))), some (.inl ((I 61 0 3))), some (.inl ((I 61 0 1))), some (.inl (a3)), some (.inl (a4)), some (.inl (a5))] [.inl (y), .inl ((a3 - I 61 0 1)), .inl ((I 61 0 3)), .inr (.inr (some (50, 0))), .inl (2), .inr (.inr (some (61, 0)))] (gwd S I3 J1 h) Q) := fun y hy hy1 => by
      rw [gb_205_120]
      refine n_waned (r := (t 3).toNat) (hd := decide ((gGoal C t).2 ≠ -1)) (hour := t 0) (mile := (gGoal C t).1) (strength := t 2) (run := (gGoal C t).1 - t 1) hc hC3 (by rw [v0]; exact s0) (by rw [v1]; exact g1') (by rw [v2]; exact s2) (by omega) (by omega) (by omega) s3' hr sub (by omega) hy hy1 fun I4 J4 x hF4 hFJ4 hx => ?_
      rw [Option.toList_some, List.singleton_append, gb_205_123]
      refine ⟨rfl, ?_⟩
      rw [show (2 : Int32).toNatClampNeg = 2 from rfl, gb_205_124]
      generalize hI5 : gup (gup I4 61 0 2 x) 50 0 63 (gup I4 61 0 2 x 50 0 63 + (a3 - I 61 0 1)) = I5
      have w : ∀ j, I5 61 0 j = if j = 2 then x else I3 61 0 j := fun j => by rw [← hI5, u_k (by decide), u_at, hF4 _ _ _ (by omega)]
      have w63 : I5 50 0 63 = I 50 0 63 + (a3 - I 61 0 1) := by rw [← hI5, u_eq, u_k (by decide), hF4 _ _ _ (by omega), vo _ _ _ (by omega), hF12 _ _ _ (by omega)]
      have hF5 : (∀ k i j, ¬ ((k = 50 ∧ i = 0 ∧ (j = 49 ∨ j = 52 ∨ j = 53 ∨ j = 54 ∨ j = 55 ∨ j = 56 ∨ j = 57 ∨ j = 58 ∨ j = 59 ∨ j = 63 ∨ j = 105)) ∨ (k = 61 ∧ i = 0)) → I5 k i j = I k i j) := fun k i j hn => by rw [← hI5, u_ne (by omega), u_ne (by omega), hF4 _ _ _ (by omega), vo _ _ _ (by omega), hF12 _ _ _ (by omega)]
      have hx' : x.toInt = (gRan C t) 2 := by
        rw [hx]; unfold gRan; rw [sUp_eq]
        by_cases hz : (gGoal C t).2 = -1
        · rw [if_pos hz, decide_eq_false (fun e => e hz)]; rfl
        · rw [if_neg hz, decide_eq_true hz]; rfl
      have g1r : (gRan C t) 1 = (gGoal C t).1 := by unfold gRan; rw [sUp_ne (by decide), sUp_ne (by decide), sUp_eq]
      have hS5 : mS I5 C (gRan C t) := by
        refine ⟨⟨?_, ?_, ?_, ?_⟩, fun b hb => ⟨?_, ?_⟩, fun b hb => ?_⟩
        · rw [w, if_neg (by decide), v0, s0]; unfold gRan; rw [sUp_ne (by decide), sUp_ne (by decide), sUp_ne (by decide), sUp_ne (by omega), sUp_ne (by decide)]
        · rw [w, if_neg (by decide), v1, g1', g1r]
        · rw [w, if_pos rfl, hx']
        · rw [w, if_neg (by decide), v]; unfold gRan; rw [sUp_ne (by decide), sUp_eq]
          by_cases hz : (gGoal C t).2 = -1
          · rw [if_neg (fun e => e.1 hz), if_neg (by omega), if_neg (by omega), if_pos hz, hF12 _ _ _ (by omega)]; exact s3
          · rw [if_pos ⟨hz, rfl⟩, if_neg hz]; exact g2'
        · rw [w, if_neg (by omega), v, if_neg (by omega)]; unfold gRan; rw [sUp_ne (by omega), sUp_ne (by omega), sUp_ne (by omega), sUp_at]
          by_cases e : b = (t 3).toNat
          · rw [if_pos (by omega), if_pos (by omega)]; exact g1'
          · rw [if_neg (by omega), if_neg (by omega), if_neg (by omega), sUp_ne (by omega), hF12 _ _ _ (by omega)]; exact (hS.2.1 b hb).1
        · rw [w, if_neg (by omega), v, if_neg (by omega), if_neg (by omega), if_neg (by omega), hF12 _ _ _ (by omega)]
          rw [show (gRan C t) 4 = t 4 by unfold gRan; rw [sUp_ne (by decide), sUp_ne (by decide), sUp_ne (by decide), sUp_ne (by omega), sUp_ne (by decide)]]
          exact (hS.2.1 b hb).2
        · rw [w, if_neg (by omega), v, if_neg (by omega), if_neg (by omega), if_neg (by omega)]
          rw [show (gRan C t) 5 = gPassN C t (gGoal C t).1 8 0 (t 5) by unfold gRan; rw [sUp_ne (by decide), sUp_ne (by decide), sUp_ne (by decide), sUp_ne (by omega), sUp_eq]]
          exact hp2 b hb
      have hrow : ∀ j, 28 ≤ j → I5 61 0 j = I 61 0 j := fun j hj => by rw [w, if_neg (by omega), v, if_neg (by omega), if_neg (by omega), if_neg (by omega), hF12 _ _ _ (by omega)]
      have hs63 : I 50 0 63 + (a3 - I 61 0 1) = I 50 0 63 + Int32.ofInt ((gGoal C t).1 - t 1) := by
        rw [show a3 - I 61 0 1 = Int32.ofInt ((gGoal C t).1 - t 1) from z_inj (by rw [sub, z_of (by omega) (by omega)])]
      cases th with
      | true =>
        have h62 : I5 50 0 62 ≠ 0 := by rw [hF5 _ _ _ (by omega)]; exact hth
        rw [gb_204_0, if_neg h62, gb_204_7, Option.toList_none, List.nil_append, gb_205_141]
        exact K I5 J4 hF5 (FJ_trans hFJ1 hFJ4) (by rw [w63, hs63]) (by rw [w, if_neg (by decide), v0]) hS5 hrow
      | false =>
        obtain ⟨t1, t2, t3⟩ := hth
        refine n_isKept (by rw [hF5 _ _ _ (by omega)]; exact t1) (mKp_congr t2 hrow) t3 fun I6 hF6 hk6 => ?_
        rw [Option.toList_none, List.nil_append, gb_205_141]
        refine K I6 J4 (fun k i j hn => by rw [hF6 _ _ _ (by omega), hF5 _ _ _ hn]) (FJ_trans hFJ1 hFJ4) (by rw [hF6 _ _ _ (by omega), w63, hs63]) (by rw [hF6 _ _ _ (by omega), w, if_neg (by decide), v0]) (mS_congr hc hS5 fun j hj => hF6 _ _ _ (by omega)) ?_
        show mKp I6 _ _
        rw [s3] at hk6
        rw [show (I5 61 0 0).toInt = t 0 by rw [w, if_neg (by decide), v0, s0], show (I5 61 0 1).toInt = (gRan C t) 1 by rw [w, if_neg (by decide), v1, g1', g1r], show (I5 61 0 2).toInt = (gRan C t) 2 by rw [w, if_pos rfl, hx']] at hk6
        exact hk6
    by_cases hz : (gGoal C t).2 = -1
    · rw [if_pos (z_inj (by rw [g2', hz, z_m1])), gb_205_119]
      exact wan 0 (Or.inl rfl) ⟨fun e => absurd e (by decide), fun e => absurd (of_decide_eq_true e) (fun f => f hz)⟩
    · rw [if_neg (fun e => hz (by rw [← g2', e, z_m1])), gb_205_115]
      exact wan 1 (Or.inr rfl) ⟨fun _ => decide_eq_true hz, fun _ => rfl⟩
  by_cases hz : (gGoal C t).2 = -1
  · rw [if_pos (z_inj (by rw [g2', hz, z_m1]))]
    exact go _ (by rw [if_pos hz])
  · rw [if_neg (fun e => hz (by rw [← g2', e, z_m1])), gb_205_91]
    refine ⟨rfl, ?_⟩
    exact go _ (by rw [if_neg hz]; rfl)
