/-! The model: light, takers, houses passed, an hour. -/
def mCo (I : Nat → Nat → Nat → Int32) (C : gCo) : Prop := ((I 54 0 5).toInt = C.1 1 ∧ (I 54 0 6).toInt = C.1 2 ∧ (I 54 0 7).toInt = C.1 3 ∧ (I 54 0 8).toInt = C.1 4 ∧ (I 54 0 9).toInt = C.1 5) ∧ (∀ b : Nat, (b : Int) < C.1 2 → (I 56 0 (16 + 2 * b)).toInt = C.1 (10 + b) ∧ (I 56 0 (17 + 2 * b)).toInt = C.1 (20 + b)) ∧ (∀ b : Nat, (b : Int) < C.1 3 → (I 57 0 (16 + 2 * b)).toInt = C.1 (30 + b) ∧ (I 57 0 (17 + 2 * b)).toInt = C.1 (40 + b)) ∧ (∀ f, f < 3 → mFo I C f) ∧ I 50 0 48 ≠ 0
theorem mCo_congr {I I' : Nat → Nat → Nat → Int32} {C : gCo} (h : mCo I C) (e : ∀ k j, (k = 54 ∨ k = 56 ∨ k = 57 ∨ k = 58 ∨ k = 59 ∨ k = 60 ∨ k = 50 ∧ j = 48) → I' k 0 j = I k 0 j) : mCo I' C := by
  obtain ⟨h1, h2, h3, h4, h5⟩ := h
  refine ⟨?_, fun b hb => ?_, fun b hb => ?_, fun f hf => ?_, ?_⟩
  · rw [e _ _ (by omega), e _ _ (by omega), e _ _ (by omega), e _ _ (by omega), e _ _ (by omega)]; exact h1
  · rw [e _ _ (by omega), e _ _ (by omega)]; exact h2 b hb
  · rw [e _ _ (by omega), e _ _ (by omega)]; exact h3 b hb
  · exact mFo_congr (e _ _ (by omega)) (e _ _ (by omega)) (fun z => e _ _ (by omega)) (h4 f hf)
  · rw [e _ _ (by omega)]; exact h5
/-- the state in the model's row -/
def mS (I : Nat → Nat → Nat → Int32) (C : gCo) (t : gSt) : Prop := ((I 61 0 0).toInt = t 0 ∧ (I 61 0 1).toInt = t 1 ∧ (I 61 0 2).toInt = t 2 ∧ (I 61 0 3).toInt = t 3) ∧ (∀ b : Nat, (b : Int) < C.1 2 → (I 61 0 (4 + 2 * b)).toInt = t (10 + b) ∧ (I 61 0 (5 + 2 * b)).toInt = gBi (t 4) b) ∧ (∀ b : Nat, (b : Int) < C.1 3 → (I 61 0 (20 + b)).toInt = gBi (t 5) b)
theorem mS_congr {I I' : Nat → Nat → Nat → Int32} {C : gCo} {t : gSt} (hc : cOk C) (h : mS I C t) (e : ∀ j, j < 28 → I' 61 0 j = I 61 0 j) : mS I' C t := by
  have rB := hc.2.2.1
  have rH := hc.2.2.2.1
  obtain ⟨h1, h2, h3⟩ := h
  refine ⟨?_, fun b hb => ?_, fun b hb => ?_⟩
  · rw [e _ (by omega), e _ (by omega), e _ (by omega), e _ (by omega)]; exact h1
  · rw [e _ (by omega), e _ (by omega)]; exact h2 b hb
  · rw [e _ (by omega)]; exact h3 b hb
def FJ (J J' : Nat → Nat → Nat → Int64) : Prop := ∀ k i j, ¬ (k = 70 ∧ i = 0) → J' k i j = J k i j
theorem FJ_refl {J : Nat → Nat → Nat → Int64} : FJ J J := fun _ _ _ _ => rfl
theorem FJ_trans {J J' J'' : Nat → Nat → Nat → Int64} (h1 : FJ J J') (h2 : FJ J' J'') : FJ J J'' := fun k i j hn => by rw [h2 k i j hn, h1 k i j hn]
variable {d S : Nat} {h : Nat × Option gNm} {I : Nat → Nat → Nat → Int32} {J : Nat → Nat → Nat → Int64} {Q : Option gV → gW → Prop}
theorem gLight_def {mile hour : Int} : gLight (gDef 0) mile hour = 0 := by simp [gLight, gDef, gRun, gStep, gTop, gAsks]; omega
theorem gWane_def {hour strength light pace handed run : Int} (h1 : -1000000 ≤ strength - light) (h2 : strength - light ≤ 1000000) : gWane (gDef 1) hour strength light pace handed run = max 0 (min (strength - light) 99) := by
  have : gclip (strength - light) = strength - light := by unfold gclip; rw [if_neg (by omega), if_neg (by omega)]
  simp [gWane, gDef, gRun, gStep, gTop, gAsks, gPop2, gj_45, eVW, this]
theorem gTakes_def {hour strength light pace far : Int} : gTakes (gDef 2) hour strength light pace far := by simp [gTakes, gDef, gRun, gStep, gTop, gAsks]
theorem n_lightAt {a1 a2 : Int32} {C : gCo} (hc : cOk C) (hC : mCo I C) (h1 : -10000 ≤ a1.toInt ∧ a1.toInt ≤ 10000) (h2 : -10000 ≤ a2.toInt ∧ a2.toInt ≤ 10000)
    (K : ∀ I' (J' : Nat → Nat → Nat → Int64) x, (∀ k i j, ¬ ((k = 50 ∧ i = 0 ∧ (j = 49 ∨ j = 52 ∨ j = 53 ∨ j = 105))) → I' k i j = I k i j) → FJ J J' → x.toInt = gLight (C.2 0) a1.toInt a2.toInt → Q (some (.inl x)) (gwd S I' J' h)) : (gq (d + 3) 196 0 [some (.inr (.inr (some (50, 0)))), some (.inl (a1)), some (.inl (a2))] [] (gwd S I J h) Q) := by
  have hfo := hC.2.2.2.1 0 (by decide)
  rw [gb_196_0, n_coded (f := 0) rfl (by decide), Option.toList_some, List.singleton_append, gb_196_5]
  unfold mFo at hfo
  by_cases ht : C.1 (50 + 0) = 1
  · rw [if_pos ht] at hfo
    have hne : (I 58 0 (3 + 0)).toInt ≠ -1 := by obtain ⟨b, g1, _⟩ := hfo; omega
    rw [if_neg (by rw [zb_0]; exact fun e => e hne), gb_196_10]
    refine n_tell (f := 0) (al := alLi) (V := eVL a2.toInt a1.toInt) rfl (by decide) (fun w hw => by have : w = 0 ∨ w = 1 := of_decide_eq_true hw; omega) (fun w _ _ => by unfold eVL; split <;> omega) hc.2.2.2.2.2.2.2.2.1 (fun w hw => ?_) (mSl_congr (by rw [u_ne (by omega), u_ne (by omega)]) (by rw [u_ne (by omega), u_ne (by omega)]) (fun z => by rw [u_ne (by omega), u_ne (by omega)]) hfo) fun I1 J1 x hF1 hFJ1 hx _ => ?_
    · have hw' : w = 0 ∨ w = 1 := of_decide_eq_true hw
      rcases hw' with rfl | rfl
      · rw [u_eq]; rfl
      · rw [u_j (by decide), u_eq]; rfl
    · have e9 : (9 : Int32).toInt = 9 := rfl
      rw [Option.toList_some, List.singleton_append, gb_196_25]
      refine n_cut (by decide) fun y hy => ?_
      rw [Option.toList_some, List.singleton_append, gb_196_30]
      exact K I1 J1 y (fun k i j hn => by rw [hF1 _ _ _ (by omega), u_ne (by omega), u_ne (by omega)]) hFJ1 (by rw [hy, hx, e9]; rfl)
  · rw [if_neg ht] at hfo
    rw [if_pos (by rw [zb_0]; exact fun e => e hfo.1), gb_196_8]
    exact K I J 0 (fun _ _ _ _ => rfl) FJ_refl (by rw [hfo.2, gLight_def]; rfl)
theorem gBi_iff {m : Int} {b : Nat} : gBi m b = 1 ↔ gBit m b = true := by unfold gBi; split <;> simp_all
theorem n_doesTake {a1 : Int32} {b : Nat} {C : gCo} {t : gSt} (hc : cOk C) (hC : mCo I C) (hto : tOk C t) (hS : mS I C t) (h1 : a1.toInt = b) (hb : (b : Int) < C.1 2)
    (K : ∀ I' (J' : Nat → Nat → Nat → Int64) x, (∀ k i j, ¬ ((k = 50 ∧ i = 0 ∧ (j = 49 ∨ j = 52 ∨ j = 53 ∨ j = 54 ∨ j = 55 ∨ j = 56 ∨ j = 59 ∨ j = 105))) → I' k i j = I k i j) → FJ J J' → (x = 0 ∨ x = 1) → (x = 1 ↔ gTkb C t b = true) → Q (some (.inl x)) (gwd S I' J' h)) : (gq (d + 4) 198 0 [some (.inr (.inr (some (50, 0)))), some (.inl (a1))] [] (gwd S I J h) Q) := by
  have rB := hc.2.2.1
  have hb8 : b < 8 := by omega
  have hfo := hC.2.2.2.1 2 (by decide)
  have r0 := hto.1
  have r1 := hto.2.1
  have r2 := hto.2.2.1
  have rM := hc.2.1
  have r7 := hto.2.2.2.2.2.2 b hb
  have rp := (hc.2.2.2.2.2.2.1 b hb).2
  have cp := (hC.2.1 b hb).2
  have sb := (hS.2.1 b hb).1
  obtain ⟨s0, s1, s2, s3⟩ := hS.1
  rw [gb_198_0, n_coded (f := 2) rfl (by decide), Option.toList_some, List.singleton_append, gb_198_5]
  unfold mFo at hfo
  by_cases ht : C.1 (50 + 2) = 1
  case neg =>
    rw [if_neg ht] at hfo
    rw [if_pos (by rw [zb_0]; exact fun e => e hfo.1), gb_198_8]
    refine K I J 1 (fun _ _ _ _ => rfl) FJ_refl (Or.inr rfl) ⟨fun _ => gTkb_iff.mpr ?_, fun _ => rfl⟩
    unfold gTk; rw [hfo.2]; exact gTakes_def
  rw [if_pos ht] at hfo
  have hne : (I 58 0 (3 + 2)).toInt ≠ -1 := by obtain ⟨b, g1, _⟩ := hfo; omega
  rw [if_neg (by rw [zb_0]; exact fun e => e hne), gb_198_10, n_mileOf h1 hb8, Option.toList_some, List.singleton_append, gb_198_17]
  refine ⟨rfl, ?_⟩
  rw [show (0 : Int32).toNatClampNeg = 0 from rfl, gb_198_23]
  refine n_lightAt hc hC (by omega) (by omega) fun I1 J1 x hF1 hFJ1 hx => ?_
  rw [sb, s0] at hx
  have hlr := gLight_r (C.2 0) (t (10 + b)) (t 0)
  rw [Option.toList_some, List.singleton_append, gb_198_26]
  refine ⟨rfl, ?_⟩
  rw [gb_198_36]
  refine ⟨rfl, ?_⟩
  rw [gb_198_46, n_pace h1 hb8, Option.toList_some, List.singleton_append, gb_198_55]
  refine ⟨rfl, ?_⟩
  rw [gb_198_65, n_mileOf h1 hb8, Option.toList_some, List.singleton_append, gb_198_70]
  simp only [u_k (show (61 : Nat) ≠ 50 by decide), u_k (show (56 : Nat) ≠ 50 by decide), show (0 : Int32).toNatClampNeg = 0 from rfl, show (1 : Int32).toNatClampNeg = 1 from rfl, show (2 : Int32).toNatClampNeg = 2 from rfl]
  rw [hF1 61 0 0 (by omega), hF1 61 0 1 (by omega), hF1 61 0 2 (by omega), hF1 61 0 (4 + 2 * b) (by omega), hF1 56 0 (17 + 2 * b) (by omega)]
  have hgr : ∀ x : Int, -1000000 ≤ x → x ≤ 1000000 → -1000000 ≤ gabs x ∧ gabs x ≤ 1000000 := fun x _ _ => by unfold gabs; split <;> omega
  have hga : gabs (t 1 - t (10 + b)) = gabs (t (10 + b) - t 1) := by unfold gabs; split <;> split <;> omega
  refine n_far (by omega) (by omega) fun y hy => ?_
  rw [s1, sb, hga] at hy
  rw [Option.toList_some, List.singleton_append, gb_198_73]
  generalize hI2 : gup (gup (gup (gup (gup I1 50 0 55 x) 50 0 52 (I 61 0 0)) 50 0 54 (I 61 0 2)) 50 0 56 (I 56 0 (17 + 2 * b))) 50 0 59 y = I2
  have hF2 : (∀ k i j, ¬ ((k = 50 ∧ i = 0 ∧ (j = 49 ∨ j = 52 ∨ j = 53 ∨ j = 54 ∨ j = 55 ∨ j = 56 ∨ j = 59 ∨ j = 105))) → I2 k i j = I k i j) := fun k i j hn => by
    rw [← hI2]
    repeat rw [u_ne (by omega)]
    exact hF1 _ _ _ (by omega)
  refine n_tell (f := 2) (al := alTk) (V := eVT (t 0) (t 2) (gLight (C.2 0) (t (10 + b)) (t 0)) (C.1 (20 + b)) (gabs (t (10 + b) - t 1))) rfl (by decide) (fun w hw => by have : w = 0 ∨ w = 2 ∨ w = 3 ∨ w = 4 ∨ w = 7 := of_decide_eq_true hw; omega) (fun w _ _ => ?_) hc.2.2.2.2.2.2.2.2.2.2 (fun w hw => ?_) (mSl_congr (hF2 _ _ _ (by omega)) (hF2 _ _ _ (by omega)) (fun z => hF2 _ _ _ (by omega)) hfo) fun I3 J3 z hF3 hFJ3 hz hzt => ?_
  · have := hgr (t (10 + b) - t 1) (by omega) (by omega)
    unfold eVT
    (repeat' split) <;> omega
  · have hw' : w = 0 ∨ w = 2 ∨ w = 3 ∨ w = 4 ∨ w = 7 := of_decide_eq_true hw
    rw [← hI2]
    rcases hw' with rfl | rfl | rfl | rfl | rfl
    · rw [u_j (by decide), u_j (by decide), u_j (by decide), u_eq]; exact s0
    · rw [u_j (by decide), u_j (by decide), u_eq]; exact s2
    · rw [u_j (by decide), u_j (by decide), u_j (by decide), u_j (by decide), u_eq]; exact hx
    · rw [u_j (by decide), u_eq]; exact cp
    · rw [u_eq]; exact hy
  · have hF : (∀ k i j, ¬ ((k = 50 ∧ i = 0 ∧ (j = 49 ∨ j = 52 ∨ j = 53 ∨ j = 54 ∨ j = 55 ∨ j = 56 ∨ j = 59 ∨ j = 105))) → I3 k i j = I k i j) := fun k i j hn => by rw [hF3 _ _ _ (by omega), hF2 _ _ _ hn]
    rw [decide_eq_true (show C.1 52 = 1 from ht)] at hzt
    have hz01 : z.toInt = 0 ∨ z.toInt = 1 := hzt
    have hiff : gTkb C t b = true ↔ z.toInt ≠ 0 := by rw [hz]; exact gTkb_iff
    rw [Option.toList_some, List.singleton_append, gb_198_81]
    by_cases hq : z.toInt = 1
    · rw [if_pos ((lg_cmp_eq _ _).mpr (y_inj (by rw [hq]; rfl))), gb_198_86, gb_198_91, g_t1, true_and]
      exact K I3 J3 1 hF (FJ_trans hFJ1 hFJ3) (Or.inr rfl) ⟨fun _ => hiff.mpr (by omega), fun _ => rfl⟩
    · rw [if_neg (fun e => hq (by rw [(lg_cmp_eq _ _).mp e]; rfl)), gb_198_90, gb_198_91, g_t0, true_and]
      exact K I3 J3 0 hF (FJ_trans hFJ1 hFJ3) (Or.inl rfl) ⟨fun e => absurd e (by decide), fun e => by have := hiff.mp e; omega⟩
theorem n_taker_loop {a1 : Int32} {C : gCo} {t : gSt} {m : Int} (hc : cOk C) (hto : tOk C t) (h1 : a1.toInt = m) : ∀ (n b : Nat) (I : Nat → Nat → Nat → Int32) (J : Nat → Nat → Nat → Int64) (a2 : Int32), b + n = 8 → (b : Int) ≤ C.1 2 → a2.toInt = b → mCo I C → mS I C t →
    (∀ I' (J' : Nat → Nat → Nat → Int64) x, (∀ k i j, ¬ ((k = 50 ∧ i = 0 ∧ (j = 49 ∨ j = 52 ∨ j = 53 ∨ j = 54 ∨ j = 55 ∨ j = 56 ∨ j = 59 ∨ j = 105))) → I' k i j = I k i j) → FJ J J' → x.toInt = gFst (gCan C t m) n b → Q (some (.inl x)) (gwd S I' J' h)) → (gq (d + 5) 201 2 [some (.inr (.inr (some (50, 0)))), some (.inl (a1)), some (.inl (a2))] [] (gwd S I J h) Q)
  | n, b, I, J, a2, hn, hbB, h2, hC, hS, K => by
    have e1 : (1 : Int32).toInt = 1 := rfl
    have rB := hc.2.2.1
    have c2 := hC.1.2.1
    obtain ⟨s0, s1, s2, s3⟩ := hS.1
    have out : ¬ (b : Int) < C.1 2 → ∀ (n b : Nat), (C.1 2 ≤ (b : Int)) → gFst (gCan C t m) n b = -1 := fun _ n => by
      induction n with
      | zero => intro b _; rfl
      | succ n ih =>
        intro b hb
        unfold gFst
        rw [if_neg, ih (b + 1) (by omega)]
        unfold gCan
        rw [decide_eq_false (show ¬ (b : Int) < C.1 2 by omega), Bool.false_and, Bool.and_false]
        exact Bool.false_ne_true
    rw [gb_201_2, n_bearers, Option.toList_some, List.singleton_append, gb_201_7]
    by_cases hb : (b : Int) < C.1 2
    case neg =>
      rw [if_pos (by rw [z_le]; omega), gb_201_53, gb_201_54]
      exact K I J _ (fun _ _ _ _ => rfl) FJ_refl (by rw [out hb n b (by omega)]; rfl)
    match n, hn, K with
    | 0, hn, K => omega
    | n + 1, hn, K =>
      have sb := hS.2.1 b hb
      have ea : (a2 + 1).toInt = ((b + 1 : Nat) : Int) := by rw [z_add (by omega) (by omega), h2, e1]; rfl
      have next : ∀ (I1 : Nat → Nat → Nat → Int32) (J1 : Nat → Nat → Nat → Int64), (∀ k i j, ¬ ((k = 50 ∧ i = 0 ∧ (j = 49 ∨ j = 52 ∨ j = 53 ∨ j = 54 ∨ j = 55 ∨ j = 56 ∨ j = 59 ∨ j = 105))) → I1 k i j = I k i j) → FJ J J1 → gCan C t m b = false → (gq (d + 5) 201 47 [some (.inr (.inr (some (50, 0)))), some (.inl (a1)), some (.inl (a2))] [] (gwd S I1 J1 h) Q) := fun I1 J1 hF hFJ hno => by
        rw [gb_201_47]
        refine n_taker_loop hc hto h1 n (b + 1) I1 J1 _ (by omega) (by omega) ea (mCo_congr hC fun k j hk => hF _ _ _ (by omega)) (mS_congr hc hS fun j _ => hF _ _ _ (by omega)) fun I2 J2 x hF2 hFJ2 hx => K I2 J2 x (fun k i j hn => by rw [hF2 _ _ _ hn, hF _ _ _ hn]) (FJ_trans hFJ hFJ2) ?_
        rw [hx]; rw [show gFst (gCan C t m) (n + 1) b = if gCan C t m b then (b : Int) else gFst (gCan C t m) n (b + 1) from rfl, hno]; rfl
      rw [if_neg (by rw [z_le]; omega), gb_201_10]
      refine ⟨rfl, ?_⟩
      rw [show (3 : Int32).toNatClampNeg = 3 from rfl, gb_201_17]
      by_cases hr : t 3 = b
      · rw [if_pos (z_inj (by rw [h2, s3, hr]))]
        exact next I J (fun _ _ _ _ => rfl) FJ_refl (by simp [gCan, hr])
      rw [if_neg (fun e => hr (by rw [← s3, ← e, h2])), gb_201_20, n_aside h2 (by omega), Option.toList_some, List.singleton_append, gb_201_25]
      by_cases has : gBit (t 4) b = true
      · rw [if_neg (by rw [zb_0, sb.2]; exact fun e => e (gBi_iff.mpr has))]
        exact next I J (fun _ _ _ _ => rfl) FJ_refl (by simp [gCan, has])
      rw [if_pos (by rw [zb_0, sb.2]; exact fun e => has (gBi_iff.mp e)), gb_201_28, n_mileOf h2 (by omega), Option.toList_some, List.singleton_append, gb_201_33]
      by_cases hm : t (10 + b) = m
      case neg =>
        rw [if_neg (fun e => hm (by rw [← sb.1, e, h1]))]
        exact next I J (fun _ _ _ _ => rfl) FJ_refl (by simp [gCan, hm])
      rw [if_pos (z_inj (by rw [sb.1, hm, h1])), gb_201_37]
      refine n_doesTake hc hC hto hS h2 hb fun I1 J1 x hF1 hFJ1 hx hx1 => ?_
      rw [Option.toList_some, List.singleton_append, gb_201_42]
      have has' : gBit (t 4) b = false := Bool.eq_false_iff.mpr has
      by_cases htk : gTkb C t b = true
      · rw [if_neg (by rw [hx1.mpr htk]; decide), gb_201_45]
        refine K I1 J1 _ hF1 hFJ1 ?_
        rw [show gFst (gCan C t m) (n + 1) b = if gCan C t m b then (b : Int) else gFst (gCan C t m) n (b + 1) from rfl, if_pos (by simp [gCan, hr, has', hm, htk, hb])]
        exact h2
      · rw [if_pos (hx.resolve_right fun e => htk (hx1.mp e))]
        exact next I1 J1 hF1 hFJ1 (by simp [gCan, Bool.eq_false_iff.mpr htk])
  termination_by n => n
theorem n_taker {a1 : Int32} {x2 : Option gV} {C : gCo} {t : gSt} (hc : cOk C) (hC : mCo I C) (hto : tOk C t) (hS : mS I C t)
    (K : ∀ I' (J' : Nat → Nat → Nat → Int64) x, (∀ k i j, ¬ ((k = 50 ∧ i = 0 ∧ (j = 49 ∨ j = 52 ∨ j = 53 ∨ j = 54 ∨ j = 55 ∨ j = 56 ∨ j = 59 ∨ j = 105))) → I' k i j = I k i j) → FJ J J' → x.toInt = gTaker C t a1.toInt → Q (some (.inl x)) (gwd S I' J' h)) : (gq (d + 5) 201 0 [some (.inr (.inr (some (50, 0)))), some (.inl (a1)), x2] [] (gwd S I J h) Q) := by
  have rB := hc.2.2.1
  rw [gb_201_0]
  exact n_taker_loop hc hto rfl 8 0 I J _ rfl (by omega) rfl hC hS K
