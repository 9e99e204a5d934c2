/-! What is found out by letting hours go by in a copy: the class. -/
theorem gSetB_r {m : Int} {b : Nat} (h0 : 0 ≤ m) (h1 : m < 256) (hb : b < 8) : 0 ≤ gSetB m b ∧ gSetB m b < 256 := by
  have e := (or_tbl m.toNat (by omega) b hb).2
  unfold gSetB
  omega
theorem gPassN_r {C : gCo} {t : gSt} {g : Int} : ∀ {n b : Nat} {m : Int}, b + n ≤ 8 → 0 ≤ m → m < 256 → 0 ≤ gPassN C t g n b m ∧ gPassN C t g n b m < 256
  | 0, _, _, _, h0, h1 => ⟨h0, h1⟩
  | n + 1, b, m, hb, h0, h1 => by
    unfold gPassN
    split
    · have := gSetB_r h0 h1 (show b < 8 by omega)
      exact gPassN_r (by omega) this.1 this.2
    · exact gPassN_r (by omega) h0 h1
theorem gTaker_r {C : gCo} {t : gSt} {m : Int} : -1 ≤ gTaker C t m ∧ (gTaker C t m ≠ -1 → 0 ≤ gTaker C t m ∧ gTaker C t m < 8 ∧ gTaker C t m < C.1 2 ∧ gCan C t m (gTaker C t m).toNat = true) := by
  have h := @gFst_r (gCan C t m) 8 0
  refine ⟨h.1, fun hne => ?_⟩
  have h2 := h.2.2 hne
  have h1 := h.2.1
  have h3 : gTaker C t m = gFst (gCan C t m) 8 0 := rfl
  rw [← h3] at h2 h1
  have h4 := h2.2
  unfold gCan at h4
  simp only [Bool.and_eq_true, decide_eq_true_eq] at h4
  refine ⟨by omega, by omega, by omega, h2.2⟩
theorem tOk_ran {C : gCo} {t : gSt} (hc : cOk C) (ht : tOk C t) (hm : gMovb C t = true) (x : Int) (hx : 0 ≤ x ∧ x ≤ 2000) : tOk C (sUp (gRan C t) 0 x) := by
  have hmv := gMovb_iff.mp hm
  have hg := gGoal_r hc ht hm
  obtain ⟨r0, r1, r2, r3, r4, r5, r6⟩ := ht
  have hw := gWane_r (C.2 1) (t 0) (t 2) (gLight (C.2 0) (gGoal C t).1 (t 0)) (C.1 (20 + (t 3).toNat)) (if (gGoal C t).2 = -1 then 0 else 1) ((gGoal C t).1 - t 1)
  have hp := @gPassN_r C t (gGoal C t).1 8 0 (t 5) (by omega) r5.1 r5.2
  have ht := @gTaker_r C t (gGoal C t).1
  have hs := (@gScan_r C t (min (t 1 + C.1 (20 + (t 3).toNat)) (C.1 1) - t 1).toNat (t 1)).2.2.2
  have hs' : (gGoal C t).2 = -1 ∨ (gGoal C t).2 = gTaker C t (gGoal C t).1 := hs
  refine ⟨?_, ?_, ?_, ?_, ?_, ?_, fun b hb => ?_⟩
  · rw [sUp_eq]; exact hx
  · rw [sUp_ne (by decide)]; unfold gRan; rw [sUp_ne (by decide), sUp_ne (by decide), sUp_eq]; omega
  · rw [sUp_ne (by decide)]; unfold gRan; rw [sUp_eq]; exact hw
  · rw [sUp_ne (by decide)]; unfold gRan; rw [sUp_ne (by decide), sUp_eq]
    split
    · exact r3
    · omega
  · rw [sUp_ne (by decide)]; unfold gRan; rw [sUp_ne (by decide), sUp_ne (by decide), sUp_ne (by decide), sUp_ne (by omega), sUp_ne (by decide)]; exact r4
  · rw [sUp_ne (by decide)]; unfold gRan; rw [sUp_ne (by decide), sUp_ne (by decide), sUp_ne (by decide), sUp_ne (by omega), sUp_eq]; exact hp
  · rw [sUp_ne (by omega)]; unfold gRan; rw [sUp_ne (by omega), sUp_ne (by omega), sUp_ne (by omega), sUp_at]
    split
    · omega
    · rw [sUp_ne (by omega)]; exact r6 b hb
theorem tOk_up0 {C : gCo} {t : gSt} (ht : tOk C t) (x : Int) (hx : 0 ≤ x ∧ x ≤ 2000) : tOk C (sUp t 0 x) := by
  obtain ⟨r0, r1, r2, r3, r4, r5, r6⟩ := ht
  exact ⟨by rw [sUp_eq]; exact hx, by rw [sUp_ne (by decide)]; exact r1, by rw [sUp_ne (by decide)]; exact r2, by rw [sUp_ne (by decide)]; exact r3, by rw [sUp_ne (by decide)]; exact r4, by rw [sUp_ne (by decide)]; exact r5, fun b hb => by rw [sUp_ne (by omega)]; exact r6 b hb⟩
theorem tOk_up2 {C : gCo} {t : gSt} (ht : tOk C t) (x : Int) (hx : 0 ≤ x ∧ x ≤ 99) : tOk C (sUp t 2 x) := by
  obtain ⟨r0, r1, r2, r3, r4, r5, r6⟩ := ht
  exact ⟨by rw [sUp_ne (by decide)]; exact r0, by rw [sUp_ne (by decide)]; exact r1, by rw [sUp_eq]; exact hx, by rw [sUp_ne (by decide)]; exact r3, by rw [sUp_ne (by decide)]; exact r4, by rw [sUp_ne (by decide)]; exact r5, fun b hb => by rw [sUp_ne (by omega)]; exact r6 b hb⟩
theorem tOk_up4 {C : gCo} {t : gSt} (ht : tOk C t) (x : Int) (hx : 0 ≤ x ∧ x < 256) : tOk C (sUp t 4 x) := by
  obtain ⟨r0, r1, r2, r3, r4, r5, r6⟩ := ht
  exact ⟨by rw [sUp_ne (by decide)]; exact r0, by rw [sUp_ne (by decide)]; exact r1, by rw [sUp_ne (by decide)]; exact r2, by rw [sUp_ne (by decide)]; exact r3, by rw [sUp_eq]; exact hx, by rw [sUp_ne (by decide)]; exact r5, fun b hb => by rw [sUp_ne (by omega)]; exact r6 b hb⟩
theorem tOk_upm {C : gCo} {t : gSt} (ht : tOk C t) (k : Nat) (x : Int) (hx : 0 ≤ x ∧ x ≤ C.1 1) : tOk C (sUp t (10 + k) x) := by
  obtain ⟨r0, r1, r2, r3, r4, r5, r6⟩ := ht
  exact ⟨by rw [sUp_ne (by omega)]; exact r0, by rw [sUp_ne (by omega)]; exact r1, by rw [sUp_ne (by omega)]; exact r2, by rw [sUp_ne (by omega)]; exact r3, by rw [sUp_ne (by omega)]; exact r4, by rw [sUp_ne (by omega)]; exact r5, fun b hb => by
    rw [sUp_at]
    split
    · exact hx
    · exact r6 b hb⟩
theorem tOk_hour {C : gCo} {t : gSt} (hc : cOk C) (ht : tOk C t) : tOk C (gHour C t) := by
  have r0 := ht.1
  unfold gHour
  by_cases hm : gMovb C t = true
  · rw [if_pos hm]; exact tOk_ran hc ht hm _ (by omega)
  · rw [if_neg hm]; exact tOk_up0 ht _ (by omega)
theorem gHour_0 {C : gCo} {t : gSt} : gHour C t 0 = min (t 0 + 1) 999 := sUp_eq
def gThru (C : gCo) (t : gSt) : Bool := decide (0 < t 2 ∧ t 1 = C.1 1)
theorem gThru_iff {C : gCo} {t : gSt} : gThru C t = true ↔ (0 < t 2 ∧ t 1 = C.1 1) := decide_eq_true_iff
def gHT (C : gCo) : Nat → gSt → Int → Int × gSt
  | 0, t, k => (if gThru C t then k else -1, t)
  | n + 1, t, k => if gThru C t then (k, t) else gHT C n (gHour C t) (k + 1)
def gThrough (C : gCo) (t : gSt) : Int × gSt := gHT C (min 60 (999 - t 0)).toNat t 0
def gIt (C : gCo) : Nat → gSt → gSt
  | 0, t => t
  | n + 1, t => gIt C n (gHour C t)
theorem tOk_it {C : gCo} (hc : cOk C) : ∀ {n : Nat} {t : gSt}, tOk C t → tOk C (gIt C n t)
  | 0, _, h => h
  | n + 1, _, h => tOk_it hc (n := n) (tOk_hour hc h)
theorem gHT_ok {C : gCo} (hc : cOk C) : ∀ {n : Nat} {t : gSt} {k : Int}, tOk C t → 0 ≤ k → tOk C (gHT C n t k).2 ∧ -1 ≤ (gHT C n t k).1 ∧ (gHT C n t k).1 ≤ k + n ∧ ((gHT C n t k).1 ≠ -1 → 0 < (gHT C n t k).2 2)
  | 0, t, k, h, hk => by
    unfold gHT
    refine ⟨h, ?_, ?_, ?_⟩
    · show -1 ≤ if gThru C t then k else -1
      split <;> omega
    · show (if gThru C t then k else -1) ≤ k + 0
      split <;> omega
    · intro hne
      by_cases hg : gThru C t = true
      · exact (gThru_iff.mp hg).1
      · exact absurd (if_neg hg) hne
  | n + 1, t, k, h, hk => by
    unfold gHT
    split
    · rename_i hg
      exact ⟨h, by show -1 ≤ k; omega, by show k ≤ k + ((n + 1 : Nat) : Int); omega, fun _ => (gThru_iff.mp hg).1⟩
    · have := @gHT_ok C hc n (gHour C t) (k + 1) (tOk_hour hc h) (by omega)
      exact ⟨this.1, this.2.1, by omega, this.2.2.2⟩
variable {d S : Nat} {h : Nat × Option gNm} {I : Nat → Nat → Nat → Int32} {J : Nat → Nat → Nat → Int64} {Q : Option gV → gW → Prop}
theorem m_htt_loop {i1 i2 : Nat} {C : gCo} {a3 : Int32} (hc : cOk C) : ∀ (n : Nat) (t : gSt) (k : Int) (I : Nat → Nat → Nat → Int32) (a4 : Int32), a3.toInt = k + n → 0 ≤ k → k + n ≤ 60 → a4.toInt = k → kCo I i1 C → tOk C t → kS I 2 t →
    (∀ (I' : Nat → Nat → Nat → Int32) x, (∀ k i j, ¬ ((k = 14 ∧ i = i1 ∧ (j = 3 ∨ j = 4 ∨ j = 5 ∨ j = 6)) ∨ (k = 16 ∧ i = i1) ∨ (k = 18 ∧ i = i1) ∨ (k = 21 ∧ i = 2) ∨ (k = 22 ∧ i = 2)) → I' k i j = I k i j) → kS I' 2 (gHT C n t k).2 → x.toInt = (gHT C n t k).1 → Q (some (.inl x)) (gwd S I' J h)) → (gq (d + 5) 4 25 [some (.inr (.inr (some (20, 0)))), some (.inr (.inr (some (34, i1)))), some (.inr (.inr (some (21, i2)))), some (.inl (a3)), some (.inl (a4))] [] (gwd S I J h) Q)
  | 0, t, k, I, a4, h3, hk, hk6, h4, hC, hto, hS, K => by
    have e1 : (1 : Int32).toInt = 1 := rfl
    have s1 := hS.1 1 (by decide)
    have s2 := hS.1 2 (by decide)
    have c1 := hC.1 1 (by decide)
    rw [gb_4_25, if_pos (by rw [z_le]; omega), gb_4_64, m_isThrough, Option.toList_some, List.singleton_append, gb_4_72, s1, s2, c1]
    unfold gHT at K
    by_cases hg : gThru C t = true
    · rw [if_neg (by rw [zb_0]; exact fun e => e (gThru_iff.mp hg)), gb_4_75, m_max, Option.toList_some, List.singleton_append, gb_4_80, gb_4_84]
      refine K I _ (fun _ _ _ _ => rfl) hS ?_
      rw [if_pos hg, zmax_i, z_0, h3]; omega
    · rw [if_pos (by rw [zb_0]; exact fun e => hg (gThru_iff.mpr e)), gb_4_83, gb_4_84]
      refine K I _ (fun _ _ _ _ => rfl) hS ?_
      rw [if_neg hg]; rfl
  | n + 1, t, k, I, a4, h3, hk, hk6, h4, hC, hto, hS, K => by
    have e1 : (1 : Int32).toInt = 1 := rfl
    have s1 := hS.1 1 (by decide)
    have s2 := hS.1 2 (by decide)
    have c1 := hC.1 1 (by decide)
    rw [gb_4_25, if_neg (by rw [z_le]; omega), gb_4_31, m_isThrough, Option.toList_some, List.singleton_append, gb_4_39, s1, s2, c1]
    unfold gHT at K
    by_cases hg : gThru C t = true
    · rw [if_neg (by rw [zb_0]; exact fun e => e (gThru_iff.mp hg)), gb_4_42]
      rw [if_pos hg] at K
      exact K I _ (fun _ _ _ _ => rfl) hS h4
    · rw [if_pos (by rw [zb_0]; exact fun e => hg (gThru_iff.mpr e)), gb_4_45]
      rw [if_neg hg] at K
      refine m_runHour hc hC hto hS fun I1 x hF1 hS1 _ => ?_
      rw [Option.toList_some, List.singleton_append, gb_4_57]
      exact m_htt_loop hc n (gHour C t) (k + 1) I1 _ (by omega) (by omega) (by omega) (by rw [z_add (by omega) (by omega), h4, e1]) (kCo_congr hC fun k j hk => hF1 _ _ _ (by omega)) (tOk_hour hc hto) hS1 fun I2 y hF2 hS2 hy => K I2 y (fun k i j hn => by rw [hF2 _ _ _ hn, hF1 _ _ _ hn]) hS2 hy
theorem m_htt {i1 i2 : Nat} {x3 x4 : Option gV} {C : gCo} {t : gSt} (hc : cOk C) (hC : kCo I i1 C) (hto : tOk C t) (h9 : t 0 ≤ 999) (hS : kS I i2 t) (hne : i2 ≠ 2)
    (K : ∀ (I' : Nat → Nat → Nat → Int32) x, (∀ k i j, ¬ ((k = 14 ∧ i = i1 ∧ (j = 3 ∨ j = 4 ∨ j = 5 ∨ j = 6)) ∨ (k = 16 ∧ i = i1) ∨ (k = 18 ∧ i = i1) ∨ (k = 21 ∧ i = 2) ∨ (k = 22 ∧ i = 2)) → I' k i j = I k i j) → kS I' 2 (gThrough C t).2 → x.toInt = (gThrough C t).1 → Q (some (.inl x)) (gwd S I' J h)) : (gq (d + 5) 4 0 [some (.inr (.inr (some (20, 0)))), some (.inr (.inr (some (34, i1)))), some (.inr (.inr (some (21, i2)))), x3, x4] [] (gwd S I J h) Q) := by
  have e60 : (60 : Int32).toInt = 60 := rfl
  have e999 : (999 : Int32).toInt = 999 := rfl
  have r0 := hto.1
  rw [gb_4_0]
  refine m_copy (fun e => hne e.symm) hS fun I1 hF1 hS1 => ?_
  have s0 := hS.1 0 (by decide)
  have f0 := hF1 21 i2 0 (by omega)
  rw [Option.toList_none, List.nil_append, gb_4_8, m_min, Option.toList_some, List.singleton_append, gb_4_21]
  refine m_htt_loop hc (min 60 (999 - t 0)).toNat t 0 I1 _ ?_ (by omega) (by omega) z_0 (kCo_congr hC fun k j hk => hF1 _ _ _ (by omega)) hto hS1 fun I2 x hF2 hS2 hx => K I2 x (fun k i j hn => by rw [hF2 _ _ _ (by omega), hF1 _ _ _ (by omega)]) hS2 hx
  rw [zmin_i, z_sub (by rw [f0]; omega) (by rw [f0]; omega), f0, e60, e999, s0]; omega
theorem m_behind_loop {i1 i2 : Nat} {C : gCo} {a3 a4 : Int32} (hc : cOk C) : ∀ (n : Nat) (t : gSt) (k : Int) (I : Nat → Nat → Nat → Int32) (a5 : Int32), a3.toInt = k + n → 0 ≤ k → k + n ≤ 60 → a5.toInt = k → kCo I i1 C → tOk C t → kS I 2 t →
    (∀ (I' : Nat → Nat → Nat → Int32) a5, (∀ k i j, ¬ ((k = 14 ∧ i = i1 ∧ (j = 3 ∨ j = 4 ∨ j = 5 ∨ j = 6)) ∨ (k = 16 ∧ i = i1) ∨ (k = 18 ∧ i = i1) ∨ (k = 21 ∧ i = 2) ∨ (k = 22 ∧ i = 2)) → I' k i j = I k i j) → kS I' 2 (gIt C n t) → (gq (d + 5) 3 43 [some (.inr (.inr (some (20, 0)))), some (.inr (.inr (some (34, i1)))), some (.inr (.inr (some (21, i2)))), some (.inl (a3)), some (.inl (a4)), some (.inl (a5))] [] (gwd S I' J h) Q)) → (gq (d + 5) 3 11 [some (.inr (.inr (some (20, 0)))), some (.inr (.inr (some (34, i1)))), some (.inr (.inr (some (21, i2)))), some (.inl (a3)), some (.inl (a4)), some (.inl (a5))] [] (gwd S I J h) Q)
  | 0, t, k, I, a5, h3, hk, hk6, h5, hC, hto, hS, K => by
    rw [gb_3_11, if_pos (by rw [z_le]; omega)]
    exact K I _ (fun _ _ _ _ => rfl) hS
  | n + 1, t, k, I, a5, h3, hk, hk6, h5, hC, hto, hS, K => by
    have e1 : (1 : Int32).toInt = 1 := rfl
    have e60 : (60 : Int32).toInt = 60 := rfl
    rw [gb_3_11, if_neg (by rw [z_le]; omega), gb_3_17, if_neg (by rw [z_le]; omega), gb_3_24]
    refine m_runHour hc hC hto hS fun I1 x hF1 hS1 _ => ?_
    rw [Option.toList_some, List.singleton_append, gb_3_36]
    exact m_behind_loop hc n (gHour C t) (k + 1) I1 _ (by omega) (by omega) (by omega) (by rw [z_add (by omega) (by omega), h5, e1]) (kCo_congr hC fun k j hk => hF1 _ _ _ (by omega)) (tOk_hour hc hto) hS1 fun I2 y hF2 hS2 => K I2 y (fun k i j hn => by rw [hF2 _ _ _ hn, hF1 _ _ _ hn]) hS2
/-- later: what a number tells of a state -/
def gTold (t : gSt) (w : Int) : Int := if w = 0 then t 1 else if w = 1 then t 2 else if w = 2 then t 3 else t 5
theorem m_behind {i1 i2 : Nat} {a3 a4 : Int32} {x5 : Option gV} {C : gCo} {t : gSt} (hc : cOk C) (hC : kCo I i1 C) (hto : tOk C t) (hS : kS I i2 t) (hne : i2 ≠ 2) (h3 : 0 ≤ a3.toInt ∧ a3.toInt ≤ 60) (h4 : 0 ≤ a4.toInt ∧ a4.toInt ≤ 3)
    (K : ∀ (I' : Nat → Nat → Nat → Int32) x, (∀ k i j, ¬ ((k = 14 ∧ i = i1 ∧ (j = 3 ∨ j = 4 ∨ j = 5 ∨ j = 6)) ∨ (k = 16 ∧ i = i1) ∨ (k = 18 ∧ i = i1) ∨ (k = 21 ∧ i = 2) ∨ (k = 22 ∧ i = 2)) → I' k i j = I k i j) → x.toInt = gTold (gIt C a3.toInt.toNat t) a4.toInt → Q (some (.inl x)) (gwd S I' J h)) : (gq (d + 5) 3 0 [some (.inr (.inr (some (20, 0)))), some (.inr (.inr (some (34, i1)))), some (.inr (.inr (some (21, i2)))), some (.inl (a3)), some (.inl (a4)), x5] [] (gwd S I J h) Q) := by
  rw [gb_3_0]
  refine m_copy (fun e => hne e.symm) hS fun I1 hF1 hS1 => ?_
  rw [Option.toList_none, List.nil_append, gb_3_8]
  refine m_behind_loop hc a3.toInt.toNat t 0 I1 _ (by omega) (by omega) (by omega) z_0 (kCo_congr hC fun k j hk => hF1 _ _ _ (by omega)) hto hS1 fun I2 x hF2 hS2 => ?_
  have hF : (∀ k i j, ¬ ((k = 14 ∧ i = i1 ∧ (j = 3 ∨ j = 4 ∨ j = 5 ∨ j = 6)) ∨ (k = 16 ∧ i = i1) ∨ (k = 18 ∧ i = i1) ∨ (k = 21 ∧ i = 2) ∨ (k = 22 ∧ i = 2)) → I2 k i j = I k i j) := fun k i j hn => by rw [hF2 _ _ _ (by omega), hF1 _ _ _ (by omega)]
  have e : a4.toInt = 0 ∨ a4.toInt = 1 ∨ a4.toInt = 2 ∨ a4.toInt = 3 := by omega
  rw [gb_3_43]
  rcases e with e | e | e | e
  · rw [if_pos (z_inj e), gb_3_76]
    exact K I2 _ hF (by rw [hS2.1 1 (by decide), e]; rfl)
  · obtain rfl : a4 = 1 := z_inj e
    rw [if_neg (by decide), if_pos rfl, gb_3_84]
    exact K I2 _ hF (by rw [hS2.1 2 (by decide), e]; rfl)
  · obtain rfl : a4 = 2 := z_inj e
    rw [if_neg (by decide), if_neg (by decide), if_pos rfl, gb_3_92]
    exact K I2 _ hF (by rw [hS2.1 3 (by decide), e]; rfl)
  · obtain rfl : a4 = 3 := z_inj e
    rw [if_neg (by decide), if_neg (by decide), if_neg (by decide), if_pos rfl, gb_3_100]
    exact K I2 _ hF (by rw [hS2.1 5 (by decide), e]; rfl)
/-- how strong it is when it is through; 0 if it doesn't come through -/
def gStr (C : gCo) (t : gSt) : Int := if (gThrough C t).1 = -1 then 0 else (gThrough C t).2 2
theorem kS_up2 {I : Nat → Nat → Nat → Int32} {i : Nat} {t : gSt} {x : Int32} {v : Int} (hS : kS I i t) (hx : x.toInt = v) : kS (gup I 21 i 2 x) i (sUp t 2 v) := ⟨fun j hj => by
    rw [u_at, sUp_at]
    split
    · exact hx
    · exact hS.1 j hj, fun b hb => by rw [u_k (by decide), sUp_ne (by omega)]; exact hS.2 b hb⟩
theorem kS_up4 {I : Nat → Nat → Nat → Int32} {i : Nat} {t : gSt} {x : Int32} {v : Int} (hS : kS I i t) (hx : x.toInt = v) : kS (gup I 21 i 4 x) i (sUp t 4 v) := ⟨fun j hj => by
    rw [u_at, sUp_at]
    split
    · exact hx
    · exact hS.1 j hj, fun b hb => by rw [u_k (by decide), sUp_ne (by omega)]; exact hS.2 b hb⟩
theorem kS_upm {I : Nat → Nat → Nat → Int32} {i b : Nat} {t : gSt} {x : Int32} {v : Int} (hS : kS I i t) (hx : x.toInt = v) : kS (gup I 22 i b x) i (sUp t (10 + b) v) := ⟨fun j hj => by rw [u_k (by decide), sUp_ne (by omega)]; exact hS.1 j hj, fun j hj => by
    rw [u_at, sUp_at]
    by_cases e : j = b
    · rw [if_pos e, if_pos (by omega)]; exact hx
    · rw [if_neg e, if_neg (by omega)]; exact hS.2 j hj⟩
theorem gThrough_ok {C : gCo} {t : gSt} (hc : cOk C) (ht : tOk C t) : tOk C (gThrough C t).2 ∧ -1 ≤ (gThrough C t).1 ∧ (gThrough C t).1 ≤ 60 ∧ ((gThrough C t).1 ≠ -1 → 0 < (gThrough C t).2 2) := by
  have := @gHT_ok C hc (min 60 (999 - t 0)).toNat t 0 ht (by omega)
  refine ⟨this.1, this.2.1, ?_, this.2.2.2⟩
  have h2 : (gThrough C t).1 = (gHT C (min 60 (999 - t 0)).toNat t 0).1 := rfl
  omega
theorem gStr_r {C : gCo} {t : gSt} (hc : cOk C) (ht : tOk C t) : 0 ≤ gStr C t ∧ gStr C t ≤ 99 := by
  have := (gThrough_ok hc ht).1.2.2.1
  unfold gStr
  split
  · omega
  · exact this
/-- the first strength from s on that is enough -/
def gLeastF (C : gCo) (t : gSt) : Nat → Int → Int
  | 0, _ => -1
  | n + 1, s => if (gThrough C (sUp t 2 s)).1 = -1 then gLeastF C t n (s + 1) else s
theorem m_least_loop {i1 i2 : Nat} {C : gCo} {t : gSt} (hc : cOk C) (hto : tOk C t) (h9 : t 0 ≤ 999) : ∀ (n : Nat) (s s0 : Int) (I : Nat → Nat → Nat → Int32) (a3 : Int32), s + n = 100 → 1 ≤ s → a3.toInt = s → kCo I i1 C → kS I 1 (sUp t 2 s0) →
    (∀ (I' : Nat → Nat → Nat → Int32) x, (∀ k i j, ¬ ((k = 14 ∧ i = i1 ∧ (j = 3 ∨ j = 4 ∨ j = 5 ∨ j = 6)) ∨ (k = 16 ∧ i = i1) ∨ (k = 18 ∧ i = i1) ∨ (k = 21 ∧ i = 2) ∨ (k = 22 ∧ i = 2) ∨ (k = 21 ∧ i = 1) ∨ (k = 22 ∧ i = 1)) → I' k i j = I k i j) → x.toInt = gLeastF C t n s → Q (some (.inl x)) (gwd S I' J h)) → (gq (d + 6) 8 10 [some (.inr (.inr (some (20, 0)))), some (.inr (.inr (some (34, i1)))), some (.inr (.inr (some (21, i2)))), some (.inl (a3))] [] (gwd S I J h) Q)
  | 0, s, s0, I, a3, hn, hs, h3, hC, hS, K => by
    have e99 : (99 : Int32).toInt = 99 := rfl
    rw [gb_8_10, if_pos (by rw [z_lt]; omega), gb_8_45, gb_8_46]
    exact K I _ (fun _ _ _ _ => rfl) rfl
  | n + 1, s, s0, I, a3, hn, hs, h3, hC, hS, K => by
    have e99 : (99 : Int32).toInt = 99 := rfl
    have e1 : (1 : Int32).toInt = 1 := rfl
    have esu : ∀ v, sUp (sUp t 2 s0) 2 v = sUp t 2 v := fun v => by funext j; simp only [sUp]; split <;> rfl
    rw [gb_8_10, if_neg (by rw [z_lt]; omega), gb_8_16]
    have hS1 : kS (gup I 21 1 2 a3) 1 (sUp t 2 s) := by rw [← esu s]; exact kS_up2 hS h3
    refine m_htt hc (kCo_congr hC fun k j hk => u_ne (by omega)) (tOk_up2 hto s (by omega)) (by rw [sUp_ne (by decide)]; exact h9) hS1 (by decide) fun I1 x hF1 _ hx => ?_
    rw [Option.toList_some, List.singleton_append, gb_8_33, gb_8_34]
    unfold gLeastF at K
    by_cases hz : (gThrough C (sUp t 2 s)).1 = -1
    · rw [if_pos (z_inj (by rw [hx, hz]; rfl)), gb_8_39]
      rw [if_pos hz] at K
      refine m_least_loop hc hto h9 n (s + 1) s I1 _ (by omega) (by omega) (by rw [z_add (by omega) (by omega), h3, e1]) (kCo_congr hC fun k j hk => by rw [hF1 _ _ _ (by omega), u_ne (by omega)]) (kS_congr hS1 (fun j => hF1 _ _ _ (by omega)) (fun j => hF1 _ _ _ (by omega))) fun I2 y hF2 hy => K I2 y (fun k i j hn => by rw [hF2 _ _ _ hn, hF1 _ _ _ (by omega), u_ne (by omega)]) hy
    · rw [if_neg (fun e => hz (by rw [← hx, e]; rfl)), gb_8_37]
      rw [if_neg hz] at K
      exact K I1 _ (fun k i j hn => by rw [hF1 _ _ _ (by omega), u_ne (by omega)]) h3
theorem m_least {i1 i2 : Nat} {x3 : Option gV} {C : gCo} {t : gSt} (hc : cOk C) (hC : kCo I i1 C) (hto : tOk C t) (h9 : t 0 ≤ 999) (hS : kS I i2 t) (hne : i2 ≠ 1)
    (K : ∀ (I' : Nat → Nat → Nat → Int32) x, (∀ k i j, ¬ ((k = 14 ∧ i = i1 ∧ (j = 3 ∨ j = 4 ∨ j = 5 ∨ j = 6)) ∨ (k = 16 ∧ i = i1) ∨ (k = 18 ∧ i = i1) ∨ (k = 21 ∧ i = 2) ∨ (k = 22 ∧ i = 2) ∨ (k = 21 ∧ i = 1) ∨ (k = 22 ∧ i = 1)) → I' k i j = I k i j) → x.toInt = gLeastF C t 99 1 → Q (some (.inl x)) (gwd S I' J h)) : (gq (d + 6) 8 0 [some (.inr (.inr (some (20, 0)))), some (.inr (.inr (some (34, i1)))), some (.inr (.inr (some (21, i2)))), x3] [] (gwd S I J h) Q) := by
  rw [gb_8_0]
  refine m_copy (fun e => hne e.symm) hS fun I1 hF1 hS1 => ?_
  rw [Option.toList_none, List.nil_append, gb_8_8]
  have esu : sUp t 2 (t 2) = t := by funext j; simp only [sUp]; split
                                     · rename_i e; rw [e]
                                     · rfl
  refine m_least_loop hc hto h9 99 1 (t 2) I1 _ rfl (by omega) rfl (kCo_congr hC fun k j hk => hF1 _ _ _ (by omega)) (by rw [esu]; exact hS1) fun I2 x hF2 hx => K I2 x (fun k i j hn => by rw [hF2 _ _ _ hn, hF1 _ _ _ (by omega)]) hx
