/-! The class: strengths left, telling, what is seen read. -/
def gKth (f : Nat → Bool) (k left : Int) : Nat → Nat → Int → Int
  | 0, _, _ => if k = -1 then left else -1
  | n + 1, v, b => if f v = true ∧ b = k then v else gKth f k left n (v + 1) (b + if f v then 1 else 0)
/-- by how many of the first v strengths that are left house i % 8 is passed behind i / 8 + 1 hours -/
def gPsum (C : gCo) (t : gSt) (f : Nat → Bool) : Nat → Nat → Int
  | 0, _ => 0
  | v + 1, i => gPsum C t f v i + if f v && gBit (gIt C (i / 8 + 1) (sUp t 2 v) 5) (i % 8) then 1 else 0
def gTelF (P : Nat → Int) (left houses : Int) : Nat → Nat → Int × Int → Int × Int
  | 0, _, a => a
  | n + 1, i, a => gTelF P left houses n (i + 1) (if 0 < left ∧ ((i % 8 : Nat) : Int) < houses ∧ max (P i) (left - P i) < a.1 then (max (P i) (left - P i), (i : Int)) else a)
def gTell (C : gCo) (t : gSt) (f : Nat → Bool) : Int × Int := gTelF (gPsum C t f 100) (gLeft f 100 0 0) (C.1 3) (8 * (min 30 (999 - t 0)).toNat) 0 (gLeft f 100 0 0 + 1, -1)
theorem gIt_succ {C : gCo} : ∀ {n : Nat} {t : gSt}, gIt C (n + 1) t = gHour C (gIt C n t)
  | 0, _ => rfl
  | n + 1, t => by rw [show gIt C (n + 1 + 1) t = gIt C (n + 1) (gHour C t) from rfl, gIt_succ]; rfl
theorem gPsum_r {C : gCo} {t : gSt} {f : Nat → Bool} : ∀ {v i : Nat}, 0 ≤ gPsum C t f v i ∧ gPsum C t f v i ≤ v
  | 0, _ => by simp [gPsum]
  | v + 1, i => by
    unfold gPsum
    have := @gPsum_r C t f v i
    have h2 : 0 ≤ (if f v && gBit (gIt C (i / 8 + 1) (sUp t 2 v) 5) (i % 8) then (1 : Int) else 0) ∧ (if f v && gBit (gIt C (i / 8 + 1) (sUp t 2 v) 5) (i % 8) then (1 : Int) else 0) ≤ 1 := by split <;> omega
    omega
variable {d S : Nat} {h : Nat × Option gNm} {I : Nat → Nat → Nat → Int32} {J : Nat → Nat → Nat → Int64} {Q : Option gV → gW → Prop}
theorem m_kth_loop {f : Nat → Bool} {a1 : Int32} (hf : kFit I f) (K : ∀ x, x.toInt = gKth f a1.toInt (gLeft f 100 0 0) 100 0 0 → Q (some (.inl x)) (gwd S I J h)) : ∀ (n v : Nat) (b : Int) (a2 a3 : Int32), v + n = 100 → a3.toInt = v → a2.toInt = b → 0 ≤ b → b ≤ v → gKth f a1.toInt (gLeft f 100 0 0) n v b = gKth f a1.toInt (gLeft f 100 0 0) 100 0 0 → (gq d 14 4 [some (.inr (.inr (some (20, 0)))), some (.inl (a1)), some (.inl (a2)), some (.inl (a3))] [] (gwd S I J h) Q)
  | 0, v, b, a2, a3, hn, h3, h2, hb, hbv, he => by
    have e100 : (Int32.ofNat 100).toInt = 100 := rfl
    rw [gb_14_4, if_pos (by rw [z_le]; omega), gb_14_52, gb_14_54]
    rw [show gKth f a1.toInt (gLeft f 100 0 0) 0 v b = if a1.toInt = -1 then gLeft f 100 0 0 else -1 from rfl] at he
    by_cases hz : a1.toInt = -1
    · rw [if_pos (z_inj (by rw [hz, z_m1])), gb_14_57, gb_14_65]
      exact K _ (by rw [← he, if_pos hz]; exact hf.1)
    · rw [if_neg (fun e => hz (by rw [e, z_m1])), gb_14_64, gb_14_65]
      exact K _ (by rw [← he, if_neg hz]; rfl)
  | n + 1, v, b, a2, a3, hn, h3, h2, hb, hbv, he => by
    have e100 : (Int32.ofNat 100).toInt = 100 := rfl
    have e1 : (1 : Int32).toInt = 1 := rfl
    have en : a3.toNatClampNeg = v := by rw [z_n]; omega
    have hv := hf.2 v (by omega)
    rw [gb_14_4, if_neg (by rw [z_le]; omega), gb_14_13]
    refine ⟨g_in.mpr (by omega), ?_⟩
    rw [en, gb_14_19]
    rw [show gKth f a1.toInt (gLeft f 100 0 0) (n + 1) v b = if f v = true ∧ b = a1.toInt then (v : Int) else gKth f a1.toInt (gLeft f 100 0 0) n (v + 1) (b + if f v then 1 else 0) from rfl] at he
    have go : ¬ (f v = true ∧ b = a1.toInt) → (gq d 14 29 [some (.inr (.inr (some (20, 0)))), some (.inl (a1)), some (.inl (a2)), some (.inl (a3))] [] (gwd S I J h) Q) := fun hno => by
      rw [if_neg hno] at he
      rw [gb_14_29]
      refine ⟨g_in.mpr (by omega), ?_⟩
      rw [en, gb_14_36]
      by_cases hfv : f v = true
      · rw [if_pos hfv] at hv he
        rw [if_neg (fun e => by rw [e] at hv; exact absurd hv (by decide)), gb_14_39, gb_14_44]
        exact m_kth_loop hf K n (v + 1) (b + 1) _ _ (by omega) (by rw [z_add (by omega) (by omega), h3, e1]; rfl) (by rw [z_add (by omega) (by omega), h2, e1]) (by omega) (by omega) he
      · rw [if_neg hfv] at hv he
        rw [if_pos (z_inj hv), gb_14_43, gb_14_44]
        exact m_kth_loop hf K n (v + 1) (b + 0) _ _ (by omega) (by rw [z_add (by omega) (by omega), h3, e1]; rfl) (by rw [z_add (by rw [z_0]; omega) (by rw [z_0]; omega), h2, z_0]) (by omega) (by omega) he
    by_cases hfv : f v = true
    · rw [if_pos hfv] at hv
      rw [if_neg (fun e => by rw [e] at hv; exact absurd hv (by decide)), gb_14_22]
      by_cases hb2 : b = a1.toInt
      · rw [if_pos (z_inj (by rw [h2, hb2])), gb_14_27]
        rw [if_pos ⟨hfv, hb2⟩] at he
        exact K _ (by rw [← he]; exact h3)
      · rw [if_neg (fun e => hb2 (by rw [← h2, e]))]
        exact go (fun e => hb2 e.2)
    · rw [if_neg hfv] at hv
      rw [if_pos (z_inj hv)]
      exact go (fun e => hfv e.1)
theorem m_strengthLeft {f : Nat → Bool} {a1 : Int32} {x2 x3 : Option gV} (hf : kFit I f) (K : ∀ x, x.toInt = gKth f a1.toInt (gLeft f 100 0 0) 100 0 0 → Q (some (.inl x)) (gwd S I J h)) : (gq d 14 0 [some (.inr (.inr (some (20, 0)))), some (.inl (a1)), x2, x3] [] (gwd S I J h) Q) := by
  rw [gb_14_0]
  exact m_kth_loop hf K 100 0 0 0 0 rfl rfl rfl (by omega) (by omega) rfl
theorem m_zero_loop {i1 i2 : Nat} {a3 : Int32} {x5 x6 : Option gV} : ∀ (n i : Nat) (I : Nat → Nat → Nat → Int32) (a4 : Int32), i + n = 240 → a4.toInt = i → (∀ u, u < i → (I 27 0 u).toInt = 0) →
    (∀ (I' : Nat → Nat → Nat → Int32) a4, (∀ k i j, ¬ ((k = 27 ∧ i = 0)) → I' k i j = I k i j) → (∀ u, u < 240 → (I' 27 0 u).toInt = 0) → (gq (d + 5) 16 27 [some (.inr (.inr (some (20, 0)))), some (.inr (.inr (some (34, i1)))), some (.inr (.inr (some (21, i2)))), some (.inl (a3)), some (.inl (a4)), x5, x6] [] (gwd S I' J h) Q)) → (gq (d + 5) 16 3 [some (.inr (.inr (some (20, 0)))), some (.inr (.inr (some (34, i1)))), some (.inr (.inr (some (21, i2)))), some (.inl (a3)), some (.inl (a4)), x5, x6] [] (gwd S I J h) Q)
  | 0, i, I, a4, hn, h4, hz, K => by
    have e240 : (Int32.ofNat 240).toInt = 240 := rfl
    rw [gb_16_3, if_pos (by rw [z_le]; omega)]
    exact K I _ (fun _ _ _ _ => rfl) (fun u hu => hz u (by omega))
  | n + 1, i, I, a4, hn, h4, hz, K => by
    have e240 : (Int32.ofNat 240).toInt = 240 := rfl
    have e1 : (1 : Int32).toInt = 1 := rfl
    have en : a4.toNatClampNeg = i := by rw [z_n]; omega
    rw [gb_16_3, if_neg (by rw [z_le]; omega), gb_16_13]
    refine ⟨g_in.mpr (by omega), ?_⟩
    rw [en, gb_16_21]
    refine m_zero_loop n (i + 1) _ _ (by omega) (by rw [z_add (by omega) (by omega), h4, e1]; rfl) (fun u hu => ?_) fun I' a4 hF g => K I' a4 (fun k i j hn => by rw [hF _ _ _ hn, u_ne (by omega)]) g
    rw [u_at]
    split
    · rfl
    · exact hz u (by omega)
theorem m_count_in {i1 i2 n v : Nat} {C : gCo} {t t' : gSt} {f : Nat → Bool} {a3 a4 a5 : Int32} (hto : tOk C t') (hv : f v = true) (hv100 : v < 100) (ht' : t' = gIt C (n + 1) (sUp t 2 v)) (h5 : a5.toInt = n) (hn : n < 30) : ∀ (m q : Nat) (I : Nat → Nat → Nat → Int32) (a6 : Int32), q + m = 8 → a6.toInt = q → kS I 2 t' → (∀ i, i < 240 → i / 8 = n → i % 8 < q → (I 27 0 i).toInt = gPsum C t f (v + 1) i) → (∀ i, i < 240 → i / 8 = n → q ≤ i % 8 → (I 27 0 i).toInt = gPsum C t f v i) →
    (∀ (I' : Nat → Nat → Nat → Int32) a6, (∀ k i j, ¬ ((k = 27 ∧ i = 0)) → I' k i j = I k i j) → (∀ i, i < 240 → i / 8 = n → (I' 27 0 i).toInt = gPsum C t f (v + 1) i) → (∀ i, i / 8 ≠ n → I' 27 0 i = I 27 0 i) → (gq (d + 5) 16 145 [some (.inr (.inr (some (20, 0)))), some (.inr (.inr (some (34, i1)))), some (.inr (.inr (some (21, i2)))), some (.inl (a3)), some (.inl (a4)), some (.inl (a5)), some (.inl (a6))] [] (gwd S I' J h) Q)) → (gq (d + 5) 16 99 [some (.inr (.inr (some (20, 0)))), some (.inr (.inr (some (34, i1)))), some (.inr (.inr (some (21, i2)))), some (.inl (a3)), some (.inl (a4)), some (.inl (a5)), some (.inl (a6))] [] (gwd S I J h) Q)
  | 0, q, I, a6, hq, h6, hS, hl, hr, K => by
    have e8 : (8 : Int32).toInt = 8 := rfl
    rw [gb_16_99, if_pos (by rw [z_le]; omega)]
    exact K I _ (fun _ _ _ _ => rfl) (fun i h1 h2 => hl i h1 h2 (by omega)) (fun _ _ => rfl)
  | m + 1, q, I, a6, hq, h6, hS, hl, hr, K => by
    have e8 : (8 : Int32).toInt = 8 := rfl
    have e1 : (1 : Int32).toInt = 1 := rfl
    have r5 := hto.2.2.2.2.2.1
    have s5 := hS.1 5 (by decide)
    have em : (a5 * 8).toInt = n * 8 := by rw [z_mul (by rw [h5, e8]; omega) (by rw [h5, e8]; omega), h5, e8]
    have ex : (a5 * 8 + a6).toInt = n * 8 + q := by rw [z_add (by omega) (by omega), em, h6]
    have en : (a5 * 8 + a6).toNatClampNeg = n * 8 + q := by rw [z_n, ex]; omega
    have hb := z_bit (x := I 21 2 5) (a := a6) (b := q) (by omega) (by omega) h6 (by omega)
    rw [s5] at hb
    have hold := hr (n * 8 + q) (by omega) (by omega) (by omega)
    have hps := @gPsum_r C t f v (n * 8 + q)
    rw [gb_16_99, if_neg (by rw [z_le]; omega), gb_16_106]
    refine ⟨g_in.mpr (by omega), ?_⟩
    rw [en, gb_16_120, m_hasPassed, Option.toList_some, List.singleton_append, gb_16_129]
    have go : ∀ y : Int32, y.toInt = (if gBit (t' 5) q then 1 else 0) → (gq (d + 5) 16 137 [some (.inr (.inr (some (20, 0)))), some (.inr (.inr (some (34, i1)))), some (.inr (.inr (some (21, i2)))), some (.inl (a3)), some (.inl (a4)), some (.inl (a5)), some (.inl (a6))] [.inl (y), .inl ((I 27 0 (n * 8 + q))), .inl ((a5 * 8 + a6)), .inr (.inr (some (27, 0)))] (gwd S I J h) Q) := fun y hy => by
      have hy2 : 0 ≤ y.toInt ∧ y.toInt ≤ 1 := by rw [hy]; split <;> omega
      rw [gb_16_137]
      refine ⟨g_in.mpr (by omega), ?_⟩
      have hnew : (I 27 0 (n * 8 + q) + y).toInt = gPsum C t f (v + 1) (n * 8 + q) := by
        rw [z_add (by omega) (by omega), hold, hy]
        rw [show gPsum C t f (v + 1) (n * 8 + q) = gPsum C t f v (n * 8 + q) + if f v && gBit (gIt C ((n * 8 + q) / 8 + 1) (sUp t 2 v) 5) ((n * 8 + q) % 8) then 1 else 0 from rfl]
        rw [hv, show (n * 8 + q) / 8 = n by omega, show (n * 8 + q) % 8 = q by omega, ← ht', Bool.true_and]
      rw [en, gb_16_139]
      refine m_count_in hto hv hv100 ht' h5 hn m (q + 1) _ _ (by omega) (by rw [z_add (by omega) (by omega), h6, e1]; rfl) (kS_congr hS (fun j => u_ne (by omega)) (fun j => u_ne (by omega))) (fun i h1 h2 h3 => ?_) (fun i h1 h2 h3 => ?_) fun I' a6 hF g1 g2 => K I' a6 (fun k i j hn => by rw [hF _ _ _ hn, u_ne (by omega)]) g1 (fun i hi => by rw [g2 i hi, u_j (by omega)])
      · rw [u_at]
        by_cases e : i = n * 8 + q
        · rw [if_pos e, e]; exact hnew
        · rw [if_neg e]; exact hl i h1 h2 (by omega)
      · rw [u_j (by omega)]; exact hr i h1 h2 (by omega)
    by_cases hz : gBit (t' 5) q = true
    · rw [if_neg (by rw [zb_0]; exact fun e => e (hb.mpr hz)), gb_16_132]
      exact go 1 (by rw [hz]; rfl)
    · rw [if_pos (by rw [zb_0]; exact fun e => hz (hb.mp e)), gb_16_136]
      exact go 0 (by rw [Bool.eq_false_iff.mpr hz]; rfl)
theorem m_count_mid {i1 i2 v : Nat} {C : gCo} {t : gSt} {f : Nat → Bool} {a3 a4 : Int32} {N : Nat} (hc : cOk C) (hto : tOk C t) (hv : f v = true) (hv100 : v < 100) (h3 : a3.toInt = N) (hN : N ≤ 30) (h4 : a4.toInt = v) : ∀ (m n : Nat) (I : Nat → Nat → Nat → Int32) (a5 : Int32) (x6 : Option gV), n + m = N → a5.toInt = n → kCo I i1 C → kS I 2 (gIt C n (sUp t 2 v)) → kFit I f → (∀ i, i < 8 * N → i / 8 < n → (I 27 0 i).toInt = gPsum C t f (v + 1) i) → (∀ i, i < 8 * N → n ≤ i / 8 → (I 27 0 i).toInt = gPsum C t f v i) →
    (∀ (I' : Nat → Nat → Nat → Int32) a5 x6, (∀ k i j, ¬ ((k = 14 ∧ i = i1 ∧ (j = 3 ∨ j = 4 ∨ j = 5 ∨ j = 6)) ∨ (k = 16 ∧ i = i1) ∨ (k = 18 ∧ i = i1) ∨ (k = 21 ∧ i = 2) ∨ (k = 22 ∧ i = 2) ∨ (k = 27 ∧ i = 0)) → I' k i j = I k i j) → (∀ i, i < 8 * N → (I' 27 0 i).toInt = gPsum C t f (v + 1) i) → (gq (d + 5) 16 151 [some (.inr (.inr (some (20, 0)))), some (.inr (.inr (some (34, i1)))), some (.inr (.inr (some (21, i2)))), some (.inl (a3)), some (.inl (a4)), some (.inl (a5)), x6] [] (gwd S I' J h) Q)) → (gq (d + 5) 16 60 [some (.inr (.inr (some (20, 0)))), some (.inr (.inr (some (34, i1)))), some (.inr (.inr (some (21, i2)))), some (.inl (a3)), some (.inl (a4)), some (.inl (a5)), x6] [] (gwd S I J h) Q)
  | 0, n, I, a5, x6, hn, h5, hC, hS, hf, hl, hr, K => by
    have hfv := hf.2 v hv100
    have en : a4.toNatClampNeg = v := by rw [z_n]; omega
    rw [if_pos hv] at hfv
    rw [gb_16_60]
    refine ⟨g_in.mpr (by omega), ?_⟩
    rw [en, gb_16_67, if_neg (fun e => by rw [e] at hfv; exact absurd hfv (by decide)), gb_16_70, if_pos (by rw [z_le]; omega)]
    exact K I _ _ (fun _ _ _ _ => rfl) (fun i hi => hl i hi (by omega))
  | m + 1, n, I, a5, x6, hn, h5, hC, hS, hf, hl, hr, K => by
    have e30 : (30 : Int32).toInt = 30 := rfl
    have e1 : (1 : Int32).toInt = 1 := rfl
    have hfv := hf.2 v hv100
    have en : a4.toNatClampNeg = v := by rw [z_n]; omega
    have hto2 : tOk C (gIt C n (sUp t 2 v)) := tOk_it hc (tOk_up2 hto v (by omega))
    rw [if_pos hv] at hfv
    rw [gb_16_60]
    refine ⟨g_in.mpr (by omega), ?_⟩
    rw [en, gb_16_67, if_neg (fun e => by rw [e] at hfv; exact absurd hfv (by decide)), gb_16_70, if_neg (by rw [z_le]; omega), gb_16_76, if_neg (by rw [z_le]; omega), gb_16_83]
    refine m_runHour hc hC hto2 hS fun I1 x hF1 hS1 _ => ?_
    rw [← gIt_succ] at hS1
    rw [Option.toList_some, List.singleton_append, gb_16_95]
    refine m_count_in (n := n) (v := v) (t := t) (tOk_it (n := n + 1) hc (tOk_up2 hto v (by omega))) hv hv100 rfl h5 (by omega) 8 0 I1 0 rfl rfl hS1 (fun i _ _ h3 => by omega) (fun i h1 h2 _ => by rw [hF1 _ _ _ (by omega)]; exact hr i (by omega) (by omega)) fun I2 a6 hF2 g1 g2 => ?_
    have hF12 : (∀ k i j, ¬ ((k = 14 ∧ i = i1 ∧ (j = 3 ∨ j = 4 ∨ j = 5 ∨ j = 6)) ∨ (k = 16 ∧ i = i1) ∨ (k = 18 ∧ i = i1) ∨ (k = 21 ∧ i = 2) ∨ (k = 22 ∧ i = 2) ∨ (k = 27 ∧ i = 0)) → I2 k i j = I k i j) := fun k i j hn => by rw [hF2 _ _ _ (by omega), hF1 _ _ _ (by omega)]
    rw [gb_16_145]
    refine m_count_mid hc hto hv hv100 h3 hN h4 m (n + 1) I2 _ _ (by omega) (by rw [z_add (by omega) (by omega), h5, e1]; rfl) (kCo_congr hC fun k j hj => hF12 _ _ _ (by omega)) (kS_congr hS1 (fun j => hF2 _ _ _ (by omega)) (fun j => hF2 _ _ _ (by omega))) ⟨by rw [hF12 _ _ _ (by omega)]; exact hf.1, fun u hu => by rw [hF12 _ _ _ (by omega)]; exact hf.2 u hu⟩ (fun i h1 h2 => ?_) (fun i h1 h2 => ?_) fun I3 z5 z6 hF3 g => K I3 z5 z6 (fun k i j hn => by rw [hF3 _ _ _ hn, hF12 _ _ _ hn]) g
    · by_cases e : i / 8 = n
      · exact g1 i (by omega) e
      · rw [g2 i e, hF1 _ _ _ (by omega)]; exact hl i h1 (by omega)
    · rw [g2 i (by omega), hF1 _ _ _ (by omega)]; exact hr i h1 (by omega)
theorem m_count_out {i1 i2 : Nat} {C : gCo} {t : gSt} {f : Nat → Bool} {a3 : Int32} {N : Nat} (hc : cOk C) (hto : tOk C t) (hne : i2 ≠ 2) (h3 : a3.toInt = N) (hN : N ≤ 30) : ∀ (m v : Nat) (I : Nat → Nat → Nat → Int32) (a4 : Int32) (x5 x6 : Option gV), v + m = 100 → a4.toInt = v → kCo I i1 C → kS I i2 t → kFit I f → (∀ i, i < 8 * N → (I 27 0 i).toInt = gPsum C t f v i) →
    (∀ (I' : Nat → Nat → Nat → Int32), (∀ k i j, ¬ ((k = 14 ∧ i = i1 ∧ (j = 3 ∨ j = 4 ∨ j = 5 ∨ j = 6)) ∨ (k = 16 ∧ i = i1) ∨ (k = 18 ∧ i = i1) ∨ (k = 21 ∧ i = 2) ∨ (k = 22 ∧ i = 2) ∨ (k = 27 ∧ i = 0)) → I' k i j = I k i j) → (∀ i, i < 8 * N → (I' 27 0 i).toInt = gPsum C t f 100 i) → Q none (gwd S I' J h)) → (gq (d + 5) 16 30 [some (.inr (.inr (some (20, 0)))), some (.inr (.inr (some (34, i1)))), some (.inr (.inr (some (21, i2)))), some (.inl (a3)), some (.inl (a4)), x5, x6] [] (gwd S I J h) Q)
  | 0, v, I, a4, x5, x6, hn, h4, hC, hS, hf, hp, K => by
    have e100 : (Int32.ofNat 100).toInt = 100 := rfl
    rw [gb_16_30, if_pos (by rw [z_le]; omega), gb_16_157]
    exact K I (fun _ _ _ _ => rfl) (by rw [show v = 100 by omega] at hp; exact hp)
  | m + 1, v, I, a4, x5, x6, hn, h4, hC, hS, hf, hp, K => by
    have e100 : (Int32.ofNat 100).toInt = 100 := rfl
    have e1 : (1 : Int32).toInt = 1 := rfl
    have en : a4.toNatClampNeg = v := by rw [z_n]; omega
    rw [gb_16_30, if_neg (by rw [z_le]; omega), gb_16_40]
    refine m_copy (fun e => hne e.symm) hS fun I1 hF1 hS1 => ?_
    have hF1' : (∀ k i j, ¬ ((k = 14 ∧ i = i1 ∧ (j = 3 ∨ j = 4 ∨ j = 5 ∨ j = 6)) ∨ (k = 16 ∧ i = i1) ∨ (k = 18 ∧ i = i1) ∨ (k = 21 ∧ i = 2) ∨ (k = 22 ∧ i = 2) ∨ (k = 27 ∧ i = 0)) → gup I1 21 2 2 a4 k i j = I k i j) := fun k i j hn => by rw [u_ne (by omega), hF1 _ _ _ (by omega)]
    rw [Option.toList_none, List.nil_append, gb_16_48]
    have hf1 : kFit (gup I1 21 2 2 a4) f := ⟨by rw [hF1' _ _ _ (by omega)]; exact hf.1, fun u hu => by rw [hF1' _ _ _ (by omega)]; exact hf.2 u hu⟩
    have next : ∀ (I2 : Nat → Nat → Nat → Int32) (a5 : Int32) (x6 : Option gV), (∀ k i j, ¬ ((k = 14 ∧ i = i1 ∧ (j = 3 ∨ j = 4 ∨ j = 5 ∨ j = 6)) ∨ (k = 16 ∧ i = i1) ∨ (k = 18 ∧ i = i1) ∨ (k = 21 ∧ i = 2) ∨ (k = 22 ∧ i = 2) ∨ (k = 27 ∧ i = 0)) → I2 k i j = I k i j) → (∀ i, i < 8 * N → (I2 27 0 i).toInt = gPsum C t f (v + 1) i) → (gq (d + 5) 16 151 [some (.inr (.inr (some (20, 0)))), some (.inr (.inr (some (34, i1)))), some (.inr (.inr (some (21, i2)))), some (.inl (a3)), some (.inl (a4)), some (.inl (a5)), x6] [] (gwd S I2 J h) Q) := fun I2 a5 x6 hF2 hp2 => by
      rw [gb_16_151]
      exact m_count_out hc hto hne h3 hN m (v + 1) I2 _ _ _ (by omega) (by rw [z_add (by omega) (by omega), h4, e1]; rfl) (kCo_congr hC fun k j hj => hF2 _ _ _ (by omega)) (kS_congr hS (fun j => hF2 _ _ _ (by omega)) (fun j => hF2 _ _ _ (by omega))) ⟨by rw [hF2 _ _ _ (by omega)]; exact hf.1, fun u hu => by rw [hF2 _ _ _ (by omega)]; exact hf.2 u hu⟩ hp2 fun I3 hF3 g => K I3 (fun k i j hn => by rw [hF3 _ _ _ hn, hF2 _ _ _ hn]) g
    by_cases hv : f v = true
    · refine m_count_mid hc hto hv (by omega) h3 hN h4 N 0 _ _ _ (by omega) rfl (kCo_congr hC fun k j hj => hF1' _ _ _ (by omega)) (kS_up2 hS1 h4) hf1 (fun i _ h2 => by omega) (fun i h1 _ => ?_) fun I2 z5 z6 hF2 g => next I2 _ _ (fun k i j hn => by rw [hF2 _ _ _ hn, hF1' _ _ _ hn]) g
      rw [u_ne (by omega), hF1 _ _ _ (by omega)]; exact hp i h1
    · have hfv := hf1.2 v (by omega)
      rw [if_neg hv] at hfv
      rw [gb_16_60]
      refine ⟨g_in.mpr (by omega), ?_⟩
      rw [en, gb_16_67, if_pos (z_inj hfv)]
      refine next _ _ _ hF1' (fun i hi => ?_)
      rw [u_ne (by omega), hF1 _ _ _ (by omega), hp i hi]
      rw [show gPsum C t f (v + 1) i = gPsum C t f v i + if f v && gBit (gIt C (i / 8 + 1) (sUp t 2 v) 5) (i % 8) then 1 else 0 from rfl, Bool.eq_false_iff.mpr hv]
      simp
theorem m_tell_loop {i1 i2 : Nat} {C : gCo} {P : Nat → Int} {left : Int} {a3 a4 : Int32} {N : Nat} (hc : cOk C) (hC : kCo I i1 C) (h4 : a4.toInt = N) (hN : N ≤ 30) (hl : (I 20 0 8).toInt = left) (hl0 : 0 ≤ left ∧ left ≤ 100) (hP : ∀ i, i < 8 * N → (I 27 0 i).toInt = P i ∧ 0 ≤ P i ∧ P i ≤ 100)
    {r : Int × Int} (K : ∀ a5 a6 a7 x8, a5.toInt = r.1 → a6.toInt = r.2 → (gq (d + 6) 15 121 [some (.inr (.inr (some (20, 0)))), some (.inr (.inr (some (34, i1)))), some (.inr (.inr (some (21, i2)))), some (.inl (a3)), some (.inl (a4)), some (.inl (a5)), some (.inl (a6)), some (.inl (a7)), x8] [] (gwd S I J h) Q)) : ∀ (m i : Nat) (a : Int × Int) (a5 a6 a7 : Int32) (x8 : Option gV), i + m = 8 * N → a7.toInt = i → a5.toInt = a.1 → a6.toInt = a.2 → gTelF P left (C.1 3) m i a = r → (gq (d + 6) 15 37 [some (.inr (.inr (some (20, 0)))), some (.inr (.inr (some (34, i1)))), some (.inr (.inr (some (21, i2)))), some (.inl (a3)), some (.inl (a4)), some (.inl (a5)), some (.inl (a6)), some (.inl (a7)), x8] [] (gwd S I J h) Q)
  | 0, i, a, a5, a6, a7, x8, hn, h7, h5, h6, he => by
    have e8 : (8 : Int32).toInt = 8 := rfl
    have em : (a4 * 8).toInt = N * 8 := by rw [z_mul (by rw [h4, e8]; omega) (by rw [h4, e8]; omega), h4, e8]
    rw [gb_15_37, if_pos (by rw [z_le]; omega)]
    exact K a5 a6 a7 x8 (by rw [h5, ← he]; rfl) (by rw [h6, ← he]; rfl)
  | m + 1, i, a, a5, a6, a7, x8, hn, h7, h5, h6, he => by
    have e8 : (8 : Int32).toInt = 8 := rfl
    have e1 : (1 : Int32).toInt = 1 := rfl
    have e240 : (Int32.ofNat 240).toInt = 240 := rfl
    have em : (a4 * 8).toInt = N * 8 := by rw [z_mul (by rw [h4, e8]; omega) (by rw [h4, e8]; omega), h4, e8]
    have en : a7.toNatClampNeg = i := by rw [z_n]; omega
    have hp := hP i (by omega)
    have c3 := hC.1 3 (by decide)
    have ea : (a7 + 1).toInt = ((i + 1 : Nat) : Int) := by rw [z_add (by omega) (by omega), h7, e1]; rfl
    rw [gb_15_37, if_neg (by rw [z_le]; omega), gb_15_47, if_neg (by rw [z_le]; omega), gb_15_57]
    refine ⟨g_in.mpr (by omega), ?_⟩
    rw [en, gb_15_64]
    refine ⟨g_in.mpr (by omega), ?_⟩
    have es : (I 20 0 8 - I 27 0 i).toInt = left - P i := by rw [z_sub (by omega) (by omega), hl, hp.1]
    have ez : (zmax (I 27 0 i) (I 20 0 8 - I 27 0 i)).toInt = max (P i) (left - P i) := by rw [zmax_i, es, hp.1]
    have erem : (a7 - a7 / 8 * 8).toInt = ((i % 8 : Nat) : Int) := by rw [z_rem (by omega) (by omega), h7, e8]; omega
    rw [en, gb_15_75, m_max, Option.toList_some, List.singleton_append, gb_15_79]
    rw [show gTelF P left (C.1 3) (m + 1) i a = gTelF P left (C.1 3) m (i + 1) (if 0 < left ∧ ((i % 8 : Nat) : Int) < C.1 3 ∧ max (P i) (left - P i) < a.1 then (max (P i) (left - P i), (i : Int)) else a) from rfl] at he
    have skip : ∀ a8 : Int32, ¬ (0 < left ∧ ((i % 8 : Nat) : Int) < C.1 3 ∧ max (P i) (left - P i) < a.1) → (gq (d + 6) 15 115 [some (.inr (.inr (some (20, 0)))), some (.inr (.inr (some (34, i1)))), some (.inr (.inr (some (21, i2)))), some (.inl (a3)), some (.inl (a4)), some (.inl (a5)), some (.inl (a6)), some (.inl (a7)), some (.inl (a8))] [] (gwd S I J h) Q) := fun a8 hno => by
      rw [gb_15_115]
      rw [if_neg hno] at he
      exact m_tell_loop hc hC h4 hN hl hl0 hP K m (i + 1) a _ _ _ _ (by omega) ea h5 h6 he
    by_cases w1 : 0 < left
    case neg =>
      rw [if_pos (by rw [z_le, z_0]; omega)]
      exact skip _ (fun e => w1 e.1)
    rw [if_neg (by rw [z_le, z_0]; omega), gb_15_88, m_hasHouse, Option.toList_some, List.singleton_append, gb_15_97]
    by_cases w2 : ((i % 8 : Nat) : Int) < C.1 3
    case neg =>
      rw [if_pos (by rw [zb_0, erem, c3]; omega)]
      exact skip _ (fun e => w2 e.2.1)
    rw [if_neg (by rw [zb_0, erem, c3]; exact fun e => e (by omega)), gb_15_100]
    by_cases w3 : max (P i) (left - P i) < a.1
    · rw [if_neg (by rw [z_le]; omega), gb_15_107, gb_15_115]
      rw [if_pos ⟨w1, w2, w3⟩] at he
      exact m_tell_loop hc hC h4 hN hl hl0 hP K m (i + 1) _ _ _ _ _ (by omega) ea ez h7 he
    · rw [if_pos (by rw [z_le]; omega)]
      exact skip _ (fun e => w3 e.2.2)
theorem gTelF_r {P : Nat → Int} {left houses : Int} : ∀ {m i : Nat} {a : Int × Int}, -1 ≤ a.2 → a.2 < i → -1 ≤ (gTelF P left houses m i a).2 ∧ (gTelF P left houses m i a).2 < ((i + m : Nat) : Int)
  | 0, i, a, h1, h2 => ⟨h1, by show a.2 < ((i + 0 : Nat) : Int); omega⟩
  | m + 1, i, a, h1, h2 => by
    unfold gTelF
    have := @gTelF_r P left houses m (i + 1) (if 0 < left ∧ ((i % 8 : Nat) : Int) < houses ∧ max (P i) (left - P i) < a.1 then (max (P i) (left - P i), (i : Int)) else a) (by split <;> first | exact h1 | (show -1 ≤ (i : Int); omega)) (by split <;> first | (show (i : Int) < ((i + 1 : Nat) : Int); omega) | (show a.2 < ((i + 1 : Nat) : Int); omega))
    omega
theorem m_mostTelling {i1 i2 : Nat} {a3 : Int32} {x4 x5 x6 x7 x8 : Option gV} {C : gCo} {t : gSt} {f : Nat → Bool} (hc : cOk C) (hC : kCo I i1 C) (hto : tOk C t) (h9 : t 0 ≤ 999) (hS : kS I i2 t) (hf : kFit I f) (hne : i2 ≠ 2)
    (K : ∀ (I' : Nat → Nat → Nat → Int32) x, (∀ k i j, ¬ ((k = 14 ∧ i = i1 ∧ (j = 3 ∨ j = 4 ∨ j = 5 ∨ j = 6)) ∨ (k = 16 ∧ i = i1) ∨ (k = 18 ∧ i = i1) ∨ (k = 21 ∧ i = 2) ∨ (k = 22 ∧ i = 2) ∨ (k = 27 ∧ i = 0)) → I' k i j = I k i j) → x.toInt = (if (gTell C t f).2 = -1 then -1 else if a3.toInt = 0 then (gTell C t f).2 / 8 + 1 else if a3.toInt = 1 then (gTell C t f).2 % 8 else (gTell C t f).1) → Q (some (.inl x)) (gwd S I' J h)) : (gq (d + 6) 15 0 [some (.inr (.inr (some (20, 0)))), some (.inr (.inr (some (34, i1)))), some (.inr (.inr (some (21, i2)))), some (.inl (a3)), x4, x5, x6, x7, x8] [] (gwd S I J h) Q) := by
  have e30 : (30 : Int32).toInt = 30 := rfl
  have e999 : (999 : Int32).toInt = 999 := rfl
  have e8 : (8 : Int32).toInt = 8 := rfl
  have e1 : (1 : Int32).toInt = 1 := rfl
  have r0 := hto.1
  have s0 := hS.1 0 (by decide)
  have hl := @gLeft_r f 100 0 0
  have eN : (zmin 30 (999 - I 21 i2 0)).toInt = ((min 30 (999 - t 0)).toNat : Int) := by rw [zmin_i, z_sub (by omega) (by omega), e30, e999, s0]; omega
  rw [gb_15_0, m_min, Option.toList_some, List.singleton_append, gb_15_13, gb_16_0]
  refine m_zero_loop 240 0 I _ rfl rfl (fun u hu => by omega) fun I1 a4 hF1 hz => ?_
  rw [gb_16_27]
  refine m_count_out hc hto hne eN (by omega) 100 0 I1 _ _ _ rfl rfl (kCo_congr hC fun k j hj => hF1 _ _ _ (by omega)) (kS_congr hS (fun j => hF1 _ _ _ (by omega)) (fun j => hF1 _ _ _ (by omega))) ⟨by rw [hF1 _ _ _ (by omega)]; exact hf.1, fun u hu => by rw [hF1 _ _ _ (by omega)]; exact hf.2 u hu⟩ (fun i hi => hz i (by omega)) fun I2 hF2 hp => ?_
  have hF : (∀ k i j, ¬ ((k = 14 ∧ i = i1 ∧ (j = 3 ∨ j = 4 ∨ j = 5 ∨ j = 6)) ∨ (k = 16 ∧ i = i1) ∨ (k = 18 ∧ i = i1) ∨ (k = 21 ∧ i = 2) ∨ (k = 22 ∧ i = 2) ∨ (k = 27 ∧ i = 0)) → I2 k i j = I k i j) := fun k i j hn => by rw [hF2 _ _ _ hn, hF1 _ _ _ (by omega)]
  have f8 : (I2 20 0 8).toInt = gLeft f 100 0 0 := by rw [hF _ _ _ (by omega)]; exact hf.1
  rw [Option.toList_none, List.nil_append, gb_15_23, gb_15_32]
  refine m_tell_loop (P := gPsum C t f 100) (left := gLeft f 100 0 0) (N := (min 30 (999 - t 0)).toNat) (r := gTell C t f) hc (kCo_congr hC fun k j hj => hF _ _ _ (by omega)) eN (by omega) f8 (by omega) (fun i hi => ⟨hp i hi, gPsum_r⟩) (fun a5 a6 a7 x8 g5 g6 => ?_) (8 * (min 30 (999 - t 0)).toNat) 0 (gLeft f 100 0 0 + 1, -1) _ _ _ _ (by omega) rfl (by rw [z_add (by omega) (by omega), f8, e1]) z_m1 rfl
  have hr : -1 ≤ (gTell C t f).2 ∧ (gTell C t f).2 < ((0 + 8 * (min 30 (999 - t 0)).toNat : Nat) : Int) := gTelF_r (show (-1 : Int) ≤ -1 by decide) (show (-1 : Int) < ((0 : Nat) : Int) by decide)
  rw [gb_15_121, gb_15_124]
  by_cases hz : (gTell C t f).2 = -1
  · rw [if_pos (z_inj (by rw [g6, hz, z_m1])), gb_15_127, gb_15_128]
    exact K I2 _ hF (by rw [if_pos hz]; rfl)
  · rw [if_neg (fun e => hz (by rw [← g6, e, z_m1])), gb_15_129]
    by_cases e0 : a3.toInt = 0
    · rw [if_pos (z_inj e0), gb_15_133, gb_15_158]
      refine K I2 _ hF ?_
      have ed : (a6 / 8).toInt = (gTell C t f).2 / 8 := by rw [z_div (by omega) (by omega), g6, e8]
      rw [if_neg hz, if_pos e0, z_add (by omega) (by omega), ed, e1]
    · rw [if_neg (fun e => e0 (by rw [e]; rfl)), gb_15_143]
      by_cases e1' : a3.toInt = 1
      · rw [if_pos (z_inj e1'), gb_15_148, gb_15_158]
        exact K I2 _ hF (by rw [if_neg hz, if_neg e0, if_pos e1', z_rem (by omega) (by omega), g6, e8])
      · rw [if_neg (fun e => e1' (by rw [e]; rfl)), gb_15_156, gb_15_158]
        exact K I2 _ hF (by rw [if_neg hz, if_neg e0, if_neg e1']; exact g5)
