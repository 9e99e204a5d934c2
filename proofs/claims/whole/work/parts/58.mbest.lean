/-! The model: post, change, odds. -/
variable {d S : Nat} {h : Nat × Option gNm} {I : Nat → Nat → Nat → Int32} {J : Nat → Nat → Nat → Int64} {Q : Option gV → gW → Prop}
theorem n_post_loop {I0 : Nat → Nat → Nat → Int32} {b : Nat} {a1 a2 : Int32} {C : gCo} {t : gSt} (hc : cOk C) (hC0 : mCo I0 C) (hto : tOk C t) (h9 : t 0 ≤ 999) (hS0 : mS I0 C t) (h1 : a1.toInt = b) (hb : (b : Int) < C.1 2) : ∀ (n : Nat) (m : Int) (a : Int × Int) (I : Nat → Nat → Nat → Int32) (J : Nat → Nat → Nat → Int64) (a3 a4 a5 : Int32) (x6 : Option gV), m + n = C.1 1 + 1 → 0 ≤ m → a5.toInt = m → a4.toInt = a.1 → a3.toInt = a.2 → 0 ≤ a.1 → mTr I0 I → (∀ j, I 61 0 j = I0 61 0 j) →
    (∀ I' (J' : Nat → Nat → Nat → Int64) a3 a4 a5 x6, mTr I0 I' → FJ J J' → a4.toInt = (gBestF (fun m => gStr C (sUp t (10 + b) m)) n m a).1 → a3.toInt = (gBestF (fun m => gStr C (sUp t (10 + b) m)) n m a).2 → (gq (d + 10) 225 93 [some (.inr (.inr (some (50, 0)))), some (.inl (a1)), some (.inl (a2)), some (.inl (a3)), some (.inl (a4)), some (.inl (a5)), x6] [] (gwd S I' J' h) Q)) → (gq (d + 10) 225 43 [some (.inr (.inr (some (50, 0)))), some (.inl (a1)), some (.inl (a2)), some (.inl (a3)), some (.inl (a4)), some (.inl (a5)), x6] [] (gwd S I J h) Q)
  | 0, m, a, I, J, a3, a4, a5, x6, hn, hm, h5, h4, h3, h0, ht, hr, K => by
    have c1 := hC0.1.1
    have f5 : I 54 0 5 = I0 54 0 5 := ht.1 _ _ _ (by omega)
    rw [gb_225_43, n_miles, Option.toList_some, List.singleton_append, gb_225_49, if_pos (by rw [z_lt, f5]; omega)]
    exact K I J _ _ _ _ ht FJ_refl h4 h3
  | n + 1, m, a, I, J, a3, a4, a5, x6, hn, hm, h5, h4, h3, h0, ht, hr, K => by
    have e1 : (1 : Int32).toInt = 1 := rfl
    have e2 : (2 : Int32).toInt = 2 := rfl
    have e4 : (4 : Int32).toInt = 4 := rfl
    have c1 := hC0.1.1
    have rB := hc.2.2.1
    have rM := hc.2.1
    have f5 : I 54 0 5 = I0 54 0 5 := ht.1 _ _ _ (by omega)
    have q0 : (2 * a1).toInt = 2 * b := by rw [z_mul (by rw [h1, e2]; omega) (by rw [h1, e2]; omega), h1, e2]
    have q1 : (4 + 2 * a1).toInt = 4 + 2 * b := by rw [z_add (by omega) (by omega), q0, e4]
    have n1 : (4 + 2 * a1).toNatClampNeg = 4 + 2 * b := by rw [z_n, q1]; omega
    have ea : (a5 + 1).toInt = m + 1 := by rw [z_add (by omega) (by omega), h5, e1]
    rw [gb_225_43, n_miles, Option.toList_some, List.singleton_append, gb_225_49, if_neg (by rw [z_lt, f5]; omega), gb_225_52]
    refine ⟨g_in.mpr (by omega), ?_⟩
    rw [n1, gb_225_64]
    have ht1 : mTr I0 (gup I 61 0 (4 + 2 * b) a5) := mTr_61 ht fun k i j hn => u_ne (by omega)
    have hto1 : tOk C (sUp t (10 + b) m) := tOk_upm hto b m (by omega)
    have hstr := gStr_r hc hto1
    refine n_strongTr hc hC0 ht1 hto1 (by rw [sUp_ne (by omega)]; exact h9) (mS_upm hc hb (mS_congr hc hS0 fun j _ => hr j) h5) fun I2 J2 x ht2 hFJ2 hr2 hx => ?_
    rw [Option.toList_some, List.singleton_append, gb_225_68]
    rw [show gBestF (fun m => gStr C (sUp t (10 + b) m)) (n + 1) m a = gBestF (fun m => gStr C (sUp t (10 + b) m)) n (m + 1) (if a.1 < gStr C (sUp t (10 + b) m) then (gStr C (sUp t (10 + b) m), m) else a) from rfl] at K
    by_cases w : a.1 < gStr C (sUp t (10 + b) m)
    · rw [if_pos (by rw [z_lt]; omega), gb_225_80, gb_225_87]
      rw [if_pos w] at K
      exact n_post_loop hc hC0 hto h9 hS0 h1 hb n (m + 1) (gStr C (sUp t (10 + b) m), m) I2 J2 _ _ _ _ (by omega) (by omega) ea hx h5 (by show 0 ≤ gStr C (sUp t (10 + b) m); omega) ht2 hr2 fun I3 J3 z3 z4 z5 z6 ht3 hFJ3 g4 g3 => K I3 J3 z3 z4 z5 z6 ht3 (FJ_trans hFJ2 hFJ3) g4 g3
    · rw [if_neg (by rw [z_lt]; omega), gb_225_77, gb_225_87]
      rw [if_neg w] at K
      exact n_post_loop hc hC0 hto h9 hS0 h1 hb n (m + 1) a I2 J2 _ _ _ _ (by omega) (by omega) ea h4 h3 h0 ht2 hr2 fun I3 J3 z3 z4 z5 z6 ht3 hFJ3 g4 g3 => K I3 J3 z3 z4 z5 z6 ht3 (FJ_trans hFJ2 hFJ3) g4 g3
theorem n_post {a1 a2 : Int32} {x3 x4 x5 x6 : Option gV} {C : gCo} {t : gSt} (hc : cOk C) (hC : mCo I C) (hto : tOk C t) (h9 : t 0 ≤ 999) (hS : mS I C t) (h62 : I 50 0 62 = 0)
    (K : ∀ I' (J' : Nat → Nat → Nat → Int64) x, FA I I' → FJ J J' → x.toInt = (if (0 ≤ a1.toInt ∧ a1.toInt < C.1 2) ∧ a1.toInt ≠ t 3 ∧ 0 ≤ a2.toInt ∧ a2.toInt ≤ 1 then (if (gPost C t a1.toInt.toNat).2 = -1 ∨ a2.toInt = 0 then (gPost C t a1.toInt.toNat).2 else (gPost C t a1.toInt.toNat).1) else -1) → Q (some (.inl x)) (gwd S I' J' h)) : (gq (d + 10) 225 0 [some (.inr (.inr (some (50, 0)))), some (.inl (a1)), some (.inl (a2)), x3, x4, x5, x6] [] (gwd S I J h) Q) := by
  have yo : (1 : Int64).toInt = 1 := rfl
  have rB := hc.2.2.1
  have rM := hc.2.1
  have c2 := hC.1.2.1
  obtain ⟨s0, s1, s2, s3⟩ := hS.1
  have no : ¬ ((0 ≤ a1.toInt ∧ a1.toInt < C.1 2) ∧ a1.toInt ≠ t 3 ∧ 0 ≤ a2.toInt ∧ a2.toInt ≤ 1) → (gq (d + 10) 225 29 [some (.inr (.inr (some (50, 0)))), some (.inl (a1)), some (.inl (a2)), x3, x4, x5, x6] [] (gwd S I J h) Q) := fun hno => by
    rw [gb_225_29, gb_225_30]
    exact K I J _ (fun _ _ _ _ => rfl) FJ_refl (by rw [if_neg hno]; rfl)
  rw [gb_225_0, n_isBearer (by omega), Option.toList_some, List.singleton_append, gb_225_6, z_64, c2]
  by_cases w1 : 0 ≤ a1.toInt ∧ a1.toInt < C.1 2
  case neg => rw [if_pos (zb_neg w1)]; exact no (fun e => w1 e.1)
  rw [if_neg (by rw [zb_pos w1]; decide), gb_225_9]
  refine ⟨rfl, ?_⟩
  rw [show (3 : Int32).toNatClampNeg = 3 from rfl, gb_225_16]
  by_cases w2 : a1.toInt ≠ t 3
  case neg => rw [if_pos (z_inj (by omega))]; exact no (fun e => w2 e.2.1)
  rw [if_neg (by rw [z_eq]; omega), gb_225_19, n_isIn, Option.toList_some, List.singleton_append, gb_225_26, z_64, yi_0, yo]
  by_cases w3 : 0 ≤ a2.toInt ∧ a2.toInt ≤ 1
  case neg => rw [if_pos (zb_neg w3)]; exact no (fun e => w3 e.2.2)
  rw [if_neg (by rw [zb_pos w3]; decide), gb_225_31, gb_225_32]
  refine n_putsTr fun I1 ht1 g1 => ?_
  rw [Option.toList_none, List.nil_append, gb_225_40]
  rw [if_pos ⟨w1, w2, w3⟩] at K
  refine n_post_loop (b := a1.toInt.toNat) hc hC hto h9 hS (by omega) (by omega) (C.1 1 + 1).toNat 0 (0, -1) I1 J _ _ _ _ (by omega) (by omega) rfl rfl z_m1 (by decide) ht1 g1 fun I2 J2 z3 z4 z5 z6 ht2 hFJ2 g4 g3 => ?_
  have g4' : z4.toInt = (gPost C t a1.toInt.toNat).1 := g4
  have g3' : z3.toInt = (gPost C t a1.toInt.toNat).2 := g3
  rw [gb_225_93]
  refine n_backTr ht2 h62 fun I3 hA => ?_
  rw [Option.toList_none, List.nil_append, gb_225_97, gb_225_99]
  by_cases hz : (gPost C t a1.toInt.toNat).2 = -1
  · rw [if_pos (z_inj (by rw [g3', hz, z_m1])), gb_225_102, gb_225_103, gb_225_116]
    exact K I3 J2 _ hA hFJ2 (by rw [if_pos (Or.inl hz), hz]; rfl)
  · rw [if_neg (fun e => hz (by rw [← g3', e, z_m1])), gb_225_106]
    by_cases w4 : a2.toInt = 0
    · rw [if_pos (z_inj w4), gb_225_110, gb_225_116]
      exact K I3 J2 _ hA hFJ2 (by rw [if_pos (Or.inr w4)]; exact g3')
    · rw [if_neg (fun e => w4 (by rw [e]; rfl)), gb_225_114, gb_225_116]
      exact K I3 J2 _ hA hFJ2 (by rw [if_neg (fun e => e.elim hz w4)]; exact g4')
theorem n_change_in {I0 : Nat → Nat → Nat → Int32} {i : Nat} {a1 a5 : Int32} {C : gCo} {t : gSt} (hc : cOk C) (hC0 : mCo I0 C) (hto : tOk C t) (h9 : t 0 ≤ 999) (hS0 : mS I0 C t) (h5 : a5.toInt = i) : ∀ (n j : Nat) (a : Int × Int × Int) (I : Nat → Nat → Nat → Int32) (J : Nat → Nat → Nat → Int64) (a2 a3 a4 a6 : Int32) (x7 : Option gV), (j : Int) + n = C.1 2 → i < j → a6.toInt = j → a4.toInt = a.1 → a2.toInt = a.2.1 → a3.toInt = a.2.2 → 0 ≤ a.1 → mTr I0 I → (∀ j, I 61 0 j = I0 61 0 j) →
    (∀ I' (J' : Nat → Nat → Nat → Int64) a2 a3 a4 a6 x7, mTr I0 I' → FJ J J' → (∀ j, I' 61 0 j = I0 61 0 j) → a4.toInt = (gChI C t i n j a).1 → a2.toInt = (gChI C t i n j a).2.1 → a3.toInt = (gChI C t i n j a).2.2 → 0 ≤ (gChI C t i n j a).1 → (gq (d + 10) 226 163 [some (.inr (.inr (some (50, 0)))), some (.inl (a1)), some (.inl (a2)), some (.inl (a3)), some (.inl (a4)), some (.inl (a5)), some (.inl (a6)), x7] [] (gwd S I' J' h) Q)) → (gq (d + 10) 226 53 [some (.inr (.inr (some (50, 0)))), some (.inl (a1)), some (.inl (a2)), some (.inl (a3)), some (.inl (a4)), some (.inl (a5)), some (.inl (a6)), x7] [] (gwd S I J h) Q)
  | 0, j, a, I, J, a2, a3, a4, a6, x7, hn, hij, h6, h4, h2, h3, h0, ht, hr, K => by
    have c2 := hC0.1.2.1
    have f6 : I 54 0 6 = I0 54 0 6 := ht.1 _ _ _ (by omega)
    rw [gb_226_53, n_bearers, Option.toList_some, List.singleton_append, gb_226_59, if_pos (by rw [z_le, f6]; omega)]
    exact K I J _ _ _ _ _ ht FJ_refl hr h4 h2 h3 h0
  | n + 1, j, a, I, J, a2, a3, a4, a6, x7, hn, hij, h6, h4, h2, h3, h0, ht, hr, K => by
    have e1 : (1 : Int32).toInt = 1 := rfl
    have e2 : (2 : Int32).toInt = 2 := rfl
    have e4 : (4 : Int32).toInt = 4 := rfl
    have c2 := hC0.1.2.1
    have rB := hc.2.2.1
    have f6 : I 54 0 6 = I0 54 0 6 := ht.1 _ _ _ (by omega)
    have ea : (a6 + 1).toInt = ((j + 1 : Nat) : Int) := by rw [z_add (by omega) (by omega), h6, e1]; rfl
    obtain ⟨s0, s1, s2, s3⟩ := hS0.1
    have q5 : (2 * a5).toInt = 2 * i := by rw [z_mul (by rw [h5, e2]; omega) (by rw [h5, e2]; omega), h5, e2]
    have p5 : (4 + 2 * a5).toInt = 4 + 2 * i := by rw [z_add (by omega) (by omega), q5, e4]
    have n5 : (4 + 2 * a5).toNatClampNeg = 4 + 2 * i := by rw [z_n, p5]; omega
    have q6 : (2 * a6).toInt = 2 * j := by rw [z_mul (by rw [h6, e2]; omega) (by rw [h6, e2]; omega), h6, e2]
    have p6 : (4 + 2 * a6).toInt = 4 + 2 * j := by rw [z_add (by omega) (by omega), q6, e4]
    have n6 : (4 + 2 * a6).toNatClampNeg = 4 + 2 * j := by rw [z_n, p6]; omega
    rw [show gChI C t i (n + 1) j a = gChI C t i n (j + 1) (if t 3 ≠ i ∧ t 3 ≠ j ∧ a.1 < gStr C (sSwap t i j) then (gStr C (sSwap t i j), (i : Int), (j : Int)) else a) from rfl] at K
    have next : ∀ (a' : Int × Int × Int) (I1 : Nat → Nat → Nat → Int32) (J1 : Nat → Nat → Nat → Int64) (a2 a3 a4 : Int32) (x7 : Option gV), a' = (if t 3 ≠ i ∧ t 3 ≠ j ∧ a.1 < gStr C (sSwap t i j) then (gStr C (sSwap t i j), (i : Int), (j : Int)) else a) → FJ J J1 → a4.toInt = a'.1 → a2.toInt = a'.2.1 → a3.toInt = a'.2.2 → 0 ≤ a'.1 → mTr I0 I1 → (∀ j, I1 61 0 j = I0 61 0 j) → (gq (d + 10) 226 157 [some (.inr (.inr (some (50, 0)))), some (.inl (a1)), some (.inl (a2)), some (.inl (a3)), some (.inl (a4)), some (.inl (a5)), some (.inl (a6)), x7] [] (gwd S I1 J1 h) Q) := fun a' I1 J1 a2 a3 a4 x7 ha' hFJ h4 h2 h3 h0 ht1 hr1 => by
      rw [gb_226_157]
      rw [← ha'] at K
      exact n_change_in hc hC0 hto h9 hS0 h5 n (j + 1) a' I1 J1 _ _ _ _ _ (by omega) (by omega) ea h4 h2 h3 h0 ht1 hr1 fun I2 J2 z2 z3 z4 z6 z7 ht2 hFJ2 hr2 g4 g2 g3 g0 => K I2 J2 z2 z3 z4 z6 z7 ht2 (FJ_trans hFJ hFJ2) hr2 g4 g2 g3 g0
    rw [gb_226_53, n_bearers, Option.toList_some, List.singleton_append, gb_226_59, if_neg (by rw [z_le, f6]; omega), gb_226_62]
    refine ⟨rfl, ?_⟩
    rw [show (3 : Int32).toNatClampNeg = 3 from rfl, gb_226_70, hr 3]
    by_cases hx1 : t 3 = i
    · rw [if_pos (z_inj (by rw [h5, s3, hx1]))]
      exact next a I J _ _ _ _ (by rw [if_neg (fun e => e.1 hx1)]) FJ_refl h4 h2 h3 h0 ht hr
    rw [if_neg (fun e => hx1 (by rw [← s3, ← e, h5])), gb_226_73]
    refine ⟨rfl, ?_⟩
    rw [show (3 : Int32).toNatClampNeg = 3 from rfl, gb_226_81, hr 3]
    by_cases hx2 : t 3 = j
    · rw [if_pos (z_inj (by rw [h6, s3, hx2])), gb_226_84]
      exact next a I J _ _ _ _ (by rw [if_neg (fun e => e.2.1 hx2)]) FJ_refl h4 h2 h3 h0 ht hr
    rw [if_neg (fun e => hx2 (by rw [← s3, ← e, h6])), gb_226_87]
    refine ⟨g_in.mpr (by omega), ?_⟩
    rw [n6, gb_226_108]
    refine ⟨g_in.mpr (by omega), ?_⟩
    rw [n5, gb_226_109]
    refine ⟨g_in.mpr (by omega), ?_⟩
    rw [n5, gb_226_130]
    refine ⟨g_in.mpr (by omega), ?_⟩
    rw [n6, gb_226_131, u_k (show (62 : Nat) ≠ 61 by decide), ht.2.1 (4 + 2 * j) (by omega), ht.2.1 (4 + 2 * i) (by omega)]
    have ht1 : mTr I0 (gup (gup I 61 0 (4 + 2 * i) (I0 61 0 (4 + 2 * j))) 61 0 (4 + 2 * j) (I0 61 0 (4 + 2 * i))) := mTr_61 ht fun k i j hn => by rw [u_ne (by omega), u_ne (by omega)]
    have hto1 : tOk C (sSwap t i j) := tOk_swap hto (by omega) (by omega)
    have hstr := gStr_r hc hto1
    have hS1 : mS (gup (gup I 61 0 (4 + 2 * i) (I0 61 0 (4 + 2 * j))) 61 0 (4 + 2 * j) (I0 61 0 (4 + 2 * i))) C (sSwap t i j) := mS_upm hc (by omega) (mS_upm hc (by omega) (mS_congr hc hS0 fun j _ => hr j) (hS0.2.1 j (by omega)).1) (hS0.2.1 i (by omega)).1
    refine n_strongTr hc hC0 ht1 hto1 (by rw [sSwap_0 (by omega)]; exact h9) hS1 fun I2 J2 x ht2 hFJ2 hr2 hx => ?_
    rw [Option.toList_some, List.singleton_append, gb_226_135]
    by_cases hb2 : a.1 < gStr C (sSwap t i j)
    · rw [if_pos (by rw [z_lt]; omega), gb_226_147]
      exact next (gStr C (sSwap t i j), i, j) I2 J2 _ _ _ _ (by rw [if_pos ⟨hx1, hx2, hb2⟩]) hFJ2 hx h5 h6 hstr.1 ht2 hr2
    · rw [if_neg (by rw [z_lt]; omega), gb_226_144]
      exact next a I2 J2 _ _ _ _ (by rw [if_neg (fun e => hb2 e.2.2)]) hFJ2 h4 h2 h3 h0 ht2 hr2
theorem n_change_out {I0 : Nat → Nat → Nat → Int32} {a1 : Int32} {C : gCo} {t : gSt} (hc : cOk C) (hC0 : mCo I0 C) (hto : tOk C t) (h9 : t 0 ≤ 999) (hS0 : mS I0 C t) : ∀ (n i : Nat) (a : Int × Int × Int) (I : Nat → Nat → Nat → Int32) (J : Nat → Nat → Nat → Int64) (a2 a3 a4 a5 : Int32) (x6 x7 : Option gV), (i : Int) + n = C.1 2 → a5.toInt = i → a4.toInt = a.1 → a2.toInt = a.2.1 → a3.toInt = a.2.2 → 0 ≤ a.1 → mTr I0 I → (∀ j, I 61 0 j = I0 61 0 j) →
    (∀ I' (J' : Nat → Nat → Nat → Int64) a2 a3 a4 a5 x6 x7, mTr I0 I' → FJ J J' → a4.toInt = (gChO C t n i a).1 → a2.toInt = (gChO C t n i a).2.1 → a3.toInt = (gChO C t n i a).2.2 → (gq (d + 10) 226 169 [some (.inr (.inr (some (50, 0)))), some (.inl (a1)), some (.inl (a2)), some (.inl (a3)), some (.inl (a4)), some (.inl (a5)), x6, x7] [] (gwd S I' J' h) Q)) → (gq (d + 10) 226 38 [some (.inr (.inr (some (50, 0)))), some (.inl (a1)), some (.inl (a2)), some (.inl (a3)), some (.inl (a4)), some (.inl (a5)), x6, x7] [] (gwd S I J h) Q)
  | 0, i, a, I, J, a2, a3, a4, a5, x6, x7, hn, h5, h4, h2, h3, h0, ht, hr, K => by
    have c2 := hC0.1.2.1
    have f6 : I 54 0 6 = I0 54 0 6 := ht.1 _ _ _ (by omega)
    rw [gb_226_38, n_bearers, Option.toList_some, List.singleton_append, gb_226_44, if_pos (by rw [z_le, f6]; omega)]
    exact K I J _ _ _ _ _ _ ht FJ_refl h4 h2 h3
  | n + 1, i, a, I, J, a2, a3, a4, a5, x6, x7, hn, h5, h4, h2, h3, h0, ht, hr, K => by
    have e1 : (1 : Int32).toInt = 1 := rfl
    have c2 := hC0.1.2.1
    have rB := hc.2.2.1
    have f6 : I 54 0 6 = I0 54 0 6 := ht.1 _ _ _ (by omega)
    have ea : (a5 + 1).toInt = ((i + 1 : Nat) : Int) := by rw [z_add (by omega) (by omega), h5, e1]; rfl
    rw [gb_226_38, n_bearers, Option.toList_some, List.singleton_append, gb_226_44, if_neg (by rw [z_le, f6]; omega), gb_226_47]
    rw [show gChO C t (n + 1) i a = gChO C t n (i + 1) (gChI C t i n (i + 1) a) from rfl] at K
    refine n_change_in hc hC0 hto h9 hS0 h5 n (i + 1) a I J _ _ _ _ _ (by omega) (by omega) ea h4 h2 h3 h0 ht hr fun I1 J1 z2 z3 z4 z6 z7 ht1 hFJ1 hr1 g4 g2 g3 g0 => ?_
    rw [gb_226_163]
    exact n_change_out hc hC0 hto h9 hS0 n (i + 1) _ I1 J1 _ _ _ _ _ _ (by omega) ea g4 g2 g3 g0 ht1 hr1 fun I2 J2 y2 y3 y4 y5 y6 y7 ht2 hFJ2 q4 q2 q3 => K I2 J2 y2 y3 y4 y5 y6 y7 ht2 (FJ_trans hFJ1 hFJ2) q4 q2 q3
theorem n_change {a1 : Int32} {x2 x3 x4 x5 x6 x7 : Option gV} {C : gCo} {t : gSt} (hc : cOk C) (hC : mCo I C) (hto : tOk C t) (h9 : t 0 ≤ 999) (hS : mS I C t) (h62 : I 50 0 62 = 0)
    (K : ∀ I' (J' : Nat → Nat → Nat → Int64) x, FA I I' → FJ J J' → x.toInt = (if 0 ≤ a1.toInt ∧ a1.toInt ≤ 2 then (if a1.toInt = 0 then (gChange C t).2.1 else if a1.toInt = 1 then (gChange C t).2.2 else (gChange C t).1) else -1) → Q (some (.inl x)) (gwd S I' J' h)) : (gq (d + 10) 226 0 [some (.inr (.inr (some (50, 0)))), some (.inl (a1)), x2, x3, x4, x5, x6, x7] [] (gwd S I J h) Q) := by
  have y2 : (2 : Int64).toInt = 2 := rfl
  have rB := hc.2.2.1
  rw [gb_226_0, if_neg hC.2.2.2.2, gb_226_7, n_isIn, Option.toList_some, List.singleton_append, gb_226_16, z_64, yi_0, y2]
  by_cases w : 0 ≤ a1.toInt ∧ a1.toInt ≤ 2
  case neg =>
    rw [if_pos (zb_neg w), gb_226_19, gb_226_20]
    exact K I J _ (fun _ _ _ _ => rfl) FJ_refl (by rw [if_neg w]; rfl)
  rw [if_neg (by rw [zb_pos w]; decide), gb_226_21, gb_226_22, gb_226_24]
  rw [if_pos w] at K
  refine n_putsTr fun I1 ht1 g1 => ?_
  rw [Option.toList_none, List.nil_append, gb_226_29]
  have hstr := gStr_r hc hto
  refine n_strongTr hc hC ht1 hto h9 (mS_congr hc hS fun j _ => g1 j) fun I2 J2 x ht2 hFJ2 hr2 hx => ?_
  rw [Option.toList_some, List.singleton_append, gb_226_33]
  refine n_change_out hc hC hto h9 hS (C.1 2).toNat 0 (gStr C t, -1, -1) I2 J2 _ _ _ _ _ _ (by omega) rfl hx z_m1 z_m1 hstr.1 ht2 hr2 fun I3 J3 z2 z3 z4 z5 z6 z7 ht3 hFJ3 g4 g2 g3 => ?_
  have g4' : z4.toInt = (gChange C t).1 := g4
  have g2' : z2.toInt = (gChange C t).2.1 := g2
  have g3' : z3.toInt = (gChange C t).2.2 := g3
  rw [gb_226_169]
  refine n_backTr ht3 h62 fun I4 hA => ?_
  rw [Option.toList_none, List.nil_append, gb_226_173]
  by_cases w0 : a1.toInt = 0
  · rw [if_pos (z_inj w0), gb_226_177, gb_226_192]
    exact K I4 J3 _ hA (FJ_trans hFJ2 hFJ3) (by rw [if_pos w0]; exact g2')
  · rw [if_neg (fun e => w0 (by rw [e]; rfl)), gb_226_181]
    by_cases w1 : a1.toInt = 1
    · rw [if_pos (z_inj w1), gb_226_186, gb_226_192]
      exact K I4 J3 _ hA (FJ_trans hFJ2 hFJ3) (by rw [if_neg w0, if_pos w1]; exact g3')
    · rw [if_neg (fun e => w1 (by rw [e]; rfl)), gb_226_190, gb_226_192]
      exact K I4 J3 _ hA (FJ_trans hFJ2 hFJ3) (by rw [if_neg w0, if_neg w1]; exact g4')
theorem n_trips {a1 : Int32} {C : gCo} {t : gSt} (hS : mS I C t) (r2 : 0 ≤ t 2 ∧ t 2 ≤ 99) (h1 : 0 ≤ a1.toInt ∧ a1.toInt ≤ 99) (K : ∀ (I' : Nat → Nat → Nat → Int32), (∀ k i j, ¬ ((k = 61 ∧ i = 0 ∧ j = 2)) → I' k i j = I k i j) → mS I' C (sUp t 2 (max 0 (t 2 - a1.toInt))) → Q none (gwd S I' J h)) : (gq d 228 0 [some (.inr (.inr (some (50, 0)))), some (.inl (a1))] [] (gwd S I J h) Q) := by
  have s2 := hS.1.2.2.1
  rw [gb_228_0]
  refine ⟨rfl, ?_⟩
  rw [show (2 : Int32).toNatClampNeg = 2 from rfl, gb_228_11]
  have fin : ∀ y : Int32, y.toInt = max 0 (t 2 - a1.toInt) → (gq d 228 27 [some (.inr (.inr (some (50, 0)))), some (.inl (a1))] [.inl (y), .inl (2), .inr (.inr (some (61, 0)))] (gwd S I J h) Q) := fun y hy => by
    rw [gb_228_27]
    refine ⟨rfl, ?_⟩
    rw [show (2 : Int32).toNatClampNeg = 2 from rfl, gb_228_28]
    exact K _ (fun k i j hn => u_ne hn) (mS_up2 hS hy)
  by_cases w : a1.toInt ≤ t 2
  · rw [if_pos (by rw [z_le]; omega), gb_228_19]
    refine ⟨rfl, ?_⟩
    rw [show (2 : Int32).toNatClampNeg = 2 from rfl, gb_228_25]
    exact fin _ (by rw [z_sub (by omega) (by omega)]; omega)
  · rw [if_neg (by rw [z_le]; omega), gb_228_15]
    exact fin 0 (by rw [z_0]; omega)
theorem n_odds_step {I0 : Nat → Nat → Nat → Int32} {a1 a2 : Int32} {C : gCo} {t u : gSt} {s : Int} (hc : cOk C) (hC0 : mCo I0 C) (hu : tOk C u) (hu9 : u 0 ≤ 998) (ht : mTr I0 I) (hS : mS I C u) (h1 : a1.toInt = s) (hs : 0 ≤ s ∧ s ≤ 100000)
    (K : ∀ I' (J' : Nat → Nat → Nat → Int64) a1, mTr I0 I' → FJ J J' → (∀ j, I' 61 0 j = I0 61 0 j) → a1.toInt = s + (if 0 < gHour C u 2 then (if a2.toInt = -1 then 10 * (100 - C.1 5) else C.1 5) else 0) → (gq (d + 8) 229 82 [some (.inr (.inr (some (50, 0)))), some (.inl (a1)), some (.inl (a2))] [] (gwd S I' J' h) Q)) : (gq (d + 8) 229 36 [some (.inr (.inr (some (50, 0)))), some (.inl (a1)), some (.inl (a2))] [] (gwd S I J h) Q) := by
  have e100 : (100 : Int32).toInt = 100 := rfl
  have e10 : (10 : Int32).toInt = 10 := rfl
  have r5 := hc.2.2.2.2.2.1
  rw [gb_229_36]
  refine n_hourT hc (mTr_co ht hC0) hu (by omega) hS ht.2.2 fun I1 J1 hF1 hFJ1 hS1 => ?_
  rw [gHourM_eq hu9] at hS1
  have ht1 := mTr_FT ht hF1
  have c9 : (I1 54 0 9).toInt = C.1 5 := by rw [ht1.1 _ _ _ (by omega)]; exact hC0.1.2.2.2.2
  have r2 := (tOk_hour hc hu).2.2.1
  rw [Option.toList_none, List.nil_append, gb_229_40, n_isOut hS1.1.2.2.1, Option.toList_some, List.singleton_append, gb_229_44]
  have fin : ∀ a1 : Int32, a1.toInt = s + (if 0 < gHour C u 2 then (if a2.toInt = -1 then 10 * (100 - C.1 5) else C.1 5) else 0) → (gq (d + 8) 229 78 [some (.inr (.inr (some (50, 0)))), some (.inl (a1)), some (.inl (a2))] [] (gwd S I1 J1 h) Q) := fun a1 ha => by
    rw [gb_229_78]
    refine n_triesTr ht1 fun I2 ht2 hr2 => ?_
    rw [Option.toList_none, List.nil_append]
    exact K I2 J1 a1 ht2 hFJ1 hr2 ha
  by_cases hz : gHour C u 2 = 0
  · rw [if_neg (by rw [zb_pos hz]; decide)]
    exact fin a1 (by rw [if_neg (by omega)]; omega)
  · rw [if_pos (zb_neg hz), gb_229_47, gb_229_50]
    by_cases w : a2.toInt = -1
    · rw [if_pos (z_inj (by rw [w, z_m1])), gb_229_53]
      refine ⟨rfl, ?_⟩
      rw [show (9 : Int32).toNatClampNeg = 9 from rfl, gb_229_64, gb_229_76]
      have q1 : (100 - I1 54 0 9).toInt = 100 - C.1 5 := by rw [z_sub (by omega) (by omega), e100, c9]
      have q2 : (10 * (100 - I1 54 0 9)).toInt = 10 * (100 - C.1 5) := by rw [z_mul (by rw [q1, e10]; omega) (by rw [q1, e10]; omega), q1, e10]
      exact fin _ (by rw [if_pos (by omega), if_pos w, z_add (by omega) (by omega), q2, h1])
    · rw [if_neg (fun e => w (by rw [e, z_m1])), gb_229_69]
      refine ⟨rfl, ?_⟩
      rw [show (9 : Int32).toNatClampNeg = 9 from rfl, gb_229_76]
      exact fin _ (by rw [if_pos (by omega), if_neg w, z_add (by omega) (by omega), c9, h1])
theorem n_odds_loop {I0 : Nat → Nat → Nat → Int32} {C : gCo} {t : gSt} (hc : cOk C) (hC0 : mCo I0 C) (hto : tOk C t) (h9 : t 0 ≤ 998) (hS0 : mS I0 C t) : ∀ (n : Nat) (l a s : Int) (I : Nat → Nat → Nat → Int32) (J : Nat → Nat → Nat → Int64) (a1 a2 : Int32), l + n = 10 → 0 ≤ l → a2.toInt = l → a1.toInt = s + C.1 5 * a → 0 ≤ s → s ≤ 1000 → 0 ≤ a → a ≤ l → mTr I0 I → (∀ j, I 61 0 j = I0 61 0 j) →
    (∀ I' (J' : Nat → Nat → Nat → Int64) a1 a2, mTr I0 I' → FJ J J' → a1.toInt = s + C.1 5 * gAliS C t n l a → (gq (d + 8) 229 88 [some (.inr (.inr (some (50, 0)))), some (.inl (a1)), some (.inl (a2))] [] (gwd S I' J' h) Q)) → (gq (d + 8) 229 20 [some (.inr (.inr (some (50, 0)))), some (.inl (a1)), some (.inl (a2))] [] (gwd S I J h) Q)
  | 0, l, a, s, I, J, a1, a2, hn, hl, h2, h1, hs0, hs1, ha0, ha1, ht, hr, K => by
    have e10 : (10 : Int32).toInt = 10 := rfl
    rw [gb_229_20, if_pos (by rw [z_le]; omega)]
    exact K I J _ _ ht FJ_refl h1
  | n + 1, l, a, s, I, J, a1, a2, hn, hl, h2, h1, hs0, hs1, ha0, ha1, ht, hr, K => by
    have e10 : (10 : Int32).toInt = 10 := rfl
    have e1 : (1 : Int32).toInt = 1 := rfl
    have r2 := hto.2.2.1
    have r5 := hc.2.2.2.2.2.1
    have hal := @gAli_r C t l
    have hm : 0 ≤ C.1 5 * a ∧ C.1 5 * a ≤ 1000 := by
      refine ⟨Int.mul_nonneg r5.1 ha0, ?_⟩
      have := Int.mul_le_mul r5.2 (show a ≤ 10 by omega) ha0 (by omega)
      omega
    rw [gb_229_20, if_neg (by rw [z_le]; omega), gb_229_26, gb_229_28, if_neg (by rw [z_eq, z_m1]; omega), gb_229_31]
    refine n_trips (mS_congr hc hS0 fun j _ => hr j) r2 (by omega) fun I1 hF1 hS1 => ?_
    rw [h2] at hS1
    rw [Option.toList_none, List.nil_append]
    refine n_odds_step (t := t) (s := s + C.1 5 * a) hc hC0 (tOk_up2 hto (max 0 (t 2 - l)) (by omega)) (by rw [sUp_ne (by decide)]; exact h9) (mTr_61 ht fun k i j hn => hF1 _ _ _ (by omega)) hS1 h1 (by omega) fun I2 J2 z1 ht2 hFJ2 hr2 hz => ?_
    rw [gb_229_82]
    rw [show gAliS C t (n + 1) l a = gAliS C t n (l + 1) (a + gAli C t l) from rfl] at K
    refine n_odds_loop hc hC0 hto h9 hS0 n (l + 1) (a + gAli C t l) s I2 J2 _ _ (by omega) (by omega) (by rw [z_add (by omega) (by omega), h2, e1]) ?_ hs0 hs1 (by omega) (by omega) ht2 hr2 fun I3 J3 y1 y2 ht3 hFJ3 g => K I3 J3 y1 y2 ht3 (FJ_trans hFJ2 hFJ3) g
    rw [hz, Int.mul_add]
    unfold gAli
    split
    · rw [if_neg (by omega)]; omega
    · omega
theorem n_odds {x1 x2 : Option gV} {C : gCo} {t : gSt} (hc : cOk C) (hC : mCo I C) (hto : tOk C t) (h9 : t 0 ≤ 999) (hS : mS I C t) (h62 : I 50 0 62 = 0)
    (K : ∀ I' (J' : Nat → Nat → Nat → Int64) x, FA I I' → FJ J J' → x.toInt = (if t 0 + 1 ≤ 999 then gOdds C t else -1) → Q (some (.inl x)) (gwd S I' J' h)) : (gq (d + 8) 229 0 [some (.inr (.inr (some (50, 0)))), x1, x2] [] (gwd S I J h) Q) := by
  have e1 : (1 : Int32).toInt = 1 := rfl
  have r2 := hto.2.2.1
  have r5 := hc.2.2.2.2.2.1
  rw [gb_229_0, n_isAhead hC hS hto.1 (by decide) (by decide), Option.toList_some, List.singleton_append, gb_229_7, e1]
  by_cases w : t 0 + 1 ≤ 999
  case neg =>
    rw [if_pos (zb_neg (fun e => w e.2.2)), gb_229_10, gb_229_11]
    exact K I J _ (fun _ _ _ _ => rfl) FJ_refl (by rw [if_neg w]; rfl)
  rw [if_neg (by rw [zb_pos ⟨by omega, by omega, w⟩]; decide), gb_229_12]
  rw [if_pos w] at K
  refine n_putsTr fun I1 ht1 g1 => ?_
  rw [Option.toList_none, List.nil_append, gb_229_18, gb_229_19, gb_229_20, if_neg (by decide), gb_229_26, gb_229_28, if_pos rfl]
  have hal := @gAli_r C t 0
  have es : sUp t 2 (max 0 (t 2 - 0)) = t := by
    funext j; simp only [sUp]; split
    · rename_i e; rw [e]; omega
    · rfl
  refine n_odds_step (t := t) (s := 0) hc hC hto (by omega) ht1 (mS_congr hc hS fun j _ => g1 j) z_0 (by omega) fun I2 J2 z1 ht2 hFJ2 hr2 hz => ?_
  rw [z_m1, if_pos rfl] at hz
  rw [gb_229_82]
  refine n_odds_loop hc hC hto (by omega) hS 10 0 0 ((100 - C.1 5) * 10 * gAli C t 0) I2 J2 _ _ rfl (by omega) (by decide) ?_ ?_ ?_ (by omega) (by omega) ht2 hr2 fun I3 J3 y1 y2 ht3 hFJ3 g => ?_
  · rw [hz]
    unfold gAli
    rw [es]
    split <;> omega
  · have : gAli C t 0 = 0 ∨ gAli C t 0 = 1 := by omega
    rcases this with e | e <;> rw [e] <;> omega
  · have : gAli C t 0 = 0 ∨ gAli C t 0 = 1 := by omega
    rcases this with e | e <;> rw [e] <;> omega
  · rw [gb_229_88]
    refine n_backTr ht3 h62 fun I4 hA => ?_
    rw [Option.toList_none, List.nil_append, gb_229_92]
    exact K I4 J3 _ hA (FJ_trans hFJ2 hFJ3) g
