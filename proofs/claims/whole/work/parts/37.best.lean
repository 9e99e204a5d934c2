/-! The class: posts, changes, few, odds. -/
def gBestF (f : Int → Int) : Nat → Int → Int × Int → Int × Int
  | 0, _, a => a
  | n + 1, i, a => gBestF f n (i + 1) (if a.1 < f i then (f i, i) else a)
def sSwap (t : gSt) (i j : Nat) : gSt := sUp (sUp t (10 + i) (t (10 + j))) (10 + j) (t (10 + i))
theorem sSwap_swap {t : gSt} {i j : Nat} (h : i ≠ j) : sSwap (sSwap t i j) i j = t := by
  funext k
  unfold sSwap
  simp only [sUp]
  by_cases h1 : k = 10 + j
  · rw [if_pos h1, if_neg (by omega), if_pos trivial, h1]
  · rw [if_neg h1]
    by_cases h2 : k = 10 + i
    · rw [if_pos h2, if_pos trivial, h2]
    · rw [if_neg h2, if_neg h1, if_neg h2]
def gChI (C : gCo) (t : gSt) (i : Nat) : Nat → Nat → Int × Int × Int → Int × Int × Int
  | 0, _, a => a
  | n + 1, j, a => gChI C t i n (j + 1) (if t 3 ≠ i ∧ t 3 ≠ j ∧ a.1 < gStr C (sSwap t i j) then (gStr C (sSwap t i j), i, j) else a)
def gChO (C : gCo) (t : gSt) : Nat → Nat → Int × Int × Int → Int × Int × Int
  | 0, _, a => a
  | n + 1, i, a => gChO C t n (i + 1) (gChI C t i n (i + 1) a)
def gPc (n : Nat) : Nat := n % 2 + n / 2 % 2 + n / 4 % 2 + n / 8 % 2 + n / 16 % 2 + n / 32 % 2 + n / 64 % 2 + n / 128 % 2
def gHav (t : gSt) : Nat := if t 3 < 0 then 0 else 2 ^ (t 3).toNat
def gFewOk (C : gCo) (t : gSt) (b : Nat) (best : Int) : Bool := decide (b &&& ((t 4).toNat ||| gHav t) = 0 ∧ (best = -1 ∨ gPc b < gPc best.toNat) ∧ (gThrough C (sUp t 4 ((2 ^ (C.1 2).toNat - 1 - b : Nat) : Int))).1 ≠ -1)
def gFewF (C : gCo) (t : gSt) : Nat → Nat → Int → Int
  | 0, _, best => best
  | n + 1, b, best => gFewF C t n (b + 1) (if gFewOk C t b best then (b : Int) else best)
def gAli (C : gCo) (t : gSt) (less : Int) : Int := if 0 < gHour C (sUp t 2 (max 0 (t 2 - less))) 2 then 1 else 0
def gAliS (C : gCo) (t : gSt) : Nat → Int → Int → Int
  | 0, _, a => a
  | n + 1, l, a => gAliS C t n (l + 1) (a + gAli C t l)
def gOdds (C : gCo) (t : gSt) : Int := (100 - C.1 5) * 10 * gAli C t 0 + C.1 5 * gAliS C t 10 0 0
variable {d S : Nat} {h : Nat × Option gNm} {I : Nat → Nat → Nat → Int32} {J : Nat → Nat → Nat → Int64} {Q : Option gV → gW → Prop}
theorem gThr_str {C : gCo} {t : gSt} {x : Int32} (hx : x.toInt = (gThrough C t).1) : (x = Int32.ofInt (-1) ↔ (gThrough C t).1 = -1) := by
  rw [z_eq, hx, z_m1]
theorem gStr_of {C : gCo} {t : gSt} (h : (gThrough C t).1 ≠ -1) : gStr C t = (gThrough C t).2 2 := if_neg h
theorem gStr_no {C : gCo} {t : gSt} (h : (gThrough C t).1 = -1) : gStr C t = 0 := if_pos h
theorem m_post_loop {i1 i2 b : Nat} {C : gCo} {t : gSt} {a3 a4 : Int32} (hc : cOk C) (hto : tOk C t) (h9 : t 0 ≤ 999) (h3 : a3.toInt = b) (hb : b < 8) : ∀ (n : Nat) (m m0 : Int) (a : Int × Int) (I : Nat → Nat → Nat → Int32) (a5 a6 a7 : Int32), m + n = C.1 1 + 1 → 0 ≤ m → a7.toInt = m → a5.toInt = a.1 → a6.toInt = a.2 → 0 ≤ a.1 → kCo I i1 C → kS I 1 (sUp t (10 + b) m0) →
    (∀ (I' : Nat → Nat → Nat → Int32) a5 a6 a7, (∀ k i j, ¬ ((k = 14 ∧ i = i1 ∧ (j = 3 ∨ j = 4 ∨ j = 5 ∨ j = 6)) ∨ (k = 16 ∧ i = i1) ∨ (k = 18 ∧ i = i1) ∨ (k = 21 ∧ i = 2) ∨ (k = 22 ∧ i = 2) ∨ (k = 21 ∧ i = 1) ∨ (k = 22 ∧ i = 1)) → I' k i j = I k i j) → a5.toInt = (gBestF (fun m => gStr C (sUp t (10 + b) m)) n m a).1 → a6.toInt = (gBestF (fun m => gStr C (sUp t (10 + b) m)) n m a).2 → (gq (d + 6) 6 91 [some (.inr (.inr (some (20, 0)))), some (.inr (.inr (some (34, i1)))), some (.inr (.inr (some (21, i2)))), some (.inl (a3)), some (.inl (a4)), some (.inl (a5)), some (.inl (a6)), some (.inl (a7))] [] (gwd S I' J h) Q)) → (gq (d + 6) 6 27 [some (.inr (.inr (some (20, 0)))), some (.inr (.inr (some (34, i1)))), some (.inr (.inr (some (21, i2)))), some (.inl (a3)), some (.inl (a4)), some (.inl (a5)), some (.inl (a6)), some (.inl (a7))] [] (gwd S I J h) Q)
  | 0, m, m0, a, I, a5, a6, a7, hn, hm, h7, h5, h6, h0, hC, hS, K => by
    have c1 := hC.1 1 (by decide)
    rw [gb_6_27, if_pos (by rw [z_lt]; omega)]
    exact K I _ _ _ (fun _ _ _ _ => rfl) h5 h6
  | n + 1, m, m0, a, I, a5, a6, a7, hn, hm, h7, h5, h6, h0, hC, hS, K => by
    have c1 := hC.1 1 (by decide)
    have r1 := hc.2.1
    have e1 : (1 : Int32).toInt = 1 := rfl
    have en : a3.toNatClampNeg = b := by rw [z_n]; omega
    have esu : ∀ v, sUp (sUp t (10 + b) m0) (10 + b) v = sUp t (10 + b) v := fun v => by funext j; simp only [sUp]; split <;> rfl
    have ea : (a7 + 1).toInt = m + 1 := by rw [z_add (by omega) (by omega), h7, e1]
    rw [gb_6_27, if_neg (by rw [z_lt]; omega), gb_6_36]
    refine ⟨g_in.mpr (by omega), ?_⟩
    rw [en, gb_6_47]
    have hS1 : kS (gup I 22 1 b a7) 1 (sUp t (10 + b) m) := by rw [← esu m]; exact kS_upm hS h7
    have hto1 : tOk C (sUp t (10 + b) m) := tOk_upm hto b m (by omega)
    refine m_htt hc (kCo_congr hC fun k j hk => u_ne (by omega)) hto1 (by rw [sUp_ne (by omega)]; exact h9) hS1 (by decide) fun I1 x hF1 hS2 hx => ?_
    have hstr := gStr_r hc hto1
    have hgo := gThrough_ok hc hto1
    have hF : (∀ k i j, ¬ ((k = 14 ∧ i = i1 ∧ (j = 3 ∨ j = 4 ∨ j = 5 ∨ j = 6)) ∨ (k = 16 ∧ i = i1) ∨ (k = 18 ∧ i = i1) ∨ (k = 21 ∧ i = 2) ∨ (k = 22 ∧ i = 2) ∨ (k = 21 ∧ i = 1) ∨ (k = 22 ∧ i = 1)) → I1 k i j = I k i j) := fun k i j hn => by rw [hF1 _ _ _ (by omega), u_ne (by omega)]
    have hC1 : kCo I1 i1 C := kCo_congr hC fun k j hk => hF _ _ _ (by omega)
    have hS3 : kS I1 1 (sUp t (10 + b) m) := kS_congr hS1 (fun j => hF1 _ _ _ (by omega)) (fun j => hF1 _ _ _ (by omega))
    have s2 := hS2.1 2 (by decide)
    rw [Option.toList_some, List.singleton_append, gb_6_56, gb_6_57]
    unfold gBestF at K
    have skip : ¬ a.1 < gStr C (sUp t (10 + b) m) → (gq (d + 6) 6 85 [some (.inr (.inr (some (20, 0)))), some (.inr (.inr (some (34, i1)))), some (.inr (.inr (some (21, i2)))), some (.inl (a3)), some (.inl (a4)), some (.inl (a5)), some (.inl (a6)), some (.inl (a7))] [] (gwd S I1 J h) Q) := fun hno => by
      rw [if_neg hno] at K
      rw [gb_6_85]
      exact m_post_loop hc hto h9 h3 hb n (m + 1) m a I1 _ _ _ (by omega) (by omega) ea h5 h6 h0 hC1 hS3 fun I2 y5 y6 y7 hF2 g5 g6 => K I2 y5 y6 y7 (fun k i j hn => by rw [hF2 _ _ _ hn, hF _ _ _ hn]) g5 g6
    by_cases hz : (gThrough C (sUp t (10 + b) m)).1 = -1
    · rw [if_pos ((gThr_str hx).mpr hz)]
      exact skip (by rw [gStr_no hz]; omega)
    · rw [if_neg (fun e => hz ((gThr_str hx).mp e)), gb_6_60]
      have es := gStr_of hz
      by_cases hb2 : a.1 < gStr C (sUp t (10 + b) m)
      · rw [if_neg (by rw [z_le]; omega), gb_6_72, gb_6_85]
        rw [if_pos hb2] at K
        exact m_post_loop hc hto h9 h3 hb n (m + 1) m (gStr C (sUp t (10 + b) m), m) I1 _ _ _ (by omega) (by omega) ea (by rw [s2]; exact es.symm) h7 (by show 0 ≤ gStr C (sUp t (10 + b) m); omega) hC1 hS3 fun I2 y5 y6 y7 hF2 g5 g6 => K I2 y5 y6 y7 (fun k i j hn => by rw [hF2 _ _ _ hn, hF _ _ _ hn]) g5 g6
      · rw [if_pos (by rw [z_le]; omega)]
        exact skip hb2
def gPost (C : gCo) (t : gSt) (b : Nat) : Int × Int := gBestF (fun m => gStr C (sUp t (10 + b) m)) (C.1 1 + 1).toNat 0 (0, -1)
theorem m_post {i1 i2 b : Nat} {a3 a4 : Int32} {x5 x6 x7 : Option gV} {C : gCo} {t : gSt} (hc : cOk C) (hC : kCo I i1 C) (hto : tOk C t) (h9 : t 0 ≤ 999) (hS : kS I i2 t) (hne : i2 ≠ 1) (h3 : a3.toInt = b) (hb : (b : Int) < C.1 2)
    (K : ∀ (I' : Nat → Nat → Nat → Int32) x, (∀ k i j, ¬ ((k = 14 ∧ i = i1 ∧ (j = 3 ∨ j = 4 ∨ j = 5 ∨ j = 6)) ∨ (k = 16 ∧ i = i1) ∨ (k = 18 ∧ i = i1) ∨ (k = 21 ∧ i = 2) ∨ (k = 22 ∧ i = 2) ∨ (k = 21 ∧ i = 1) ∨ (k = 22 ∧ i = 1)) → I' k i j = I k i j) → x.toInt = (if (gPost C t b).2 = -1 ∨ a4.toInt = 0 then (gPost C t b).2 else (gPost C t b).1) → Q (some (.inl x)) (gwd S I' J h)) : (gq (d + 6) 6 0 [some (.inr (.inr (some (20, 0)))), some (.inr (.inr (some (34, i1)))), some (.inr (.inr (some (21, i2)))), some (.inl (a3)), some (.inl (a4)), x5, x6, x7] [] (gwd S I J h) Q) := by
  have r2 := hc.2.2.1
  have r1 := hc.2.1
  have c2 := hC.1 2 (by decide)
  rw [gb_6_0, m_hasBearer, Option.toList_some, List.singleton_append, gb_6_5, if_neg (by rw [zb_0]; exact fun e => e (by omega)), gb_6_10]
  refine m_copy (fun e => hne e.symm) hS fun I1 hF1 hS1 => ?_
  rw [Option.toList_none, List.nil_append, gb_6_18, gb_6_22]
  have esu : sUp t (10 + b) (t (10 + b)) = t := by
    funext j; simp only [sUp]; split
    · rename_i e; rw [e]
    · rfl
  refine m_post_loop hc hto h9 h3 (by omega) (C.1 1 + 1).toNat 0 (t (10 + b)) (0, -1) I1 _ _ _ (by omega) (by omega) rfl rfl z_m1 (by decide) (kCo_congr hC fun k j hk => hF1 _ _ _ (by omega)) (by rw [esu]; exact hS1) fun I2 y5 y6 y7 hF2 g5 g6 => ?_
  have g5' : y5.toInt = (gPost C t b).1 := g5
  have g6' : y6.toInt = (gPost C t b).2 := g6
  have hF : (∀ k i j, ¬ ((k = 14 ∧ i = i1 ∧ (j = 3 ∨ j = 4 ∨ j = 5 ∨ j = 6)) ∨ (k = 16 ∧ i = i1) ∨ (k = 18 ∧ i = i1) ∨ (k = 21 ∧ i = 2) ∨ (k = 22 ∧ i = 2) ∨ (k = 21 ∧ i = 1) ∨ (k = 22 ∧ i = 1)) → I2 k i j = I k i j) := fun k i j hn => by rw [hF2 _ _ _ hn, hF1 _ _ _ (by omega)]
  rw [gb_6_91, gb_6_94]
  by_cases hz : (gPost C t b).2 = -1
  · rw [if_pos (z_inj (by rw [g6', hz, z_m1])), gb_6_102, gb_6_109]
    exact K I2 _ hF (by rw [if_pos (Or.inl hz)]; exact g6')
  · rw [if_neg (fun e => hz (by rw [← g6', e, z_m1])), gb_6_97]
    by_cases h4 : a4.toInt = 0
    · rw [if_pos (z_inj h4), gb_6_102, gb_6_109]
      exact K I2 _ hF (by rw [if_pos (Or.inr h4)]; exact g6')
    · rw [if_neg (fun e => h4 (by rw [e]; rfl)), gb_6_107, gb_6_109]
      exact K I2 _ hF (by rw [if_neg (fun e => e.elim hz h4)]; exact g5')
theorem m_swapMiles {i1 a b : Nat} {a1 a2 : Int32} {x3 : Option gV} {t : gSt} (h1 : a1.toInt = a) (h2 : a2.toInt = b) (ha : a < 8) (hb : b < 8) (hS : kS I i1 t) (K : ∀ (I' : Nat → Nat → Nat → Int32), (∀ k i j, ¬ ((k = 22 ∧ i = i1)) → I' k i j = I k i j) → kS I' i1 (sSwap t a b) → Q none (gwd S I' J h)) : (gq d 99 0 [some (.inr (.inr (some (21, i1)))), some (.inl (a1)), some (.inl (a2)), x3] [] (gwd S I J h) Q) := by
  have e8 : (Int32.ofNat 8).toInt = 8 := rfl
  have en : a1.toNatClampNeg = a := by rw [z_n]; omega
  have en2 : a2.toNatClampNeg = b := by rw [z_n]; omega
  rw [gb_99_0, if_neg (by rw [z_lt, z_0]; omega), gb_99_4, if_neg (by rw [z_le]; omega), gb_99_13, if_neg (by rw [z_lt, z_0]; omega), gb_99_17, if_neg (by rw [z_le]; omega), gb_99_26]
  refine ⟨g_in.mpr (by omega), ?_⟩
  rw [gb_99_32]
  refine ⟨g_in.mpr (by omega), ?_⟩
  rw [gb_99_44]
  refine ⟨g_in.mpr (by omega), ?_⟩
  rw [gb_99_45]
  refine ⟨g_in.mpr (by omega), ?_⟩
  rw [gb_99_52, en, en2]
  exact K _ (fun k i j hn => by rw [u_ne (by omega), u_ne (by omega)]) (kS_upm (kS_upm hS (hS.2 b hb)) (hS.2 a ha))
theorem tOk_swap {C : gCo} {t : gSt} {a b : Nat} (ht : tOk C t) (ha : (a : Int) < C.1 2) (hb : (b : Int) < C.1 2) : tOk C (sSwap t a b) := tOk_upm (tOk_upm ht a _ (ht.2.2.2.2.2.2 b hb)) b _ (ht.2.2.2.2.2.2 a ha)
theorem sSwap_0 {t : gSt} {a b j : Nat} (h : j < 10) : sSwap t a b j = t j := by unfold sSwap; rw [sUp_ne (by omega), sUp_ne (by omega)]
theorem m_change_in {i1 i2 i : Nat} {C : gCo} {t : gSt} {a3 a7 : Int32} (hc : cOk C) (hto : tOk C t) (h9 : t 0 ≤ 999) (hi2 : i2 ≠ 1 ∧ i2 ≠ 2) (h7 : a7.toInt = i) : ∀ (n j : Nat) (a : Int × Int × Int) (I : Nat → Nat → Nat → Int32) (a4 a5 a6 a8 : Int32), (j : Int) + n = C.1 2 → i < j → a8.toInt = j → a4.toInt = a.1 → a5.toInt = a.2.1 → a6.toInt = a.2.2 → 0 ≤ a.1 → kCo I i1 C → kS I 1 t → (I 21 i2 3).toInt = t 3 →
    (∀ (I' : Nat → Nat → Nat → Int32) a4 a5 a6 a8, (∀ k i j, ¬ ((k = 14 ∧ i = i1 ∧ (j = 3 ∨ j = 4 ∨ j = 5 ∨ j = 6)) ∨ (k = 16 ∧ i = i1) ∨ (k = 18 ∧ i = i1) ∨ (k = 21 ∧ i = 2) ∨ (k = 22 ∧ i = 2) ∨ (k = 21 ∧ i = 1) ∨ (k = 22 ∧ i = 1)) → I' k i j = I k i j) → a4.toInt = (gChI C t i n j a).1 → a5.toInt = (gChI C t i n j a).2.1 → a6.toInt = (gChI C t i n j a).2.2 → 0 ≤ (gChI C t i n j a).1 → kS I' 1 t → (gq (d + 6) 7 155 [some (.inr (.inr (some (20, 0)))), some (.inr (.inr (some (34, i1)))), some (.inr (.inr (some (21, i2)))), some (.inl (a3)), some (.inl (a4)), some (.inl (a5)), some (.inl (a6)), some (.inl (a7)), some (.inl (a8))] [] (gwd S I' J h) Q)) → (gq (d + 6) 7 58 [some (.inr (.inr (some (20, 0)))), some (.inr (.inr (some (34, i1)))), some (.inr (.inr (some (21, i2)))), some (.inl (a3)), some (.inl (a4)), some (.inl (a5)), some (.inl (a6)), some (.inl (a7)), some (.inl (a8))] [] (gwd S I J h) Q)
  | 0, j, a, I, a4, a5, a6, a8, hn, hij, h8, h4, h5, h6, h0, hC, hS, hb3, K => by
    have c2 := hC.1 2 (by decide)
    rw [gb_7_58, if_pos (by rw [z_le]; omega)]
    exact K I _ _ _ _ (fun _ _ _ _ => rfl) h4 h5 h6 h0 hS
  | n + 1, j, a, I, a4, a5, a6, a8, hn, hij, h8, h4, h5, h6, h0, hC, hS, hb3, K => by
    have c2 := hC.1 2 (by decide)
    have r2 := hc.2.2.1
    have e1 : (1 : Int32).toInt = 1 := rfl
    have ea : (a8 + 1).toInt = ((j + 1 : Nat) : Int) := by rw [z_add (by omega) (by omega), h8, e1]; rfl
    rw [gb_7_58, if_neg (by rw [z_le]; omega), gb_7_67]
    unfold gChI at K
    have next : ∀ (a' : Int × Int × Int) (I1 : Nat → Nat → Nat → Int32) (a4 a5 a6 : Int32), a' = (if t 3 ≠ i ∧ t 3 ≠ j ∧ a.1 < gStr C (sSwap t i j) then (gStr C (sSwap t i j), (i : Int), (j : Int)) else a) → (∀ k i j, ¬ ((k = 14 ∧ i = i1 ∧ (j = 3 ∨ j = 4 ∨ j = 5 ∨ j = 6)) ∨ (k = 16 ∧ i = i1) ∨ (k = 18 ∧ i = i1) ∨ (k = 21 ∧ i = 2) ∨ (k = 22 ∧ i = 2) ∨ (k = 21 ∧ i = 1) ∨ (k = 22 ∧ i = 1)) → I1 k i j = I k i j) → a4.toInt = a'.1 → a5.toInt = a'.2.1 → a6.toInt = a'.2.2 → 0 ≤ a'.1 → kS I1 1 t → (gq (d + 6) 7 149 [some (.inr (.inr (some (20, 0)))), some (.inr (.inr (some (34, i1)))), some (.inr (.inr (some (21, i2)))), some (.inl (a3)), some (.inl (a4)), some (.inl (a5)), some (.inl (a6)), some (.inl (a7)), some (.inl (a8))] [] (gwd S I1 J h) Q) := fun a' I1 a4 a5 a6 ha' hF h4 h5 h6 h0 hS1 => by
      rw [gb_7_149]
      rw [← ha'] at K
      refine m_change_in hc hto h9 hi2 h7 n (j + 1) a' I1 _ _ _ _ (by omega) (by omega) ea h4 h5 h6 h0 (kCo_congr hC fun k j hk => hF _ _ _ (by omega)) hS1 (by rw [hF _ _ _ (by omega)]; exact hb3) fun I2 y4 y5 y6 y8 hF2 g4 g5 g6 g0 gS => K I2 y4 y5 y6 y8 (fun k i j hn => by rw [hF2 _ _ _ hn, hF _ _ _ hn]) g4 g5 g6 g0 gS
    by_cases hx1 : t 3 = i
    · rw [if_pos (by rw [z_eq]; omega)]
      exact next a I _ _ _ (by rw [if_neg (fun e => e.1 hx1)]) (fun _ _ _ _ => rfl) h4 h5 h6 h0 hS
    rw [if_neg (by rw [z_eq]; omega), gb_7_76]
    by_cases hx2 : t 3 = j
    · rw [if_pos (by rw [z_eq]; omega)]
      exact next a I _ _ _ (by rw [if_neg (fun e => e.2.1 hx2)]) (fun _ _ _ _ => rfl) h4 h5 h6 h0 hS
    rw [if_neg (by rw [z_eq]; omega), gb_7_85]
    refine m_swapMiles h7 h8 (by omega) (by omega) hS fun I1 hF1 hS1 => ?_
    rw [Option.toList_none, List.nil_append, gb_7_96]
    have hto1 : tOk C (sSwap t i j) := tOk_swap hto (by omega) (by omega)
    refine m_htt hc (kCo_congr hC fun k j hk => hF1 _ _ _ (by omega)) hto1 (by rw [sSwap_0 (by omega)]; exact h9) hS1 (by decide) fun I2 x hF2 hS2 hx => ?_
    have hS3 : kS I2 1 (sSwap t i j) := kS_congr hS1 (fun j => hF2 _ _ _ (by omega)) (fun j => hF2 _ _ _ (by omega))
    have s2 := hS2.1 2 (by decide)
    have hstr := gStr_r hc hto1
    have hF12 : (∀ k i j, ¬ ((k = 14 ∧ i = i1 ∧ (j = 3 ∨ j = 4 ∨ j = 5 ∨ j = 6)) ∨ (k = 16 ∧ i = i1) ∨ (k = 18 ∧ i = i1) ∨ (k = 21 ∧ i = 2) ∨ (k = 22 ∧ i = 2) ∨ (k = 21 ∧ i = 1) ∨ (k = 22 ∧ i = 1)) → I2 k i j = I k i j) := fun k i j hn => by rw [hF2 _ _ _ (by omega), hF1 _ _ _ (by omega)]
    rw [Option.toList_some, List.singleton_append, gb_7_105, gb_7_106]
    have fin : ∀ (a' : Int × Int × Int) (a4 a5 a6 : Int32), a' = (if t 3 ≠ i ∧ t 3 ≠ j ∧ a.1 < gStr C (sSwap t i j) then (gStr C (sSwap t i j), (i : Int), (j : Int)) else a) → a4.toInt = a'.1 → a5.toInt = a'.2.1 → a6.toInt = a'.2.2 → 0 ≤ a'.1 → (gq (d + 6) 7 138 [some (.inr (.inr (some (20, 0)))), some (.inr (.inr (some (34, i1)))), some (.inr (.inr (some (21, i2)))), some (.inl (a3)), some (.inl (a4)), some (.inl (a5)), some (.inl (a6)), some (.inl (a7)), some (.inl (a8))] [] (gwd S I2 J h) Q) := fun a' a4 a5 a6 ha' h4 h5 h6 h0 => by
      rw [gb_7_138]
      refine m_swapMiles h7 h8 (by omega) (by omega) hS3 fun I3 hF3 hS4 => ?_
      rw [sSwap_swap (by omega)] at hS4
      rw [Option.toList_none, List.nil_append]
      exact next a' I3 _ _ _ ha' (fun k i j hn => by rw [hF3 _ _ _ (by omega), hF12 _ _ _ hn]) h4 h5 h6 h0 hS4
    by_cases hz : (gThrough C (sSwap t i j)).1 = -1
    · rw [if_pos ((gThr_str hx).mpr hz)]
      exact fin a _ _ _ (by rw [if_neg (fun e => by have := e.2.2; rw [gStr_no hz] at this; omega)]) h4 h5 h6 h0
    · rw [if_neg (fun e => hz ((gThr_str hx).mp e)), gb_7_109]
      have es := gStr_of hz
      by_cases hb2 : a.1 < gStr C (sSwap t i j)
      · rw [if_neg (by rw [z_le]; omega), gb_7_121]
        exact fin (gStr C (sSwap t i j), i, j) _ _ _ (by rw [if_pos ⟨hx1, hx2, hb2⟩]) (by rw [s2]; exact es.symm) h7 h8 hstr.1
      · rw [if_pos (by rw [z_le]; omega)]
        exact fin a _ _ _ (by rw [if_neg (fun e => hb2 e.2.2)]) h4 h5 h6 h0
theorem m_change_out {i1 i2 : Nat} {C : gCo} {t : gSt} {a3 : Int32} (hc : cOk C) (hto : tOk C t) (h9 : t 0 ≤ 999) (hi2 : i2 ≠ 1 ∧ i2 ≠ 2) : ∀ (n i : Nat) (a : Int × Int × Int) (I : Nat → Nat → Nat → Int32) (a4 a5 a6 a7 : Int32) (x8 : Option gV), (i : Int) + n = C.1 2 → a7.toInt = i → a4.toInt = a.1 → a5.toInt = a.2.1 → a6.toInt = a.2.2 → 0 ≤ a.1 → kCo I i1 C → kS I 1 t → (I 21 i2 3).toInt = t 3 →
    (∀ (I' : Nat → Nat → Nat → Int32) a4 a5 a6 a7 x8, (∀ k i j, ¬ ((k = 14 ∧ i = i1 ∧ (j = 3 ∨ j = 4 ∨ j = 5 ∨ j = 6)) ∨ (k = 16 ∧ i = i1) ∨ (k = 18 ∧ i = i1) ∨ (k = 21 ∧ i = 2) ∨ (k = 22 ∧ i = 2) ∨ (k = 21 ∧ i = 1) ∨ (k = 22 ∧ i = 1)) → I' k i j = I k i j) → a4.toInt = (gChO C t n i a).1 → a5.toInt = (gChO C t n i a).2.1 → a6.toInt = (gChO C t n i a).2.2 → (gq (d + 6) 7 161 [some (.inr (.inr (some (20, 0)))), some (.inr (.inr (some (34, i1)))), some (.inr (.inr (some (21, i2)))), some (.inl (a3)), some (.inl (a4)), some (.inl (a5)), some (.inl (a6)), some (.inl (a7)), x8] [] (gwd S I' J h) Q)) → (gq (d + 6) 7 43 [some (.inr (.inr (some (20, 0)))), some (.inr (.inr (some (34, i1)))), some (.inr (.inr (some (21, i2)))), some (.inl (a3)), some (.inl (a4)), some (.inl (a5)), some (.inl (a6)), some (.inl (a7)), x8] [] (gwd S I J h) Q)
  | 0, i, a, I, a4, a5, a6, a7, x8, hn, h7, h4, h5, h6, h0, hC, hS, hb3, K => by
    have c2 := hC.1 2 (by decide)
    rw [gb_7_43, if_pos (by rw [z_le]; omega)]
    exact K I _ _ _ _ _ (fun _ _ _ _ => rfl) h4 h5 h6
  | n + 1, i, a, I, a4, a5, a6, a7, x8, hn, h7, h4, h5, h6, h0, hC, hS, hb3, K => by
    have c2 := hC.1 2 (by decide)
    have r2 := hc.2.2.1
    have e1 : (1 : Int32).toInt = 1 := rfl
    have ea : (a7 + 1).toInt = ((i + 1 : Nat) : Int) := by rw [z_add (by omega) (by omega), h7, e1]; rfl
    rw [gb_7_43, if_neg (by rw [z_le]; omega), gb_7_52]
    unfold gChO at K
    refine m_change_in hc hto h9 hi2 h7 n (i + 1) a I _ _ _ _ (by omega) (by omega) ea h4 h5 h6 h0 hC hS hb3 fun I1 y4 y5 y6 y8 hF1 g4 g5 g6 g0 gS => ?_
    rw [gb_7_155]
    exact m_change_out hc hto h9 hi2 n (i + 1) _ I1 _ _ _ _ _ (by omega) ea g4 g5 g6 g0 (kCo_congr hC fun k j hk => hF1 _ _ _ (by omega)) gS (by rw [hF1 _ _ _ (by omega)]; exact hb3) fun I2 z4 z5 z6 z7 z8 hF2 q4 q5 q6 => K I2 z4 z5 z6 z7 z8 (fun k i j hn => by rw [hF2 _ _ _ hn, hF1 _ _ _ hn]) q4 q5 q6
def gChange (C : gCo) (t : gSt) : Int × Int × Int := gChO C t (C.1 2).toNat 0 (gStr C t, -1, -1)
theorem m_change {i1 i2 : Nat} {a3 : Int32} {x4 x5 x6 x7 x8 : Option gV} {C : gCo} {t : gSt} (hc : cOk C) (hC : kCo I i1 C) (hto : tOk C t) (h9 : t 0 ≤ 999) (hS : kS I i2 t) (hne : i2 ≠ 1 ∧ i2 ≠ 2)
    (K : ∀ (I' : Nat → Nat → Nat → Int32) x, (∀ k i j, ¬ ((k = 14 ∧ i = i1 ∧ (j = 3 ∨ j = 4 ∨ j = 5 ∨ j = 6)) ∨ (k = 16 ∧ i = i1) ∨ (k = 18 ∧ i = i1) ∨ (k = 21 ∧ i = 2) ∨ (k = 22 ∧ i = 2) ∨ (k = 21 ∧ i = 1) ∨ (k = 22 ∧ i = 1)) → I' k i j = I k i j) → x.toInt = (if a3.toInt = 0 then (gChange C t).2.1 else if a3.toInt = 1 then (gChange C t).2.2 else (gChange C t).1) → Q (some (.inl x)) (gwd S I' J h)) : (gq (d + 6) 7 0 [some (.inr (.inr (some (20, 0)))), some (.inr (.inr (some (34, i1)))), some (.inr (.inr (some (21, i2)))), some (.inl (a3)), x4, x5, x6, x7, x8] [] (gwd S I J h) Q) := by
  have r2 := hc.2.2.1
  rw [gb_7_0]
  refine m_copy (fun e => hne.1 e.symm) hS fun I1 hF1 hS1 => ?_
  rw [Option.toList_none, List.nil_append, gb_7_8]
  refine m_htt hc (kCo_congr hC fun k j hk => hF1 _ _ _ (by omega)) hto h9 hS1 (by decide) fun I2 x hF2 hS2 hx => ?_
  have hS3 : kS I2 1 t := kS_congr hS1 (fun j => hF2 _ _ _ (by omega)) (fun j => hF2 _ _ _ (by omega))
  have hF12 : (∀ k i j, ¬ ((k = 14 ∧ i = i1 ∧ (j = 3 ∨ j = 4 ∨ j = 5 ∨ j = 6)) ∨ (k = 16 ∧ i = i1) ∨ (k = 18 ∧ i = i1) ∨ (k = 21 ∧ i = 2) ∨ (k = 22 ∧ i = 2) ∨ (k = 21 ∧ i = 1) ∨ (k = 22 ∧ i = 1)) → I2 k i j = I k i j) := fun k i j hn => by rw [hF2 _ _ _ (by omega), hF1 _ _ _ (by omega)]
  have s2 := hS2.1 2 (by decide)
  have hstr := gStr_r hc hto
  rw [Option.toList_some, List.singleton_append, gb_7_17, gb_7_18]
  have go : ∀ y : Int32, y.toInt = gStr C t → (gq (d + 6) 7 32 [some (.inr (.inr (some (20, 0)))), some (.inr (.inr (some (34, i1)))), some (.inr (.inr (some (21, i2)))), some (.inl (a3)), x4, x5, x6, x7, x8] [.inl (y)] (gwd S I2 J h) Q) := fun y hy => by
    rw [gb_7_32, gb_7_35, gb_7_38]
    refine m_change_out hc hto h9 hne (C.1 2).toNat 0 (gStr C t, -1, -1) I2 _ _ _ _ _ (by omega) rfl hy z_m1 z_m1 hstr.1 (kCo_congr hC fun k j hk => hF12 _ _ _ (by omega)) hS3 (by rw [hF12 _ _ _ (by omega)]; exact hS.1 3 (by decide)) fun I3 z4 z5 z6 z7 z8 hF3 q4 q5 q6 => ?_
    have q4' : z4.toInt = (gChange C t).1 := q4
    have q5' : z5.toInt = (gChange C t).2.1 := q5
    have q6' : z6.toInt = (gChange C t).2.2 := q6
    have hF : (∀ k i j, ¬ ((k = 14 ∧ i = i1 ∧ (j = 3 ∨ j = 4 ∨ j = 5 ∨ j = 6)) ∨ (k = 16 ∧ i = i1) ∨ (k = 18 ∧ i = i1) ∨ (k = 21 ∧ i = 2) ∨ (k = 22 ∧ i = 2) ∨ (k = 21 ∧ i = 1) ∨ (k = 22 ∧ i = 1)) → I3 k i j = I k i j) := fun k i j hn => by rw [hF3 _ _ _ hn, hF12 _ _ _ hn]
    rw [gb_7_161]
    by_cases e0 : a3.toInt = 0
    · rw [if_pos (z_inj e0), gb_7_165, gb_7_182]
      exact K I3 _ hF (by rw [if_pos e0]; exact q5')
    · rw [if_neg (fun e => e0 (by rw [e]; rfl)), gb_7_170]
      by_cases e1 : a3.toInt = 1
      · rw [if_pos (z_inj e1), gb_7_175, gb_7_182]
        exact K I3 _ hF (by rw [if_neg e0, if_pos e1]; exact q6')
      · rw [if_neg (fun e => e1 (by rw [e]; rfl)), gb_7_180, gb_7_182]
        exact K I3 _ hF (by rw [if_neg e0, if_neg e1]; exact q4')
  by_cases hz : (gThrough C t).1 = -1
  · rw [if_pos ((gThr_str hx).mpr hz), gb_7_21]
    exact go 0 (by rw [gStr_no hz]; rfl)
  · rw [if_neg (fun e => hz ((gThr_str hx).mp e)), gb_7_25]
    exact go _ (by rw [s2, gStr_of hz])
