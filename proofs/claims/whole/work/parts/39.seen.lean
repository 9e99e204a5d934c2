/-! The class: what is seen, strengths, telling. -/
def kSn (I : Nat → Nat → Nat → Int32) (sn : Nat → Int) (rm : Int) : Prop := (I 20 0 3).toInt = rm ∧ (∀ k : Nat, (k : Int) < rm → (I 23 0 k).toInt = sn (3 * k)) ∧ (∀ k : Nat, (k : Int) < rm → (I 24 0 k).toInt = sn (3 * k + 1)) ∧ (∀ k : Nat, (k : Int) < rm → (I 25 0 k).toInt = sn (3 * k + 2))
def snOk (C : gCo) (sn : Nat → Int) (rm : Int) : Prop := (0 ≤ rm ∧ rm ≤ 16) ∧ ∀ k : Nat, (k : Int) < rm → (0 ≤ sn (3 * k) ∧ sn (3 * k) ≤ 30) ∧ (0 ≤ sn (3 * k + 1) ∧ sn (3 * k + 1) < C.1 3) ∧ (sn (3 * k + 2) = 0 ∨ sn (3 * k + 2) = 1)
theorem kSn_congr {I I' : Nat → Nat → Nat → Int32} {sn : Nat → Int} {rm : Int} (h : kSn I sn rm) (e : ∀ k j, (k = 20 ∧ j = 3 ∨ k = 23 ∨ k = 24 ∨ k = 25) → I' k 0 j = I k 0 j) : kSn I' sn rm := ⟨by rw [e _ _ (by omega)]; exact h.1, fun k hk => by rw [e _ _ (by omega)]; exact h.2.1 k hk, fun k hk => by rw [e _ _ (by omega)]; exact h.2.2.1 k hk, fun k hk => by rw [e _ _ (by omega)]; exact h.2.2.2 k hk⟩
def gAgr1 (sn : Nat → Int) (t : gSt) (n : Int) (i : Nat) : Bool := !(decide (sn (3 * i) = n) && (gBit (t 5) (sn (3 * i + 1)).toNat != decide (sn (3 * i + 2) = 1)))
def gAgr (sn : Nat → Int) (t : gSt) (n : Int) : Nat → Nat → Bool
  | 0, _ => true
  | m + 1, i => if gAgr1 sn t n i then gAgr sn t n m (i + 1) else false
def gLast (sn : Nat → Int) : Nat → Nat → Int → Int
  | 0, _, a => a
  | m + 1, i, a => gLast sn m (i + 1) (max a (sn (3 * i)))
def gFitL (C : gCo) (sn : Nat → Int) (rm : Int) : Nat → Int → gSt → Bool → Bool
  | 0, _, _, f => f
  | m + 1, n, t, f => if f then gFitL C sn rm m (n + 1) (gHour C t) (gAgr sn (gHour C t) n rm.toNat 0) else false
def gFits (C : gCo) (sn : Nat → Int) (rm : Int) (t : gSt) (v : Nat) : Bool := gFitL C sn rm (gLast sn rm.toNat 0 0).toNat 1 (sUp t 2 v) (decide (t 0 + gLast sn rm.toNat 0 0 ≤ 999) && gAgr sn (sUp t 2 v) 0 rm.toNat 0)
def gLeft (f : Nat → Bool) : Nat → Nat → Int → Int
  | 0, _, a => a
  | n + 1, v, a => gLeft f n (v + 1) (a + if f v then 1 else 0)
theorem gLeft_r {f : Nat → Bool} : ∀ {n v : Nat} {a : Int}, a ≤ gLeft f n v a ∧ gLeft f n v a ≤ a + n
  | 0, _, _ => by simp [gLeft]
  | n + 1, v, a => by
    unfold gLeft
    have := @gLeft_r f n (v + 1) (a + if f v then 1 else 0)
    have h2 : 0 ≤ (if f v then (1 : Int) else 0) ∧ (if f v then (1 : Int) else 0) ≤ 1 := by split <;> omega
    omega
theorem gLast_r {C : gCo} {sn : Nat → Int} {rm : Int} (h : snOk C sn rm) : ∀ {m i : Nat} {a : Int}, ((i + m : Nat) : Int) ≤ rm → 0 ≤ a → a ≤ 30 → 0 ≤ gLast sn m i a ∧ gLast sn m i a ≤ 30
  | 0, _, _, _, h0, h1 => ⟨h0, h1⟩
  | m + 1, i, a, hi, h0, h1 => by
    unfold gLast
    have := (h.2 i (by omega)).1
    exact gLast_r h (by omega) (by omega) (by omega)
variable {d S : Nat} {h : Nat × Option gNm} {I : Nat → Nat → Nat → Int32} {J : Nat → Nat → Nat → Int64} {Q : Option gV → gW → Prop}
theorem m_agrees_loop {C : gCo} {t : gSt} {sn : Nat → Int} {rm n : Int} {a1 : Int32} (hc : cOk C) (hto : tOk C t) (hS : kS I 2 t) (hn : kSn I sn rm) (hk : snOk C sn rm) (h1 : a1.toInt = n)
    (K : ∀ x, (x = 0 ∨ x = 1) → (x = 1 ↔ gAgr sn t n rm.toNat 0 = true) → Q (some (.inl x)) (gwd S I J h)) : ∀ (m i : Nat) (a2 : Int32), ((i + m : Nat) : Int) = rm → a2.toInt = i → gAgr sn t n m i = gAgr sn t n rm.toNat 0 → (gq (d + 1) 13 2 [some (.inr (.inr (some (20, 0)))), some (.inl (a1)), some (.inl (a2))] [] (gwd S I J h) Q)
  | 0, i, a2, hi, h2, he => by
    have hr := hk.1
    rw [gb_13_2, if_pos (by rw [z_le, hn.1]; omega), gb_13_65]
    exact K 1 (Or.inr rfl) ⟨fun _ => by rw [← he]; rfl, fun _ => rfl⟩
  | m + 1, i, a2, hi, h2, he => by
    have hr := hk.1
    have e16 : (16 : Int32).toInt = 16 := rfl
    have e1 : (1 : Int32).toInt = 1 := rfl
    have en : a2.toNatClampNeg = i := by rw [z_n]; omega
    have hki := hk.2 i (by omega)
    have h3 := hc.2.2.2.1
    rw [gb_13_2, if_neg (by rw [z_le, hn.1]; omega), gb_13_10, if_neg (by rw [z_le]; omega), gb_13_16]
    refine ⟨g_in.mpr (by omega), ?_⟩
    rw [en, gb_13_22]
    have next : gAgr1 sn t n i = true → (gq (d + 1) 13 59 [some (.inr (.inr (some (20, 0)))), some (.inl (a1)), some (.inl (a2))] [] (gwd S I J h) Q) := fun ho => by
      rw [gb_13_59]
      refine m_agrees_loop hc hto hS hn hk h1 K m (i + 1) _ (by omega) (by rw [z_add (by omega) (by omega), h2, e1]; rfl) ?_
      rw [← he]; rw [show gAgr sn t n (m + 1) i = if gAgr1 sn t n i then gAgr sn t n m (i + 1) else false from rfl, ho]; rfl
    by_cases hq : sn (3 * i) = n
    case neg =>
      rw [if_neg (fun e => hq (by rw [← hn.2.1 i (by omega), e, h1]))]
      exact next (by simp [gAgr1, hq])
    rw [if_pos (z_inj (by rw [hn.2.1 i (by omega), h1, hq])), gb_13_26]
    refine ⟨g_in.mpr (by omega), ?_⟩
    have hh := hn.2.2.1 i (by omega)
    have hf := hn.2.2.2 i (by omega)
    have r5 := hto.2.2.2.2.2.1
    have s5 := hS.1 5 (by decide)
    have hb := z_bit (x := I 21 2 5) (a := I 24 0 i) (b := (sn (3 * i + 1)).toNat) (by omega) (by omega) (by omega) (by omega)
    rw [s5] at hb
    rw [en, gb_13_36, m_hasPassed, Option.toList_some, List.singleton_append, gb_13_39]
    refine ⟨g_in.mpr (by omega), ?_⟩
    rw [en, gb_13_45]
    have go : ∀ y : Int32, y = zb (sn (3 * i + 2) = 1) → (gq (d + 1) 13 54 [some (.inr (.inr (some (20, 0)))), some (.inl (a1)), some (.inl (a2))] [.inl (y), .inl ((zb (I 21 2 5 >>> (I 24 0 i &&& 31) &&& 1 = 1)))] (gwd S I J h) Q) := fun y hy => by
      rw [gb_13_54, hy]
      by_cases e1 : I 21 2 5 >>> (I 24 0 i &&& 31) &&& 1 = 1 <;> by_cases e2 : sn (3 * i + 2) = 1
      · rw [zb_pos e1, zb_pos e2, if_pos rfl]
        exact next (by simp [gAgr1, hq, hb.mp e1, e2])
      · rw [zb_pos e1, zb_neg e2, if_neg (by decide), gb_13_57]
        refine K 0 (Or.inl rfl) ⟨fun e => absurd e (by decide), fun e => ?_⟩
        rw [← he, show gAgr sn t n (m + 1) i = if gAgr1 sn t n i then gAgr sn t n m (i + 1) else false from rfl] at e
        simp [gAgr1, hq, hb.mp e1, e2] at e
      · have e1' : gBit (t 5) (sn (3 * i + 1)).toNat = false := by
          cases hx : gBit (t 5) (sn (3 * i + 1)).toNat
          · rfl
          · exact absurd (hb.mpr hx) e1
        rw [zb_neg e1, zb_pos e2, if_neg (by decide), gb_13_57]
        refine K 0 (Or.inl rfl) ⟨fun e => absurd e (by decide), fun e => ?_⟩
        rw [← he, show gAgr sn t n (m + 1) i = if gAgr1 sn t n i then gAgr sn t n m (i + 1) else false from rfl] at e
        simp [gAgr1, hq, e1', e2] at e
      · have e1' : gBit (t 5) (sn (3 * i + 1)).toNat = false := by
          cases hx : gBit (t 5) (sn (3 * i + 1)).toNat
          · rfl
          · exact absurd (hb.mpr hx) e1
        rw [zb_neg e1, zb_neg e2, if_pos rfl]
        exact next (by simp [gAgr1, hq, e1', e2])
    by_cases e2 : sn (3 * i + 2) = 1
    · rw [if_pos (z_inj (by rw [hf, e2, e1])), gb_13_49]
      exact go 1 (zb_pos e2).symm
    · rw [if_neg (fun e => e2 (by rw [← hf, e, e1])), gb_13_53]
      exact go 0 (zb_neg e2).symm
theorem m_agrees {C : gCo} {t : gSt} {sn : Nat → Int} {rm n : Int} {a1 : Int32} {x2 : Option gV} (hc : cOk C) (hto : tOk C t) (hS : kS I 2 t) (hn : kSn I sn rm) (hk : snOk C sn rm) (h1 : a1.toInt = n)
    (K : ∀ x, (x = 0 ∨ x = 1) → (x = 1 ↔ gAgr sn t n rm.toNat 0 = true) → Q (some (.inl x)) (gwd S I J h)) : (gq (d + 1) 13 0 [some (.inr (.inr (some (20, 0)))), some (.inl (a1)), x2] [] (gwd S I J h) Q) := by
  have hr := hk.1
  rw [gb_13_0]
  exact m_agrees_loop hc hto hS hn hk h1 K rm.toNat 0 0 (by omega) rfl rfl
theorem m_fit_loop {i1 i2 : Nat} {C : gCo} {sn : Nat → Int} {rm : Int} {a3 a4 a5 : Int32} (hc : cOk C) (hk : snOk C sn rm) : ∀ (m : Nat) (n : Int) (t : gSt) (f : Bool) (I : Nat → Nat → Nat → Int32) (a6 a7 : Int32), n + m = a3.toInt + 1 → 1 ≤ n → a3.toInt ≤ 30 → a7.toInt = n → (a6 = 0 ∨ a6 = 1) → (a6 = 1 ↔ f = true) → kCo I i1 C → tOk C t → kS I 2 t → kSn I sn rm →
    (∀ (I' : Nat → Nat → Nat → Int32) a6 a7, (∀ k i j, ¬ ((k = 14 ∧ i = i1 ∧ (j = 3 ∨ j = 4 ∨ j = 5 ∨ j = 6)) ∨ (k = 16 ∧ i = i1) ∨ (k = 18 ∧ i = i1) ∨ (k = 21 ∧ i = 2) ∨ (k = 22 ∧ i = 2)) → I' k i j = I k i j) → (a6 = 0 ∨ a6 = 1) → (a6 = 1 ↔ gFitL C sn rm m n t f = true) → (gq (d + 5) 12 154 [some (.inr (.inr (some (20, 0)))), some (.inr (.inr (some (34, i1)))), some (.inr (.inr (some (21, i2)))), some (.inl (a3)), some (.inl (a4)), some (.inl (a5)), some (.inl (a6)), some (.inl (a7))] [] (gwd S I' J h) Q)) → (gq (d + 5) 12 116 [some (.inr (.inr (some (20, 0)))), some (.inr (.inr (some (34, i1)))), some (.inr (.inr (some (21, i2)))), some (.inl (a3)), some (.inl (a4)), some (.inl (a5)), some (.inl (a6)), some (.inl (a7))] [] (gwd S I J h) Q)
  | 0, n, t, f, I, a6, a7, hn, hn1, h3, h7, h6, h6', hC, hto, hS, hs, K => by
    rw [gb_12_116, if_pos (by rw [z_lt]; omega)]
    exact K I _ _ (fun _ _ _ _ => rfl) h6 h6'
  | m + 1, n, t, f, I, a6, a7, hn, hn1, h3, h7, h6, h6', hC, hto, hS, hs, K => by
    have e1 : (1 : Int32).toInt = 1 := rfl
    rw [gb_12_116, if_neg (by rw [z_lt]; omega), gb_12_122]
    unfold gFitL at K
    by_cases hf : f = true
    · rw [if_neg (by rw [h6'.mpr hf]; decide), gb_12_127]
      refine m_runHour hc hC hto hS fun I1 x hF1 hS1 _ => ?_
      rw [Option.toList_some, List.singleton_append, gb_12_139]
      refine m_agrees hc (tOk_hour hc hto) hS1 (kSn_congr hs fun k j hj => hF1 _ _ _ (by omega)) hk h7 fun y hy hy1 => ?_
      rw [Option.toList_some, List.singleton_append, gb_12_146]
      rw [if_pos hf] at K
      exact m_fit_loop hc hk m (n + 1) (gHour C t) _ I1 _ _ (by omega) (by omega) h3 (by rw [z_add (by omega) (by omega), h7, e1]) hy hy1 (kCo_congr hC fun k j hj => hF1 _ _ _ (by omega)) (tOk_hour hc hto) hS1 (kSn_congr hs fun k j hj => hF1 _ _ _ (by omega)) fun I2 z6 z7 hF2 g1 g2 => K I2 z6 z7 (fun k i j hn => by rw [hF2 _ _ _ hn, hF1 _ _ _ hn]) g1 g2
    · rw [if_neg hf] at K
      rw [if_pos (h6.resolve_right fun e => hf (h6'.mp e))]
      exact K I _ _ (fun _ _ _ _ => rfl) h6 ⟨fun e => absurd (h6'.mp e) hf, fun e => by cases e⟩
theorem m_sift_loop {i1 i2 : Nat} {C : gCo} {t : gSt} {sn : Nat → Int} {rm : Int} {a3 a4 : Int32} (hc : cOk C) (hk : snOk C sn rm) (hto : tOk C t) (hne : i2 ≠ 2) (h3 : a3.toInt = gLast sn rm.toNat 0 0) (h4 : a4 = zb (t 0 + gLast sn rm.toNat 0 0 ≤ 999)) : ∀ (n v : Nat) (a : Int) (I : Nat → Nat → Nat → Int32) (a5 : Int32) (x6 x7 : Option gV), v + n = 100 → a5.toInt = v → (I 20 0 8).toInt = a → 0 ≤ a → a ≤ v → kCo I i1 C → kS I i2 t → kSn I sn rm →
    (∀ (I' : Nat → Nat → Nat → Int32), (∀ k i j, ¬ ((k = 14 ∧ i = i1 ∧ (j = 3 ∨ j = 4 ∨ j = 5 ∨ j = 6)) ∨ (k = 16 ∧ i = i1) ∨ (k = 18 ∧ i = i1) ∨ (k = 21 ∧ i = 2) ∨ (k = 22 ∧ i = 2) ∨ (k = 20 ∧ i = 0 ∧ j = 8) ∨ (k = 26 ∧ i = 0)) → I' k i j = I k i j) → (I' 20 0 8).toInt = gLeft (gFits C sn rm t) n v a → (∀ u, v ≤ u → u < 100 → (I' 26 0 u).toInt = if gFits C sn rm t u then 1 else 0) → (∀ u, u < v → I' 26 0 u = I 26 0 u) → Q none (gwd S I' J h)) → (gq (d + 5) 12 66 [some (.inr (.inr (some (20, 0)))), some (.inr (.inr (some (34, i1)))), some (.inr (.inr (some (21, i2)))), some (.inl (a3)), some (.inl (a4)), some (.inl (a5)), x6, x7] [] (gwd S I J h) Q)
  | 0, v, a, I, a5, x6, x7, hn, h5, h8, ha, hav, hC, hS, hs, K => by
    have e100 : (Int32.ofNat 100).toInt = 100 := rfl
    rw [gb_12_66, if_pos (by rw [z_le]; omega), gb_12_188]
    exact K I (fun _ _ _ _ => rfl) h8 (fun u h1 h2 => by omega) (fun _ _ => rfl)
  | n + 1, v, a, I, a5, x6, x7, hn, h5, h8, ha, hav, hC, hS, hs, K => by
    have e100 : (Int32.ofNat 100).toInt = 100 := rfl
    have e1 : (1 : Int32).toInt = 1 := rfl
    have hr := hk.1
    have hl := gLast_r hk (m := rm.toNat) (i := 0) (a := 0) (by omega) (by omega) (by omega)
    have en : a5.toNatClampNeg = v := by rw [z_n]; omega
    rw [gb_12_66, if_neg (by rw [z_le]; omega), gb_12_76]
    refine m_copy (fun e => hne e.symm) hS fun I1 hF1 hS1 => ?_
    rw [Option.toList_none, List.nil_append, gb_12_84]
    have hS2 : kS (gup I1 21 2 2 a5) 2 (sUp t 2 v) := kS_up2 hS1 h5
    have hto2 : tOk C (sUp t 2 v) := tOk_up2 hto v (by omega)
    have hs2 : kSn (gup I1 21 2 2 a5) sn rm := kSn_congr hs fun k j hj => by rw [u_ne (by omega), hF1 _ _ _ (by omega)]
    have hC2 : kCo (gup I1 21 2 2 a5) i1 C := kCo_congr hC fun k j hj => by rw [u_ne (by omega), hF1 _ _ _ (by omega)]
    have go : ∀ (f : Bool) (y : Int32), (y = 0 ∨ y = 1) → (y = 1 ↔ f = true) → f = (decide (t 0 + gLast sn rm.toNat 0 0 ≤ 999) && gAgr sn (sUp t 2 v) 0 rm.toNat 0) → (gq (d + 5) 12 111 [some (.inr (.inr (some (20, 0)))), some (.inr (.inr (some (34, i1)))), some (.inr (.inr (some (21, i2)))), some (.inl (a3)), some (.inl (a4)), some (.inl (a5)), x6, x7] [.inl (y)] (gwd S (gup I1 21 2 2 a5) J h) Q) := fun f y hy hy1 hf => by
      rw [gb_12_111]
      refine m_fit_loop hc hk (gLast sn rm.toNat 0 0).toNat 1 (sUp t 2 v) f _ _ _ (by omega) (by omega) (by omega) rfl hy hy1 hC2 hto2 hS2 hs2 fun I2 z6 z7 hF2 g1 g2 => ?_
      have g2' : z6 = 1 ↔ gFits C sn rm t v = true := by unfold gFits; rw [← hf]; exact g2
      have hF12 : (∀ k i j, ¬ ((k = 14 ∧ i = i1 ∧ (j = 3 ∨ j = 4 ∨ j = 5 ∨ j = 6)) ∨ (k = 16 ∧ i = i1) ∨ (k = 18 ∧ i = i1) ∨ (k = 21 ∧ i = 2) ∨ (k = 22 ∧ i = 2)) → I2 k i j = I k i j) := fun k i j hn => by rw [hF2 _ _ _ (by omega), u_ne (by omega), hF1 _ _ _ (by omega)]
      rw [gb_12_154]
      refine ⟨g_in.mpr (by omega), ?_⟩
      have ez : gnar 3 z6 = z6 := by rcases g1 with rfl | rfl <;> rfl
      rw [en, ez, gb_12_163]
      have f8 : (gup I2 26 0 v z6) 20 0 8 = I 20 0 8 := by rw [u_k (by decide), hF12 _ _ _ (by omega)]
      have fin : ∀ w : Int32, w.toInt = (if gFits C sn rm t v then 1 else 0) → (gq (d + 5) 12 178 [some (.inr (.inr (some (20, 0)))), some (.inr (.inr (some (34, i1)))), some (.inr (.inr (some (21, i2)))), some (.inl (a3)), some (.inl (a4)), some (.inl (a5)), some (.inl (z6)), some (.inl (z7))] [.inl (w), .inl (((gup I2 26 0 v z6) 20 0 8)), .inr (.inr (some (20, 0)))] (gwd S (gup I2 26 0 v z6) J h) Q) := fun w hw => by
        rw [gb_12_178, f8]
        have hw01 : 0 ≤ w.toInt ∧ w.toInt ≤ 1 := by rw [hw]; split <;> omega
        refine m_sift_loop hc hk hto hne h3 h4 n (v + 1) (a + if gFits C sn rm t v then 1 else 0) _ _ _ _ (by omega) (by rw [z_add (by omega) (by omega), h5, e1]; rfl) (by rw [u_eq, z_add (by omega) (by omega), h8, hw]) (by omega) (by omega) (kCo_congr hC fun k j hj => by rw [u_ne (by omega), u_ne (by omega), hF12 _ _ _ (by omega)]) (kS_congr hS (fun j => by rw [u_ne (by omega), u_ne (by omega), hF12 _ _ _ (by omega)]) (fun j => by rw [u_ne (by omega), u_ne (by omega), hF12 _ _ _ (by omega)])) (kSn_congr hs fun k j hj => by rw [u_ne (by omega), u_ne (by omega), hF12 _ _ _ (by omega)]) fun I3 hF3 q1 q2 q3 => K I3 (fun k i j hn => by rw [hF3 _ _ _ hn, u_ne (by omega), u_ne (by omega), hF12 _ _ _ (by omega)]) q1 (fun u h1 h2 => ?_) (fun u hu => ?_)
        · by_cases e : u = v
          · rw [e, q3 v (by omega), u_k (by decide), u_eq]
            rcases g1 with g1 | g1
            · have : gFits C sn rm t v = false := by
                cases hx : gFits C sn rm t v
                · rfl
                · rw [g2'.mpr hx] at g1; exact absurd g1 (by decide)
              rw [g1, this]; rfl
            · rw [g1, g2'.mp g1]; rfl
          · exact q2 u (by omega) h2
        · rw [q3 u (by omega), u_k (by decide), u_j (by omega), hF12 _ _ _ (by omega)]
      by_cases hz : z6 = 0
      · have hx : gFits C sn rm t v = false := by
          cases hx : gFits C sn rm t v
          · rfl
          · rw [g2'.mpr hx] at hz; exact absurd hz (by decide)
        rw [if_pos hz, gb_12_177]
        exact fin 0 (by rw [hx]; rfl)
      · have hx : gFits C sn rm t v = true := g2'.mp (g1.resolve_left hz)
        rw [if_neg hz, gb_12_173]
        exact fin 1 (by rw [hx]; rfl)
    by_cases hcm : t 0 + gLast sn rm.toNat 0 0 ≤ 999
    · rw [if_neg (by rw [h4, zb_pos hcm]; decide), gb_12_98]
      refine m_agrees hc hto2 hS2 hs2 hk z_0 fun y hy hy1 => ?_
      rw [Option.toList_some, List.singleton_append, gb_12_103]
      have e2 : (decide (t 0 + gLast sn rm.toNat 0 0 ≤ 999) && gAgr sn (sUp t 2 v) 0 rm.toNat 0) = gAgr sn (sUp t 2 v) 0 rm.toNat 0 := by rw [decide_eq_true hcm]; rfl
      by_cases hz : y = 0
      · have hx : gAgr sn (sUp t 2 v) 0 rm.toNat 0 = false := by
          cases hx : gAgr sn (sUp t 2 v) 0 rm.toNat 0
          · rfl
          · rw [hy1.mpr hx] at hz; exact absurd hz (by decide)
        rw [if_pos hz, gb_12_110]
        exact go false 0 (Or.inl rfl) ⟨fun e => absurd e (by decide), fun e => by cases e⟩ (by rw [e2, hx])
      · rw [if_neg hz, gb_12_106]
        exact go true 1 (Or.inr rfl) ⟨fun _ => rfl, fun _ => rfl⟩ (by rw [e2, hy1.mp (hy.resolve_left hz)])
    · rw [if_pos (by rw [h4, zb_neg hcm]), gb_12_110]
      exact go false 0 (Or.inl rfl) ⟨fun e => absurd e (by decide), fun e => by cases e⟩ (by rw [decide_eq_false hcm]; rfl)
theorem m_last_loop {i1 i2 : Nat} {C : gCo} {sn : Nat → Int} {rm : Int} (hk : snOk C sn rm) (hs : kSn I sn rm) {x5 x6 x7 : Option gV} (K : ∀ a3 a4 : Int32, a3.toInt = gLast sn rm.toNat 0 0 → (gq (d + 5) 12 39 [some (.inr (.inr (some (20, 0)))), some (.inr (.inr (some (34, i1)))), some (.inr (.inr (some (21, i2)))), some (.inl (a3)), some (.inl (a4)), x5, x6, x7] [] (gwd S I J h) Q)) : ∀ (m i : Nat) (a : Int) (a3 a4 : Int32), ((i + m : Nat) : Int) = rm → a4.toInt = i → a3.toInt = a → gLast sn m i a = gLast sn rm.toNat 0 0 → (gq (d + 5) 12 5 [some (.inr (.inr (some (20, 0)))), some (.inr (.inr (some (34, i1)))), some (.inr (.inr (some (21, i2)))), some (.inl (a3)), some (.inl (a4)), x5, x6, x7] [] (gwd S I J h) Q)
  | 0, i, a, a3, a4, hi, h4, h3, he => by
    have hr := hk.1
    rw [gb_12_5, if_pos (by rw [z_le, hs.1]; omega)]
    exact K a3 a4 (by rw [h3, ← he]; rfl)
  | m + 1, i, a, a3, a4, hi, h4, h3, he => by
    have hr := hk.1
    have e16 : (16 : Int32).toInt = 16 := rfl
    have e1 : (1 : Int32).toInt = 1 := rfl
    have en : a4.toNatClampNeg = i := by rw [z_n]; omega
    rw [gb_12_5, if_neg (by rw [z_le, hs.1]; omega), gb_12_14, if_neg (by rw [z_le]; omega), gb_12_21]
    refine ⟨g_in.mpr (by omega), ?_⟩
    rw [en, gb_12_29, m_max, Option.toList_some, List.singleton_append, gb_12_32]
    exact m_last_loop hk hs K m (i + 1) _ _ _ (by omega) (by rw [z_add (by omega) (by omega), h4, e1]; rfl) (by rw [zmax_i, h3, hs.2.1 i (by omega)]) he
/-- what sift lays -/
def kFit (I : Nat → Nat → Nat → Int32) (f : Nat → Bool) : Prop := (I 20 0 8).toInt = gLeft f 100 0 0 ∧ ∀ u, u < 100 → (I 26 0 u).toInt = if f u then 1 else 0
theorem m_sift {i1 i2 : Nat} {x3 x4 x5 x6 x7 : Option gV} {C : gCo} {t : gSt} {sn : Nat → Int} {rm : Int} (hc : cOk C) (hC : kCo I i1 C) (hto : tOk C t) (hS : kS I i2 t) (hk : snOk C sn rm) (hs : kSn I sn rm) (hne : i2 ≠ 2)
    (K : ∀ (I' : Nat → Nat → Nat → Int32), (∀ k i j, ¬ ((k = 14 ∧ i = i1 ∧ (j = 3 ∨ j = 4 ∨ j = 5 ∨ j = 6)) ∨ (k = 16 ∧ i = i1) ∨ (k = 18 ∧ i = i1) ∨ (k = 21 ∧ i = 2) ∨ (k = 22 ∧ i = 2) ∨ (k = 20 ∧ i = 0 ∧ j = 8) ∨ (k = 26 ∧ i = 0)) → I' k i j = I k i j) → kFit I' (gFits C sn rm t) → Q none (gwd S I' J h)) : (gq (d + 5) 12 0 [some (.inr (.inr (some (20, 0)))), some (.inr (.inr (some (34, i1)))), some (.inr (.inr (some (21, i2)))), x3, x4, x5, x6, x7] [] (gwd S I J h) Q) := by
  have hr := hk.1
  have r0 := hto.1
  have s0 := hS.1 0 (by decide)
  have e999 : (999 : Int32).toInt = 999 := rfl
  have hl := gLast_r hk (m := rm.toNat) (i := 0) (a := 0) (by omega) (by omega) (by omega)
  rw [gb_12_0]
  refine m_last_loop hk hs (fun a3 a4 h3 => ?_) rm.toNat 0 0 0 0 (by omega) rfl rfl rfl
  rw [gb_12_39]
  have go : ∀ y : Int32, y = zb (t 0 + gLast sn rm.toNat 0 0 ≤ 999) → (gq (d + 5) 12 56 [some (.inr (.inr (some (20, 0)))), some (.inr (.inr (some (34, i1)))), some (.inr (.inr (some (21, i2)))), some (.inl (a3)), some (.inl (a4)), x5, x6, x7] [.inl (y)] (gwd S I J h) Q) := fun y hy => by
    rw [gb_12_56]
    refine m_sift_loop hc hk hto hne h3 hy 100 0 0 _ _ _ _ rfl rfl (by rw [u_eq]; rfl) (by omega) (by omega) (kCo_congr hC fun k j hj => u_ne (by omega)) (kS_congr hS (fun j => u_ne (by omega)) (fun j => u_ne (by omega))) (kSn_congr hs fun k j hj => u_ne (by omega)) fun I2 hF2 g1 g2 _ => K I2 (fun k i j hn => by rw [hF2 _ _ _ hn, u_ne (by omega)]) ⟨g1, fun u hu => g2 u (by omega) hu⟩
  have ea : (I 21 i2 0 + a3).toInt = t 0 + gLast sn rm.toNat 0 0 := by rw [z_add (by omega) (by omega), s0, h3]
  by_cases hcm : t 0 + gLast sn rm.toNat 0 0 ≤ 999
  · rw [if_neg (by rw [z_lt]; omega), gb_12_51]
    exact go 1 (zb_pos hcm).symm
  · rw [if_pos (by rw [z_lt]; omega), gb_12_55]
    exact go 0 (zb_neg hcm).symm
