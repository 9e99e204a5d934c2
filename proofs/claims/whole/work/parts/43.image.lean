/-! The class: images. -/
def kIm (I : Nat → Nat → Nat → Int32) (im : Nat → Int) (sz : Int) : Prop := (I 31 0 1).toInt = sz ∧ ∀ j : Nat, (j : Int) < sz → (I 32 0 j).toInt = im j
def gBi (m : Int) (b : Nat) : Int := if gBit m b then 1 else 0
def gIm (B : Nat) (t : gSt) (j : Nat) : Int := if j = 0 then t 0 / 256 else if j = 1 then t 0 % 256 else if j = 2 then t 1 else if j = 3 then t 2 else if j = 4 then (if t 3 = -1 then 255 else t 3) else if j < 5 + 2 * B then (if j % 2 = 1 then t (10 + (j - 5) / 2) else gBi (t 4) ((j - 5) / 2)) else gBi (t 5) (j - 5 - 2 * B)
def gImF (B H : Nat) (t : gSt) (j : Nat) : Int := if j < 5 + 2 * B + H then gIm B t j else gSum (gIm B t) (5 + 2 * B + H) 0 199
theorem gSum_congr {f g : Nat → Int} : ∀ {n i : Nat} {c : Int}, (∀ j, i ≤ j → j < i + n → f j = g j) → gSum f n i c = gSum g n i c
  | 0, _, _, _ => rfl
  | n + 1, i, c, h => by
    unfold gSum
    rw [h i (by omega) (by omega)]
    exact gSum_congr (fun j h1 h2 => h j (by omega) (by omega))
variable {d S : Nat} {h : Nat × Option gNm} {I : Nat → Nat → Nat → Int32} {J : Nat → Nat → Nat → Int64} {Q : Option gV → gW → Prop}
theorem m_add {a1 : Int32} {im : Nat → Int} {n : Nat} (hi : kIm I im n) (hn : n < 30) (hx : a1.toInt = im n) (K : ∀ (I' : Nat → Nat → Nat → Int32), (∀ k i j, ¬ ((k = 31 ∧ i = 0) ∨ (k = 32 ∧ i = 0)) → I' k i j = I k i j) → kIm I' im ((n + 1 : Nat) : Int) → Q none (gwd S I' J h)) : (gq d 65 0 [some (.inr (.inr (some (31, 0)))), some (.inl (a1))] [] (gwd S I J h) Q) := by
  have e30 : (Int32.ofNat 30).toInt = 30 := rfl
  have e1 : (1 : Int32).toInt = 1 := rfl
  have h1 := hi.1
  have en : (I 31 0 1).toNatClampNeg = n := by rw [z_n]; omega
  rw [gb_65_0, if_neg (by rw [z_lt, z_0]; omega), gb_65_7, if_neg (by rw [z_le]; omega), gb_65_19]
  refine ⟨g_in.mpr (by omega), ?_⟩
  rw [en, gb_65_29, gb_65_39]
  refine K _ (fun k i j hn => by rw [u_ne (by omega), u_ne (by omega)]) ⟨?_, fun j hj => ?_⟩
  · rw [u_eq, u_k (by decide), z_add (by omega) (by omega), h1, e1]; rfl
  · rw [u_k (by decide), u_at]
    by_cases e : j = n
    · rw [if_pos e, e]; exact hx
    · rw [if_neg e]; exact hi.2 j (by omega)
theorem m_finish_loop {im : Nat → Int} {n : Nat} (hi : kIm I im n) (hn : n ≤ 29) (hr : ∀ j, j < n → 0 ≤ im j ∧ im j ≤ 1000) (K : ∀ a1 a2 : Int32, a1.toInt = gSum im n 0 199 → (gq (d + 1) 66 44 [some (.inr (.inr (some (31, 0)))), some (.inl (a1)), some (.inl (a2))] [] (gwd S I J h) Q)) : ∀ (m i : Nat) (c : Int) (a1 a2 : Int32), i + m = n → a2.toInt = i → a1.toInt = c → 0 ≤ c → c ≤ 250 → gSum im m i c = gSum im n 0 199 → (gq (d + 1) 66 6 [some (.inr (.inr (some (31, 0)))), some (.inl (a1)), some (.inl (a2))] [] (gwd S I J h) Q)
  | 0, i, c, a1, a2, hm, h2, h1, hc0, hc1, he => by
    have g1 := hi.1
    rw [gb_66_6, if_pos (by rw [z_le]; omega)]
    exact K _ _ (by rw [h1, ← he]; rfl)
  | m + 1, i, c, a1, a2, hm, h2, h1, hc0, hc1, he => by
    have e30 : (Int32.ofNat 30).toInt = 30 := rfl
    have e1 : (1 : Int32).toInt = 1 := rfl
    have e3 : (3 : Int32).toInt = 3 := rfl
    have e251 : (251 : Int32).toInt = 251 := rfl
    have g1 := hi.1
    have gi := hi.2 i (by omega)
    have gr := hr i (by omega)
    have en : a2.toNatClampNeg = i := by rw [z_n]; omega
    have q0 : (3 * a1).toInt = 3 * c := by rw [z_mul (by rw [h1, e3]; omega) (by rw [h1, e3]; omega), h1, e3]
    have q1 : (3 * a1 + I 32 0 i).toInt = 3 * c + im i := by rw [z_add (by omega) (by omega), q0, gi]
    rw [gb_66_6, if_neg (by rw [z_le]; omega), gb_66_14, if_neg (by rw [z_le]; omega), gb_66_23]
    refine ⟨g_in.mpr (by omega), ?_⟩
    rw [en, gb_66_32]
    refine m_finish_loop hi hn hr K m (i + 1) ((3 * c + im i) % 251) _ _ (by omega) (by rw [z_add (by omega) (by omega), h2, e1]; rfl) ?_ (by omega) (by omega) he
    rw [z_rem (by omega) (by omega), q1, e251]
theorem m_finish {x1 x2 : Option gV} {im : Nat → Int} {n : Nat} (hi : kIm I im n) (hn : n ≤ 29) (hr : ∀ j, j < n → 0 ≤ im j ∧ im j ≤ 1000) (hf : im n = gSum im n 0 199) (K : ∀ (I' : Nat → Nat → Nat → Int32), (∀ k i j, ¬ ((k = 31 ∧ i = 0) ∨ (k = 32 ∧ i = 0)) → I' k i j = I k i j) → kIm I' im ((n + 1 : Nat) : Int) → Q none (gwd S I' J h)) : (gq (d + 1) 66 0 [some (.inr (.inr (some (31, 0)))), x1, x2] [] (gwd S I J h) Q) := by
  rw [gb_66_0]
  refine m_finish_loop hi hn hr (fun a1 a2 h1 => ?_) n 0 199 _ _ (by omega) rfl rfl (by omega) (by omega) rfl
  rw [gb_66_44]
  refine m_add hi (by omega) (by rw [h1, hf]) fun I1 hF1 hi1 => ?_
  rw [Option.toList_none, List.nil_append, gb_66_49]
  exact K I1 hF1 hi1
theorem m_drawHead {a1 a2 a3 a4 : Int32} {B H : Nat} {t : gSt} (h1 : a1.toInt = t 0) (h2 : a2.toInt = t 1) (h3 : a3.toInt = t 2) (h4 : a4.toInt = if t 3 = -1 then 255 else t 3) (h0 : 0 ≤ t 0) (K : ∀ (I' : Nat → Nat → Nat → Int32), (∀ k i j, ¬ ((k = 31 ∧ i = 0) ∨ (k = 32 ∧ i = 0)) → I' k i j = I k i j) → kIm I' (gImF B H t) ((5 : Nat) : Int) → Q none (gwd S I' J h)) : (gq (d + 1) 64 0 [some (.inr (.inr (some (31, 0)))), some (.inl (a1)), some (.inl (a2)), some (.inl (a3)), some (.inl (a4))] [] (gwd S I J h) Q) := by
  have e256 : (256 : Int32).toInt = 256 := rfl
  have g : ∀ j, j < 5 → gImF B H t j = gIm B t j := fun j hj => if_pos (by omega)
  rw [gb_64_0]
  refine m_add (im := gImF B H t) (n := 0) ⟨by rw [u_eq]; rfl, fun j hj => by omega⟩ (by decide) (by rw [g 0 (by decide), z_div (by omega) (by omega), h1, e256]; rfl) fun I1 hF1 i1 => ?_
  rw [Option.toList_none, List.nil_append, gb_64_14]
  refine m_add (n := 1) i1 (by decide) (by rw [g 1 (by decide), z_rem (by omega) (by omega), h1, e256]; rfl) fun I2 hF2 i2 => ?_
  rw [Option.toList_none, List.nil_append, gb_64_23]
  refine m_add (n := 2) i2 (by decide) (by rw [g 2 (by decide), h2]; rfl) fun I3 hF3 i3 => ?_
  rw [Option.toList_none, List.nil_append, gb_64_28]
  refine m_add (n := 3) i3 (by decide) (by rw [g 3 (by decide), h3]; rfl) fun I4 hF4 i4 => ?_
  rw [Option.toList_none, List.nil_append, gb_64_33]
  refine m_add (n := 4) i4 (by decide) (by rw [g 4 (by decide), h4]; rfl) fun I5 hF5 i5 => ?_
  rw [Option.toList_none, List.nil_append, gb_64_39]
  exact K I5 (fun k i j hn => by rw [hF5 _ _ _ hn, hF4 _ _ _ hn, hF3 _ _ _ hn, hF2 _ _ _ hn, hF1 _ _ _ hn, u_ne (by omega)]) i5
theorem gBi_r {m : Int} {b : Nat} : 0 ≤ gBi m b ∧ gBi m b ≤ 1 := by unfold gBi; split <;> omega
theorem gIm_r {C : gCo} {B : Nat} {t : gSt} (hc : cOk C) (ht : tOk C t) (hB : (B : Int) = C.1 2) (j : Nat) : 0 ≤ gIm B t j ∧ gIm B t j ≤ 1000 := by
  obtain ⟨r0, r1, r2, r3, r4, r5, r6⟩ := ht
  have rM := hc.2.1
  have rB := hc.2.2.1
  unfold gIm
  split
  · omega
  split
  · omega
  split
  · omega
  split
  · omega
  split
  · split <;> omega
  split
  · split
    · have := r6 ((j - 5) / 2) (by omega); omega
    · have := @gBi_r (t 4) ((j - 5) / 2); omega
  · have := @gBi_r (t 5) (j - 5 - 2 * B); omega
theorem gImF_sum {B H : Nat} {t : gSt} : gImF B H t (5 + 2 * B + H) = gSum (gImF B H t) (5 + 2 * B + H) 0 199 := by
  rw [show gImF B H t (5 + 2 * B + H) = gSum (gIm B t) (5 + 2 * B + H) 0 199 from if_neg (by omega)]
  exact gSum_congr fun j _ hj => (if_pos (show j < 5 + 2 * B + H by omega)).symm
def gT0 : gSt := fun j => if j = 3 then -1 else 0
theorem m_drawNothing (K : ∀ (I' : Nat → Nat → Nat → Int32), (∀ k i j, ¬ ((k = 31 ∧ i = 0) ∨ (k = 32 ∧ i = 0)) → I' k i j = I k i j) → kIm I' (gImF 0 0 gT0) 6 → Q none (gwd S I' J h)) : (gq (d + 2) 58 0 [some (.inr (.inr (some (31, 0))))] [] (gwd S I J h) Q) := by
  rw [gb_58_0]
  refine m_drawHead (B := 0) (H := 0) (t := gT0) rfl rfl rfl rfl (by decide) fun I1 hF1 i1 => ?_
  rw [Option.toList_none, List.nil_append, gb_58_10]
  refine m_finish (n := 5) i1 (by decide) (fun j hj => ?_) (gImF_sum (B := 0) (H := 0)) fun I2 hF2 i2 => ?_
  · have e : j = 0 ∨ j = 1 ∨ j = 2 ∨ j = 3 ∨ j = 4 := by omega
    rcases e with rfl | rfl | rfl | rfl | rfl <;> decide
  · rw [Option.toList_none, List.nil_append, gb_58_14]
    exact K I2 (fun k i j hn => by rw [hF2 _ _ _ hn, hF1 _ _ _ hn]) i2
theorem m_draw_b {i1 i2 B H : Nat} {C : gCo} {t : gSt} (hc : cOk C) (hB : (B : Int) = C.1 2) (hH : (H : Int) = C.1 3) (hto : tOk C t) : ∀ (n b : Nat) (I : Nat → Nat → Nat → Int32) (a3 : Int32), b + n = B → a3.toInt = b → kCo I i1 C → kS I i2 t → kIm I (gImF B H t) ((5 + 2 * b : Nat) : Int) →
    (∀ (I' : Nat → Nat → Nat → Int32) a3, (∀ k i j, ¬ ((k = 31 ∧ i = 0) ∨ (k = 32 ∧ i = 0)) → I' k i j = I k i j) → kIm I' (gImF B H t) ((5 + 2 * B : Nat) : Int) → (gq (d + 2) 59 83 [some (.inr (.inr (some (31, 0)))), some (.inr (.inr (some (34, i1)))), some (.inr (.inr (some (21, i2)))), some (.inl (a3))] [] (gwd S I' J h) Q)) → (gq (d + 2) 59 36 [some (.inr (.inr (some (31, 0)))), some (.inr (.inr (some (34, i1)))), some (.inr (.inr (some (21, i2)))), some (.inl (a3))] [] (gwd S I J h) Q)
  | 0, b, I, a3, hn, h3, hC, hS, hi, K => by
    have c2 := hC.1 2 (by decide)
    rw [gb_59_36, if_pos (by rw [z_le]; omega)]
    exact K I _ (fun _ _ _ _ => rfl) (by rw [show b = B by omega] at hi; exact hi)
  | n + 1, b, I, a3, hn, h3, hC, hS, hi, K => by
    have e8 : (8 : Int32).toInt = 8 := rfl
    have e1 : (1 : Int32).toInt = 1 := rfl
    have c2 := hC.1 2 (by decide)
    have rB := hc.2.2.1
    have rH := hc.2.2.2.1
    have r4 := hto.2.2.2.2.1
    have en : a3.toNatClampNeg = b := by rw [z_n]; omega
    have sb := hS.2 b (by omega)
    rw [gb_59_36, if_neg (by rw [z_le]; omega), gb_59_44, if_neg (by rw [z_le]; omega), gb_59_50]
    refine ⟨g_in.mpr (by omega), ?_⟩
    rw [en, gb_59_57]
    have v1 : gImF B H t (5 + 2 * b) = t (10 + b) := by
      unfold gImF gIm
      rw [if_pos (by omega), if_neg (by omega), if_neg (by omega), if_neg (by omega), if_neg (by omega), if_neg (by omega), if_pos (by omega), if_pos (by omega), show (5 + 2 * b - 5) / 2 = b by omega]
    have v2 : gImF B H t (5 + 2 * b + 1) = gBi (t 4) b := by
      unfold gImF gIm
      rw [if_pos (by omega), if_neg (by omega), if_neg (by omega), if_neg (by omega), if_neg (by omega), if_neg (by omega), if_pos (by omega), if_neg (by omega), show (5 + 2 * b + 1 - 5) / 2 = b by omega]
    refine m_add hi (by omega) (by rw [v1]; exact sb) fun I1 hF1 hi1 => ?_
    have s4 : (I1 21 i2 4).toInt = t 4 := by rw [hF1 _ _ _ (by omega)]; exact hS.1 4 (by decide)
    have hb := z_bit (x := I1 21 i2 4) (a := a3) (b := b) (by omega) (by omega) h3 (by omega)
    rw [s4] at hb
    rw [Option.toList_none, List.nil_append, gb_59_60, m_isAside, Option.toList_some, List.singleton_append, gb_59_66]
    have go : ∀ y : Int32, y.toInt = gBi (t 4) b → (gq (d + 2) 59 74 [some (.inr (.inr (some (31, 0)))), some (.inr (.inr (some (34, i1)))), some (.inr (.inr (some (21, i2)))), some (.inl (a3))] [.inl (y), .inr (.inr (some (31, 0)))] (gwd S I1 J h) Q) := fun y hy => by
      rw [gb_59_74]
      refine m_add hi1 (by omega) (by rw [v2]; exact hy) fun I2 hF2 hi2 => ?_
      rw [Option.toList_none, List.nil_append, gb_59_77]
      exact m_draw_b hc hB hH hto n (b + 1) I2 _ (by omega) (by rw [z_add (by omega) (by omega), h3, e1]; rfl) (kCo_congr hC fun k j hk => by rw [hF2 _ _ _ (by omega), hF1 _ _ _ (by omega)]) (kS_congr hS (fun j => by rw [hF2 _ _ _ (by omega), hF1 _ _ _ (by omega)]) (fun j => by rw [hF2 _ _ _ (by omega), hF1 _ _ _ (by omega)])) (by rw [show 5 + 2 * (b + 1) = 5 + 2 * b + 1 + 1 by omega]; exact hi2) fun I3 z3 hF3 g => K I3 z3 (fun k i j hn => by rw [hF3 _ _ _ hn, hF2 _ _ _ hn, hF1 _ _ _ hn]) g
    by_cases hz : gBit (t 4) b = true
    · rw [if_neg (by rw [zb_0]; exact fun e => e (hb.mpr hz)), gb_59_69]
      exact go 1 (by unfold gBi; rw [if_pos hz]; rfl)
    · rw [if_pos (by rw [zb_0]; exact fun e => hz (hb.mp e)), gb_59_73]
      exact go 0 (by unfold gBi; rw [if_neg hz]; rfl)
theorem m_draw_h {i1 i2 B H : Nat} {C : gCo} {t : gSt} (hc : cOk C) (hB : (B : Int) = C.1 2) (hH : (H : Int) = C.1 3) (hto : tOk C t) : ∀ (n b : Nat) (I : Nat → Nat → Nat → Int32) (a3 : Int32), b + n = H → a3.toInt = b → kCo I i1 C → kS I i2 t → kIm I (gImF B H t) ((5 + 2 * B + b : Nat) : Int) →
    (∀ (I' : Nat → Nat → Nat → Int32) a3, (∀ k i j, ¬ ((k = 31 ∧ i = 0) ∨ (k = 32 ∧ i = 0)) → I' k i j = I k i j) → kIm I' (gImF B H t) ((5 + 2 * B + H : Nat) : Int) → (gq (d + 2) 59 116 [some (.inr (.inr (some (31, 0)))), some (.inr (.inr (some (34, i1)))), some (.inr (.inr (some (21, i2)))), some (.inl (a3))] [] (gwd S I' J h) Q)) → (gq (d + 2) 59 85 [some (.inr (.inr (some (31, 0)))), some (.inr (.inr (some (34, i1)))), some (.inr (.inr (some (21, i2)))), some (.inl (a3))] [] (gwd S I J h) Q)
  | 0, b, I, a3, hn, h3, hC, hS, hi, K => by
    have c3 := hC.1 3 (by decide)
    rw [gb_59_85, if_pos (by rw [z_le]; omega)]
    exact K I _ (fun _ _ _ _ => rfl) (by rw [show b = H by omega] at hi; exact hi)
  | n + 1, b, I, a3, hn, h3, hC, hS, hi, K => by
    have e1 : (1 : Int32).toInt = 1 := rfl
    have c3 := hC.1 3 (by decide)
    have rB := hc.2.2.1
    have rH := hc.2.2.2.1
    have r5 := hto.2.2.2.2.2.1
    have s5 := hS.1 5 (by decide)
    have hb := z_bit (x := I 21 i2 5) (a := a3) (b := b) (by omega) (by omega) h3 (by omega)
    rw [s5] at hb
    have v1 : gImF B H t (5 + 2 * B + b) = gBi (t 5) b := by
      unfold gImF gIm
      rw [if_pos (by omega), if_neg (by omega), if_neg (by omega), if_neg (by omega), if_neg (by omega), if_neg (by omega), if_neg (by omega), show 5 + 2 * B + b - 5 - 2 * B = b by omega]
    rw [gb_59_85, if_neg (by rw [z_le]; omega), gb_59_93, m_hasPassed, Option.toList_some, List.singleton_append, gb_59_99]
    have go : ∀ y : Int32, y.toInt = gBi (t 5) b → (gq (d + 2) 59 107 [some (.inr (.inr (some (31, 0)))), some (.inr (.inr (some (34, i1)))), some (.inr (.inr (some (21, i2)))), some (.inl (a3))] [.inl (y), .inr (.inr (some (31, 0)))] (gwd S I J h) Q) := fun y hy => by
      rw [gb_59_107]
      refine m_add hi (by omega) (by rw [v1]; exact hy) fun I2 hF2 hi2 => ?_
      rw [Option.toList_none, List.nil_append, gb_59_110]
      exact m_draw_h hc hB hH hto n (b + 1) I2 _ (by omega) (by rw [z_add (by omega) (by omega), h3, e1]; rfl) (kCo_congr hC fun k j hk => hF2 _ _ _ (by omega)) (kS_congr hS (fun j => hF2 _ _ _ (by omega)) (fun j => hF2 _ _ _ (by omega))) hi2 fun I3 z3 hF3 g => K I3 z3 (fun k i j hn => by rw [hF3 _ _ _ hn, hF2 _ _ _ hn]) g
    by_cases hz : gBit (t 5) b = true
    · rw [if_neg (by rw [zb_0]; exact fun e => e (hb.mpr hz)), gb_59_102]
      exact go 1 (by unfold gBi; rw [if_pos hz]; rfl)
    · rw [if_pos (by rw [zb_0]; exact fun e => hz (hb.mp e)), gb_59_106]
      exact go 0 (by unfold gBi; rw [if_neg hz]; rfl)
theorem m_draw {i1 i2 : Nat} {x3 : Option gV} {C : gCo} {t : gSt} (hc : cOk C) (hC : kCo I i1 C) (hto : tOk C t) (hS : kS I i2 t) (K : ∀ (I' : Nat → Nat → Nat → Int32), (∀ k i j, ¬ ((k = 31 ∧ i = 0) ∨ (k = 32 ∧ i = 0)) → I' k i j = I k i j) → kIm I' (gImF (C.1 2).toNat (C.1 3).toNat t) (6 + 2 * C.1 2 + C.1 3) → Q none (gwd S I' J h)) : (gq (d + 2) 59 0 [some (.inr (.inr (some (31, 0)))), some (.inr (.inr (some (34, i1)))), some (.inr (.inr (some (21, i2)))), x3] [] (gwd S I J h) Q) := by
  have e255 : (255 : Int32).toInt = 255 := rfl
  have rB := hc.2.2.1
  have rH := hc.2.2.2.1
  have s0 := hS.1 0 (by decide)
  have s1 := hS.1 1 (by decide)
  have s2 := hS.1 2 (by decide)
  have s3 := hS.1 3 (by decide)
  rw [gb_59_0, gb_59_18]
  have go : ∀ y : Int32, y.toInt = (if t 3 = -1 then 255 else t 3) → (gq (d + 2) 59 31 [some (.inr (.inr (some (31, 0)))), some (.inr (.inr (some (34, i1)))), some (.inr (.inr (some (21, i2)))), x3] [.inl (y), .inl ((I 21 i2 2)), .inl ((I 21 i2 1)), .inl ((I 21 i2 0)), .inr (.inr (some (31, 0)))] (gwd S I J h) Q) := fun y hy => by
    rw [gb_59_31]
    refine m_drawHead (B := (C.1 2).toNat) (H := (C.1 3).toNat) (t := t) s0 s1 s2 hy hto.1.1 fun I1 hF1 hi1 => ?_
    rw [Option.toList_none, List.nil_append, gb_59_34]
    refine m_draw_b (B := (C.1 2).toNat) (H := (C.1 3).toNat) hc (by omega) (by omega) hto (C.1 2).toNat 0 I1 _ (by omega) rfl (kCo_congr hC fun k j hk => hF1 _ _ _ (by omega)) (kS_congr hS (fun j => hF1 _ _ _ (by omega)) (fun j => hF1 _ _ _ (by omega))) hi1 fun I2 a3 hF2 hi2 => ?_
    rw [gb_59_83]
    refine m_draw_h (B := (C.1 2).toNat) (H := (C.1 3).toNat) hc (by omega) (by omega) hto (C.1 3).toNat 0 I2 _ (by omega) rfl (kCo_congr hC fun k j hk => by rw [hF2 _ _ _ (by omega), hF1 _ _ _ (by omega)]) (kS_congr hS (fun j => by rw [hF2 _ _ _ (by omega), hF1 _ _ _ (by omega)]) (fun j => by rw [hF2 _ _ _ (by omega), hF1 _ _ _ (by omega)])) hi2 fun I3 a3 hF3 hi3 => ?_
    rw [gb_59_116]
    refine m_finish hi3 (by omega) (fun j hj => ?_) gImF_sum fun I4 hF4 hi4 => ?_
    · rw [show gImF (C.1 2).toNat (C.1 3).toNat t j = gIm (C.1 2).toNat t j from if_pos hj]
      exact gIm_r hc hto (by omega) j
    · rw [Option.toList_none, List.nil_append, gb_59_120]
      refine K I4 (fun k i j hn => by rw [hF4 _ _ _ hn, hF3 _ _ _ hn, hF2 _ _ _ hn, hF1 _ _ _ hn]) ?_
      rw [show (6 + 2 * C.1 2 + C.1 3 : Int) = ((5 + 2 * (C.1 2).toNat + (C.1 3).toNat + 1 : Nat) : Int) by omega]
      exact hi4
  by_cases hz : t 3 = -1
  · rw [if_pos (z_inj (by rw [s3, hz, z_m1])), gb_59_21]
    exact go 255 (by rw [if_pos hz]; rfl)
  · rw [if_neg (fun e => hz (by rw [← s3, e, z_m1])), gb_59_27]
    exact go _ (by rw [if_neg hz]; exact s3)
theorem m_octet {a1 : Int32} {im : Nat → Int} {sz : Int} (hi : kIm I im sz) (hsz : 0 ≤ sz ∧ sz ≤ 30) (K : ∀ x, x.toInt = (if 0 ≤ a1.toInt ∧ a1.toInt < sz then im a1.toInt.toNat else -1) → Q (some (.inl x)) (gwd S I J h)) : (gq d 57 0 [some (.inr (.inr (some (31, 0)))), some (.inl (a1))] [] (gwd S I J h) Q) := by
  have e30 : (Int32.ofNat 30).toInt = 30 := rfl
  have h1 := hi.1
  rw [gb_57_0]
  by_cases w0 : 0 ≤ a1.toInt
  case neg =>
    rw [if_pos (by rw [z_lt, z_0]; omega), gb_57_30, gb_57_31]
    exact K _ (by rw [if_neg (fun e => w0 e.1)]; rfl)
  rw [if_neg (by rw [z_lt, z_0]; omega), gb_57_4]
  by_cases w1 : a1.toInt < sz
  case neg =>
    rw [if_pos (by rw [z_le]; omega), gb_57_30, gb_57_31]
    exact K _ (by rw [if_neg (fun e => w1 e.2)]; rfl)
  rw [if_neg (by rw [z_le]; omega), gb_57_12, if_neg (by rw [z_le]; omega), gb_57_21]
  refine ⟨g_in.mpr (by omega), ?_⟩
  rw [z_n, gb_57_27, gb_57_31]
  exact K _ (by rw [if_pos ⟨w0, w1⟩]; exact hi.2 _ (by omega))
