/-! The class: a formula worked out; how light it is, whether one takes, how it wanes. -/
def gTop (s : List Int) : Int := s.headD 0
def g0 (_ _ : Int) : Int := 0
theorem gRun1_ok {al : Nat → Bool} {V : Nat → Int} (hVr : ∀ w, w < 11 → al w = true → -1000000 ≤ V w ∧ V w ≤ 1000000) : ∀ {l : List Int} {s : List Int} {T T' : List Bool}, gTy al l T = some T' → eVs T s → T.length ≤ 60 →
    ((gRun1 V l s).2.1 = -1 ∧ (gRun1 V l s).1 = [] ∧ eVs T' (gRun1 V l s).2.2 ∧ T'.length ≤ 60) ∨ (((gRun1 V l s).2.1 = 11 ∨ (gRun1 V l s).2.1 = 12) ∧ al (gRun1 V l s).2.1.toNat = true ∧ ∃ T0, eVs (false :: T0) (gRun1 V l s).2.2 ∧ T0.length + 1 ≤ 60 ∧ gTy al (gRun1 V l s).1 (false :: T0) = some T')
  | [], s, T, T', ht, hs, hT => by
    simp only [gTy] at ht
    cases ht
    exact Or.inl ⟨rfl, rfl, hs, hT⟩
  | c :: cs, s, T, T', ht, hs, hT => by
    unfold gTy at ht
    split at ht
    · rename_i T1 h1
      split at ht
      · rename_i hT1
        unfold gRun1
        by_cases hq : gAsks c = true
        · have hq' : c = -12 ∨ c = -13 := of_decide_eq_true hq
          rw [if_pos hq]
          unfold gTy1 at h1
          rw [if_neg (by omega), if_neg (by omega), if_pos hq] at h1
          split at h1
          · rename_i hal
            obtain ⟨T0, rfl, rfl⟩ := gT1_inv h1
            exact Or.inr ⟨by rcases hq' with rfl | rfl <;> simp, hal, T0, hs, hT1, ht⟩
          · cases h1
        · have hq' : gAsks c = false := Bool.eq_false_iff.mpr hq
          rw [if_neg hq]
          exact gRun1_ok hVr ht (gStep_ok h1 hq' hVr hs) hT1
      · cases ht
    · cases ht
theorem gRun_1 {V : Nat → Int} {lf : Int → Int → Int} : ∀ {l s : List Int}, gRun V lf l s = if (gRun1 V l s).2.1 = -1 then (gRun1 V l s).2.2 else gRun V lf (gRun1 V l s).1 (gPop1 (lf (gRun1 V l s).2.1) (gRun1 V l s).2.2)
  | [], s => rfl
  | c :: cs, s => by
    rw [show gRun V lf (c :: cs) s = gRun V lf cs (if gAsks c then gPop1 (lf (-1 - c)) s else gStep V c s) from rfl, show gRun1 V (c :: cs) s = (if gAsks c then (cs, -1 - c, s) else gRun1 V cs (gStep V c s)) from rfl]
    by_cases hq : gAsks c = true
    · have hq' : c = -12 ∨ c = -13 := of_decide_eq_true hq
      rw [if_pos hq, if_pos hq]
      show gRun V lf cs (gPop1 (lf (-1 - c)) s) = if -1 - c = -1 then s else gRun V lf cs (gPop1 (lf (-1 - c)) s)
      rw [if_neg (by omega)]
    · rw [if_neg hq, if_neg hq]; exact gRun_1
variable {d S : Nat} {h : Nat × Option gNm} {I : Nat → Nat → Nat → Int32} {J : Nat → Nat → Nat → Int64} {Q : Option gV → gW → Prop}
/-- the class works from a place to a stop: to the end, or to a word that asks -/
theorem m_work1 {al : Nat → Bool} {V : Nat → Int} {i1 i2 a b : Nat} {l s : List Int} {T T' : List Bool} {x2 x3 : Option gV} (hb2 : b ≤ 1600) (hVr : ∀ w, w < 11 → al w = true → -1000000 ≤ V w ∧ V w ≤ 1000000)
    (ht : gTy al l T = some T') (hs : eVs T s) (hT : T.length ≤ 60) (hT' : T' ≠ []) (hV : ∀ w, w < 11 → al w = true → (I 18 i2 w).toInt = V w) (ha : (I 14 i1 3).toInt = a) (hb : (I 14 i1 4).toInt = b) (hab : a + l.length = b) (htop : (I 14 i1 5).toInt = s.length) (hh : gHp (I 16 i1) s) (hc : gCd (I 15 i1) id a l)
    (k : ∀ (I' : Nat → Nat → Nat → Int32) (x : Int32) (s' : List Int), (∀ k i j, ¬ ((k = 14 ∧ i = i1 ∧ (j = 3 ∨ j = 5 ∨ j = 6)) ∨ (k = 16 ∧ i = i1)) → I' k i j = I k i j) → (gRun1 V l s).2.2 = x.toInt :: s' → (I' 14 i1 3).toInt + (gRun1 V l s).1.length = b → (I' 14 i1 6).toInt = (gRun1 V l s).2.1 → (I' 14 i1 5).toInt = s'.length → gHp (I' 16 i1) s' → Q (some (.inl x)) (gwd S I' J h)) : (gq (d + 2) 82 0 [some (.inr (.inr (some (14, i1)))), some (.inr (.inr (some (18, i2)))), x2, x3] [] (gwd S I J h) Q) := by
  rw [gb_82_0, gb_82_2]
  refine m_work_loop (al := al) (V := V) hb2 hVr l s T T' a _ x2 x3 ht hs hT (fun w h1 h2 => by rw [u_k (by decide)]; exact hV w h1 h2) (by rw [u_j (by decide)]; exact ha) (by rw [u_j (by decide)]; exact hb) hab (by rw [u_eq]; rfl) (by rw [u_j (by decide)]; exact htop) (gHp_congr (fun z _ => u_k (by decide)) hh) (gCd_congr (fun z _ _ => u_k (by decide)) hc) fun I1 y2 y3 hF g1 g2 g3 g4 => ?_
  have hne : ∃ v s', (gRun1 V l s).2.2 = v :: s' ∧ s'.length ≤ 60 := by
    rcases gRun1_ok hVr ht hs hT with ⟨_, _, h3, h4⟩ | ⟨_, _, T0, h3, h4, _⟩
    · obtain ⟨t0, T0, rfl⟩ := List.exists_cons_of_ne_nil hT'
      obtain ⟨v, s', h5, _, h6⟩ := eVs_cons h3
      have := eVs_len h6
      simp only [List.length_cons] at h4
      exact ⟨v, s', h5, by omega⟩
    · obtain ⟨v, s', h5, _, h6⟩ := eVs_cons h3
      have := eVs_len h6
      exact ⟨v, s', h5, by omega⟩
  obtain ⟨v, s', hv, hl⟩ := hne
  have e1 : (1 : Int32).toInt = 1 := rfl
  rw [hv] at g3 g4
  simp only [List.length_cons] at g3
  rw [gb_82_160, m_pop (by omega) (by omega), Option.toList_some, List.singleton_append, gb_82_164, g3, show ((s'.length + 1 : Nat) : Int) - 1 = (s'.length : Int) by omega, Int.toNat_natCast]
  refine k _ _ s' (fun k i j hn => by rw [u_ne (by omega), hF _ _ _ (by omega), u_ne (by omega)]) (by rw [hv, g4.1]) (by rw [u_j (by decide)]; exact g1) (by rw [u_j (by decide)]; exact g2) (by rw [u_eq, z_sub (by omega) (by omega), g3, e1]; omega) (gHp_congr (fun z _ => u_k (by decide)) g4.2)
/-- where a formula of a course lies -/
def kSl (I : Nat → Nat → Nat → Int32) (c f : Nat) (l : List Int) : Prop := ∃ b : Nat, (I 40 c f).toInt = b ∧ (I 41 c f).toInt = b + l.length ∧ b + l.length ≤ 1600 ∧ gCd (I 15 c) id b l
theorem m_start {i1 f : Nat} {a1 : Int32} {l : List Int} (h1 : a1.toInt = f) (h3 : f < 3) (hl : kSl I i1 f l) (k : ∀ (I' : Nat → Nat → Nat → Int32), (∀ k i j, ¬ ((k = 14 ∧ i = i1 ∧ (j = 3 ∨ j = 4 ∨ j = 5))) → I' k i j = I k i j) → (I' 14 i1 3).toInt + l.length = (I' 14 i1 4).toInt → 0 ≤ (I' 14 i1 3).toInt → (I' 14 i1 4).toInt ≤ 1600 → (I' 14 i1 5).toInt = 0 → gCd (I' 15 i1) id (I' 14 i1 3).toInt.toNat l → Q none (gwd S I' J h)) : (gq (d + 2) 23 0 [some (.inr (.inr (some (34, i1)))), some (.inl (a1))] [] (gwd S I J h) Q) := by
  obtain ⟨b, g1, g2, g3, g4⟩ := hl
  have e3 : (3 : Int32).toInt = 3 := rfl
  have e16 : (Int32.ofNat 1600).toInt = 1600 := rfl
  have en : a1.toInt.toNat = f := by omega
  rw [gb_23_0, if_neg (by rw [z_lt, z_0]; omega), gb_23_4, if_neg (by rw [z_le]; omega), gb_23_9]
  refine ⟨g_in.mpr (by omega), ?_⟩
  rw [gb_23_19]
  refine ⟨g_in.mpr (by omega), ?_⟩
  rw [z_n, en, gb_23_25, gb_81_0, m_max, Option.toList_some, List.singleton_append, gb_81_6, m_min, Option.toList_some, List.singleton_append, gb_81_19, Option.toList_none, List.nil_append, gb_23_28]
  have e4 : (zmax 0 (I 40 i1 f)).toInt = b := by rw [zmax_i, g1, z_0]; omega
  have e5 : (zmin (I 41 i1 f) (Int32.ofNat 1600)).toInt = b + l.length := by rw [zmin_i, g2, e16]; omega
  refine k _ (fun k i j hn => by rw [u_ne (by omega), u_ne (by omega), u_ne (by omega)]) ?_ ?_ ?_ ?_ ?_
  · rw [u_j (by decide), u_j (by decide), u_eq, u_j (by decide), u_eq, e4, e5]
  · rw [u_j (by decide), u_j (by decide), u_eq, e4]; omega
  · rw [u_j (by decide), u_eq, e5]; omega
  · rw [u_eq]; rfl
  · rw [u_j (by decide), u_j (by decide), u_eq, e4, Int.toNat_natCast]
    exact gCd_congr (fun z _ _ => by rw [u_k (by decide), u_k (by decide), u_k (by decide)]) g4
/-- a course's formula, from its start -/
theorem m_workC {al : Nat → Bool} {V : Nat → Int} {i1 : Nat} {l : List Int} {t : Bool} {x2 x3 : Option gV} (hVr : ∀ w, w < 11 → al w = true → -1000000 ≤ V w ∧ V w ≤ 1000000) (h11 : al 11 = false) (h12 : al 12 = false)
    (ht : gTy al l [] = some [t]) (hV : ∀ w, w < 11 → al w = true → (I 18 i1 w).toInt = V w) (hab : (I 14 i1 3).toInt + l.length = (I 14 i1 4).toInt) (ha : 0 ≤ (I 14 i1 3).toInt) (hb : (I 14 i1 4).toInt ≤ 1600) (htop : (I 14 i1 5).toInt = 0) (hc : gCd (I 15 i1) id (I 14 i1 3).toInt.toNat l)
    (k : ∀ (I' : Nat → Nat → Nat → Int32) (x : Int32), (∀ k i j, ¬ ((k = 14 ∧ i = i1 ∧ (j = 3 ∨ j = 5 ∨ j = 6)) ∨ (k = 16 ∧ i = i1)) → I' k i j = I k i j) → x.toInt = gTop (gRun V g0 l []) → eVal t x.toInt → Q (some (.inl x)) (gwd S I' J h)) : (gq (d + 2) 82 0 [some (.inr (.inr (some (14, i1)))), some (.inr (.inr (some (18, i1)))), x2, x3] [] (gwd S I J h) Q) := by
  refine m_work1 (al := al) (V := V) (a := (I 14 i1 3).toInt.toNat) (b := (I 14 i1 4).toInt.toNat) (l := l) (s := []) (T := []) (T' := [t]) (by omega) hVr ht trivial (Nat.zero_le _) (by simp) hV (by omega) (by omega) (by omega) htop trivial hc fun I1 x s' hF h1 _ _ _ _ => ?_
  rcases gRun1_ok hVr ht (s := []) trivial (Nat.zero_le _) with ⟨g1, _, g3, _⟩ | ⟨g1, g2, _⟩
  · refine k I1 x hF ?_ ?_
    · rw [gRun_1, if_pos g1, h1]; rfl
    · rw [h1] at g3; exact g3.1
  · rcases g1 with g1 | g1
    · rw [g1] at g2; rw [show (11 : Int).toNat = 11 from rfl, h11] at g2; cases g2
    · rw [g1] at g2; rw [show (12 : Int).toNat = 12 from rfl, h12] at g2; cases g2
def alLi (w : Nat) : Bool := decide (w = 0 ∨ w = 1)
def alWn (w : Nat) : Bool := decide (w = 0 ∨ w = 2 ∨ w = 3 ∨ w = 4 ∨ w = 5 ∨ w = 6)
def alTk (w : Nat) : Bool := decide (w = 0 ∨ w = 2 ∨ w = 3 ∨ w = 4 ∨ w = 7)
def eVL (hour mile : Int) (w : Nat) : Int := if w = 0 then hour else mile
def eVT (hour strength light pace far : Int) (w : Nat) : Int := if w = 0 then hour else if w = 2 then strength else if w = 3 then light else if w = 4 then pace else far
def eVW (hour strength light pace handed run : Int) (w : Nat) : Int := if w = 0 then hour else if w = 2 then strength else if w = 3 then light else if w = 4 then pace else if w = 5 then handed else run
def gLight (l : List Int) (mile hour : Int) : Int := max 0 (min (gTop (gRun (eVL hour mile) g0 l [])) 9)
def gTakes (l : List Int) (hour strength light pace far : Int) : Prop := gTop (gRun (eVT hour strength light pace far) g0 l []) ≠ 0
def gWane (l : List Int) (hour strength light pace handed run : Int) : Int := max 0 (min (gTop (gRun (eVW hour strength light pace handed run) g0 l [])) 99)
def gabs (x : Int) : Int := if 0 ≤ x then x else -x
theorem gLight_r (l : List Int) (mile hour : Int) : 0 ≤ gLight l mile hour ∧ gLight l mile hour ≤ 9 := by unfold gLight; omega
theorem gWane_r (l : List Int) (a b c e f g : Int) : 0 ≤ gWane l a b c e f g ∧ gWane l a b c e f g ≤ 99 := by unfold gWane; omega
theorem m_lightAt {i1 : Nat} {a1 a2 : Int32} {l : List Int} (ht : gTy alLi l [] = some [false]) (hl : kSl I i1 0 l) (h1 : -10000 ≤ a1.toInt ∧ a1.toInt ≤ 10000) (h2 : -10000 ≤ a2.toInt ∧ a2.toInt ≤ 10000)
    (k : ∀ (I' : Nat → Nat → Nat → Int32) (x : Int32), (∀ k i j, ¬ ((k = 14 ∧ i = i1 ∧ (j = 3 ∨ j = 4 ∨ j = 5 ∨ j = 6)) ∨ (k = 16 ∧ i = i1) ∨ (k = 18 ∧ i = i1)) → I' k i j = I k i j) → x.toInt = gLight l a1.toInt a2.toInt → Q (some (.inl x)) (gwd S I' J h)) : (gq (d + 3) 22 0 [some (.inr (.inr (some (34, i1)))), some (.inl (a1)), some (.inl (a2))] [] (gwd S I J h) Q) := by
  rw [gb_22_0]
  refine ⟨rfl, ?_⟩
  rw [gb_22_7]
  refine ⟨rfl, ?_⟩
  rw [gb_22_14]
  have hl' : kSl (gup (gup I 18 i1 (0 : Int32).toNatClampNeg a2) 18 i1 (1 : Int32).toNatClampNeg a1) i1 0 l := by
    obtain ⟨b, g1, g2, g3, g4⟩ := hl
    exact ⟨b, by rw [u_k (by decide), u_k (by decide)]; exact g1, by rw [u_k (by decide), u_k (by decide)]; exact g2, g3, gCd_congr (fun z _ _ => by rw [u_k (by decide), u_k (by decide)]) g4⟩
  refine m_start (f := 0) rfl (by decide) hl' fun I1 hF1 g1 g2 g3 g4 g5 => ?_
  rw [Option.toList_none, List.nil_append, gb_22_19]
  refine m_workC (al := alLi) (V := eVL a2.toInt a1.toInt) (fun w _ _ => by unfold eVL; split <;> omega) rfl rfl ht (fun w _ hw => ?_) g1 g2 g3 g4 g5 fun I2 x hF2 hx _ => ?_
  · have hw' : w = 0 ∨ w = 1 := of_decide_eq_true hw
    rw [hF1 _ _ _ (by omega)]
    rcases hw' with rfl | rfl
    · rw [u_j (by decide)]; exact congrArg Int32.toInt u_eq
    · exact congrArg Int32.toInt u_eq
  · have e9 : (9 : Int32).toInt = 9 := rfl
    rw [Option.toList_some, List.singleton_append, gb_22_31, m_min, Option.toList_some, List.singleton_append, gb_22_36, m_max, Option.toList_some, List.singleton_append, gb_22_39]
    exact k _ _ (fun k i j hn => by rw [hF2 _ _ _ (by omega), hF1 _ _ _ (by omega), u_ne (by omega), u_ne (by omega)]) (by rw [zmax_i, zmin_i, hx, e9, z_0]; rfl)
theorem kSl_congr {I I' : Nat → Nat → Nat → Int32} {c f : Nat} {l : List Int} (h1 : I' 40 c f = I 40 c f) (h2 : I' 41 c f = I 41 c f) (h3 : ∀ z, I' 15 c z = I 15 c z) (hl : kSl I c f l) : kSl I' c f l := by
  obtain ⟨b, g1, g2, g3, g4⟩ := hl
  exact ⟨b, by rw [h1]; exact g1, by rw [h2]; exact g2, g3, gCd_congr (fun z _ _ => h3 z) g4⟩
theorem m_wouldTake {i1 i2 b : Nat} {a3 a4 : Int32} {x5 : Option gV} {l : List Int} {tt : Bool} (ht : gTy alTk l [] = some [tt]) (hl : kSl I i1 2 l) (h3 : a3.toInt = b) (hb : (b : Int) < (I 34 i1 2).toInt) (hb8 : b < 8) (h4 : 0 ≤ a4.toInt ∧ a4.toInt ≤ 9)
    (r0 : 0 ≤ (I 21 i2 0).toInt ∧ (I 21 i2 0).toInt ≤ 10000) (r1 : 0 ≤ (I 21 i2 1).toInt ∧ (I 21 i2 1).toInt ≤ 100) (r2 : 0 ≤ (I 21 i2 2).toInt ∧ (I 21 i2 2).toInt ≤ 100) (rp : 0 ≤ (I 36 i1 b).toInt ∧ (I 36 i1 b).toInt ≤ 100) (rm : 0 ≤ (I 22 i2 b).toInt ∧ (I 22 i2 b).toInt ≤ 100)
    (k : ∀ (I' : Nat → Nat → Nat → Int32) (x : Int32), (∀ k i j, ¬ ((k = 14 ∧ i = i1 ∧ (j = 3 ∨ j = 4 ∨ j = 5 ∨ j = 6)) ∨ (k = 16 ∧ i = i1) ∨ (k = 18 ∧ i = i1)) → I' k i j = I k i j) → (x = 1 ∧ gTakes l (I 21 i2 0).toInt (I 21 i2 2).toInt a4.toInt (I 36 i1 b).toInt (gabs ((I 22 i2 b).toInt - (I 21 i2 1).toInt)) ∨ x = 0 ∧ ¬ gTakes l (I 21 i2 0).toInt (I 21 i2 2).toInt a4.toInt (I 36 i1 b).toInt (gabs ((I 22 i2 b).toInt - (I 21 i2 1).toInt))) → Q (some (.inl x)) (gwd S I' J h)) : (gq (d + 3) 76 0 [some (.inr (.inr (some (19, 0)))), some (.inr (.inr (some (34, i1)))), some (.inr (.inr (some (21, i2)))), some (.inl (a3)), some (.inl (a4)), x5] [] (gwd S I J h) Q) := by
  have en : a3.toNatClampNeg = b := by rw [z_n]; omega
  rw [gb_76_0, m_hasBearer, Option.toList_some, List.singleton_append, gb_76_5, if_neg (by rw [zb_0]; exact fun e => e (by omega)), gb_76_10]
  refine ⟨rfl, ?_⟩
  rw [gb_76_24]
  refine ⟨rfl, ?_⟩
  rw [gb_76_30]
  refine ⟨rfl, ?_⟩
  rw [gb_76_38]
  refine ⟨g_in.mpr (by omega), ?_⟩
  rw [gb_76_47]
  refine ⟨rfl, ?_⟩
  rw [gb_76_48]
  refine ⟨g_in.mpr (by omega), ?_⟩
  rw [gb_76_58, m_abs, Option.toList_some, List.singleton_append, gb_76_66]
  refine ⟨rfl, ?_⟩
  rw [gb_76_67, en]
  simp only [u_k (show (21 : Nat) ≠ 18 by decide), u_k (show (22 : Nat) ≠ 18 by decide), u_k (show (36 : Nat) ≠ 18 by decide)]
  generalize hI0 : gup (gup (gup (gup (gup I 18 i1 (0 : Int32).toNatClampNeg (I 21 i2 0)) 18 i1 (3 : Int32).toNatClampNeg a4) 18 i1 (2 : Int32).toNatClampNeg (I 21 i2 2)) 18 i1 (4 : Int32).toNatClampNeg (I 36 i1 b)) 18 i1 (7 : Int32).toNatClampNeg (zabs (I 22 i2 b - I 21 i2 1)) = I0
  have hF0 : (∀ k i j, ¬ ((k = 18 ∧ i = i1)) → I0 k i j = I k i j) := fun k i j hn => by rw [← hI0]; repeat rw [u_ne (by omega)]
  refine m_start (f := 2) rfl (by decide) (kSl_congr (hF0 _ _ _ (by omega)) (hF0 _ _ _ (by omega)) (fun z => hF0 _ _ _ (by omega)) hl) fun I1 hF1 g1 g2 g3 g4 g5 => ?_
  rw [Option.toList_none, List.nil_append, gb_76_72]
  have ef : (zabs (I 22 i2 b - I 21 i2 1)).toInt = gabs ((I 22 i2 b).toInt - (I 21 i2 1).toInt) := by
    have e := z_sub (a := I 22 i2 b) (b := I 21 i2 1) (by omega) (by omega)
    rw [zabs_i (by omega), e]; rfl
  have hgr : ∀ x : Int, -1000000 ≤ x → x ≤ 1000000 → -1000000 ≤ gabs x ∧ gabs x ≤ 1000000 := fun x _ _ => by unfold gabs; split <;> omega
  refine m_workC (al := alTk) (V := eVT (I 21 i2 0).toInt (I 21 i2 2).toInt a4.toInt (I 36 i1 b).toInt (gabs ((I 22 i2 b).toInt - (I 21 i2 1).toInt))) (fun w _ _ => ?_) rfl rfl ht (fun w _ hw => ?_) g1 g2 g3 g4 g5 fun I2 x hF2 hx hb => ?_
  · have := hgr ((I 22 i2 b).toInt - (I 21 i2 1).toInt) (by omega) (by omega)
    unfold eVT
    (repeat' split) <;> omega
  · have hw' : w = 0 ∨ w = 2 ∨ w = 3 ∨ w = 4 ∨ w = 7 := of_decide_eq_true hw
    rw [hF1 _ _ _ (by omega), ← hI0]
    rcases hw' with rfl | rfl | rfl | rfl | rfl
    · rw [u_j (by decide), u_j (by decide), u_j (by decide), u_j (by decide)]; exact congrArg Int32.toInt u_eq
    · rw [u_j (by decide), u_j (by decide)]; exact congrArg Int32.toInt u_eq
    · rw [u_j (by decide), u_j (by decide), u_j (by decide)]; exact congrArg Int32.toInt u_eq
    · rw [u_j (by decide)]; exact congrArg Int32.toInt u_eq
    · exact (congrArg Int32.toInt u_eq).trans ef
  · have hF : (∀ k i j, ¬ ((k = 14 ∧ i = i1 ∧ (j = 3 ∨ j = 4 ∨ j = 5 ∨ j = 6)) ∨ (k = 16 ∧ i = i1) ∨ (k = 18 ∧ i = i1)) → I2 k i j = I k i j) := fun k i j hn => by rw [hF2 _ _ _ (by omega), hF1 _ _ _ (by omega), hF0 _ _ _ (by omega)]
    rw [Option.toList_some, List.singleton_append, gb_76_81]
    by_cases hz : x = 0
    · rw [if_pos hz, gb_76_88, gb_76_89, g_t0, true_and]
      refine k _ _ hF (Or.inr ⟨rfl, fun e => e ?_⟩)
      rw [← hx, hz]; rfl
    · rw [if_neg hz, gb_76_84, gb_76_89, g_t1, true_and]
      refine k _ _ hF (Or.inl ⟨rfl, fun e => hz ?_⟩)
      exact z_inj (by rw [hx, e]; rfl)
theorem m_waned {i1 i2 b : Nat} {a2 a3 a4 a5 : Int32} {x6 : Option gV} {l : List Int} (ht : gTy alWn l [] = some [false]) (hl : kSl I i1 1 l) (h2 : a2.toInt = b) (hb : (b : Int) < (I 34 i1 2).toInt) (hb8 : b < 8) (h4 : 0 ≤ a4.toInt ∧ a4.toInt ≤ 100) (h5 : 0 ≤ a5.toInt ∧ a5.toInt ≤ 9)
    (r0 : 0 ≤ (I 21 i2 0).toInt ∧ (I 21 i2 0).toInt ≤ 10000) (r2 : 0 ≤ (I 21 i2 2).toInt ∧ (I 21 i2 2).toInt ≤ 100) (rp : 0 ≤ (I 36 i1 b).toInt ∧ (I 36 i1 b).toInt ≤ 100)
    (k : ∀ (I' : Nat → Nat → Nat → Int32) (x : Int32), (∀ k i j, ¬ ((k = 14 ∧ i = i1 ∧ (j = 3 ∨ j = 4 ∨ j = 5 ∨ j = 6)) ∨ (k = 16 ∧ i = i1) ∨ (k = 18 ∧ i = i1)) → I' k i j = I k i j) → x.toInt = gWane l (I 21 i2 0).toInt (I 21 i2 2).toInt a5.toInt (I 36 i1 b).toInt (if a3.toInt = -1 then 0 else 1) a4.toInt → Q (some (.inl x)) (gwd S I' J h)) : (gq (d + 3) 77 0 [some (.inr (.inr (some (34, i1)))), some (.inr (.inr (some (21, i2)))), some (.inl (a2)), some (.inl (a3)), some (.inl (a4)), some (.inl (a5)), x6] [] (gwd S I J h) Q) := by
  have en : a2.toNatClampNeg = b := by rw [z_n]; omega
  rw [gb_77_0, m_hasBearer, Option.toList_some, List.singleton_append, gb_77_5, if_neg (by rw [zb_0]; exact fun e => e (by omega)), gb_77_13]
  refine ⟨rfl, ?_⟩
  rw [gb_77_27]
  refine ⟨rfl, ?_⟩
  rw [gb_77_33]
  refine ⟨rfl, ?_⟩
  rw [gb_77_41]
  refine ⟨g_in.mpr (by omega), ?_⟩
  rw [gb_77_50]
  refine ⟨rfl, ?_⟩
  rw [gb_77_51, gb_77_56, en]
  simp only [u_k (show (21 : Nat) ≠ 18 by decide), u_k (show (36 : Nat) ≠ 18 by decide)]
  have key : ∀ y : Int32, y.toInt = (if a3.toInt = -1 then 0 else 1) → (gq (d + 3) 77 64 [some (.inr (.inr (some (34, i1)))), some (.inr (.inr (some (21, i2)))), some (.inl (a2)), some (.inl (a3)), some (.inl (a4)), some (.inl (a5)), some (.inr (.inr (some (18, i1))))] [.inl (y), .inl (5), .inr (.inr (some (18, i1)))] (gwd S (gup (gup (gup (gup I 18 i1 (0 : Int32).toNatClampNeg (I 21 i2 0)) 18 i1 (3 : Int32).toNatClampNeg a5) 18 i1 (2 : Int32).toNatClampNeg (I 21 i2 2)) 18 i1 (4 : Int32).toNatClampNeg (I 36 i1 b)) J h) Q) := by
    intro y hy
    rw [gb_77_64]
    refine ⟨rfl, ?_⟩
    rw [gb_77_65]
    refine ⟨rfl, ?_⟩
    rw [gb_77_72]
    generalize hI0 : gup (gup (gup (gup (gup (gup I 18 i1 (0 : Int32).toNatClampNeg (I 21 i2 0)) 18 i1 (3 : Int32).toNatClampNeg a5) 18 i1 (2 : Int32).toNatClampNeg (I 21 i2 2)) 18 i1 (4 : Int32).toNatClampNeg (I 36 i1 b)) 18 i1 (5 : Int32).toNatClampNeg y) 18 i1 (6 : Int32).toNatClampNeg a4 = I0
    have hF0 : (∀ k i j, ¬ ((k = 18 ∧ i = i1)) → I0 k i j = I k i j) := fun k i j hn => by rw [← hI0]; repeat rw [u_ne (by omega)]
    refine m_start (f := 1) rfl (by decide) (kSl_congr (hF0 _ _ _ (by omega)) (hF0 _ _ _ (by omega)) (fun z => hF0 _ _ _ (by omega)) hl) fun I1 hF1 g1 g2 g3 g4 g5 => ?_
    rw [Option.toList_none, List.nil_append, gb_77_77]
    refine m_workC (al := alWn) (V := eVW (I 21 i2 0).toInt (I 21 i2 2).toInt a5.toInt (I 36 i1 b).toInt y.toInt a4.toInt) (fun w _ _ => ?_) rfl rfl ht (fun w _ hw => ?_) g1 g2 g3 g4 g5 fun I2 x hF2 hx hb => ?_
    · have : 0 ≤ y.toInt ∧ y.toInt ≤ 1 := by rw [hy]; split <;> omega
      unfold eVW
      (repeat' split) <;> omega
    · have hw' : w = 0 ∨ w = 2 ∨ w = 3 ∨ w = 4 ∨ w = 5 ∨ w = 6 := of_decide_eq_true hw
      rw [hF1 _ _ _ (by omega), ← hI0]
      rcases hw' with rfl | rfl | rfl | rfl | rfl | rfl
      · rw [u_j (by decide), u_j (by decide), u_j (by decide), u_j (by decide), u_j (by decide)]; exact congrArg Int32.toInt u_eq
      · rw [u_j (by decide), u_j (by decide), u_j (by decide)]; exact congrArg Int32.toInt u_eq
      · rw [u_j (by decide), u_j (by decide), u_j (by decide), u_j (by decide)]; exact congrArg Int32.toInt u_eq
      · rw [u_j (by decide), u_j (by decide)]; exact congrArg Int32.toInt u_eq
      · rw [u_j (by decide)]; exact congrArg Int32.toInt u_eq
      · exact congrArg Int32.toInt u_eq
    · have e99 : (99 : Int32).toInt = 99 := rfl
      rw [Option.toList_some, List.singleton_append, gb_77_87, m_min, Option.toList_some, List.singleton_append, gb_77_92, m_max, Option.toList_some, List.singleton_append, gb_77_95]
      refine k _ _ (fun k i j hn => by rw [hF2 _ _ _ (by omega), hF1 _ _ _ (by omega), hF0 _ _ _ (by omega)]) ?_
      rw [zmax_i, zmin_i, hx, e99, z_0, ← hy]; rfl
  by_cases hz : a3 = Int32.ofInt (-1)
  · rw [if_pos hz, gb_77_63]
    exact key 0 (by rw [hz, z_m1, if_pos rfl]; rfl)
  · rw [if_neg hz, gb_77_59]
    exact key 1 (by rw [if_neg (fun e => hz (z_inj (by rw [e, z_m1])))]; rfl)
