/-! What holds between two calls. -/
theorem mCo_up {I I' : Nat → Nat → Nat → Int32} {C : gCo} (h : mCo I C) (e : ∀ k j, (k = 54 ∧ 5 ≤ j ∨ k = 56 ∧ 16 ≤ j ∨ k = 57 ∧ 16 ≤ j ∨ k = 58 ∧ 3 ≤ j ∨ k = 59 ∧ 3 ≤ j ∨ k = 60 ∧ 1600 ≤ j ∨ k = 50 ∧ j = 48) → I' k 0 j = I k 0 j) : mCo I' C := by
  obtain ⟨⟨h1, h2, h3, h4, h5⟩, hb, hh, hf, h48⟩ := h
  refine ⟨⟨by rw [e _ _ (by omega)]; exact h1, by rw [e _ _ (by omega)]; exact h2, by rw [e _ _ (by omega)]; exact h3, by rw [e _ _ (by omega)]; exact h4, by rw [e _ _ (by omega)]; exact h5⟩, fun b hx => ?_, fun b hx => ?_, fun f hx => ?_, by rw [e _ _ (by omega)]; exact h48⟩
  · rw [e _ _ (by omega), e _ _ (by omega)]; exact hb b hx
  · rw [e _ _ (by omega), e _ _ (by omega)]; exact hh b hx
  · have h := hf f hx
    unfold mFo at h ⊢
    split
    · rename_i w
      rw [if_pos w] at h
      obtain ⟨b, g1, g2, g3, g4⟩ := h
      exact ⟨b, by rw [e _ _ (by omega)]; exact g1, by rw [e _ _ (by omega)]; exact g2, g3, gCd_congr (fun k h1 _ => e _ _ (by omega)) g4⟩
    · rename_i w
      rw [if_neg w] at h
      exact ⟨by rw [e _ _ (by omega)]; exact h.1, h.2⟩
theorem mNm_up {J J' : Nat → Nat → Nat → Int64} {C : gCo} (h : mNm J C) (e : ∀ j, 16 ≤ j → J' 55 0 j = J 55 0 j) : mNm J' C := fun r hr => by
  obtain ⟨m, q1, q2, q3, q4⟩ := h r hr
  exact ⟨m, q1, q2, q3, by rw [e _ (by omega)]; exact q4⟩
def okB (tp : Nat → Int) (n sz : Nat) (dr : Int) : Prop := tpOk tp n ∧ sz ≤ 30 ∧ 0 ≤ dr ∧ dr < 2147483648
def kBs (I : Nat → Nat → Nat → Int32) (J : Nat → Nat → Nat → Int64) (h : Nat × Option gNm) (tp : Nat → Int) (n : Nat) (rf : Nat → Int32) (im : Nat → Int) (sz : Nat) (f p dr : Int) : Prop := kTb I tp n ∧ kRf I rf ∧ kIm I im sz ∧ ((I 10 0 12).toInt = f ∧ (I 10 0 13).toInt = p) ∧ (J 10 0 11).toInt = dr ∧ (h.1 ≤ 1 ∧ kWd I ∧ gCd (I 3 0) id 0 (gFlat gWL))
def mBs (I : Nat → Nat → Nat → Int32) (J : Nat → Nat → Nat → Int64) (tp : Nat → Int) (n : Nat) (rf : Nat → Int32) (im : Nat → Int) (sz : Nat) (f p dr : Int) : Prop := mTp I tp n ∧ mRf I rf ∧ mIm I im sz ∧ ((I 50 0 7).toInt = f ∧ (I 50 0 8).toInt = p) ∧ (J 50 0 72).toInt = dr ∧ (mWs I ∧ I 50 0 62 = 0)
def okW (C : gCo) (t : gSt) (nl : Int) (ac : List (gSt × Int)) (sn : Nat → Int) (rm : Int) : Prop := cOk C ∧ sOk C t ∧ (0 ≤ nl ∧ nl ≤ t 1) ∧ acOk C nl ac ∧ snOk C sn rm
def kW (I : Nat → Nat → Nat → Int32) (h : Nat × Option gNm) (C : gCo) (t : gSt) (lg : Nat → Int) (nl : Int) (ac : List (gSt × Int)) (sn : Nat → Int) (rm : Int) : Prop := I 10 0 10 ≠ 0 ∧ kCo I h.1 C ∧ kS I 0 t ∧ kPa I lg nl ac ∧ kSn I sn rm
def mW (I : Nat → Nat → Nat → Int32) (J : Nat → Nat → Nat → Int64) (C : gCo) (t : gSt) (lg : Nat → Int) (nl : Int) (ac : List (gSt × Int)) (sn : Nat → Int) (rm : Int) : Prop := mCo I C ∧ mNm J C ∧ mS I C t ∧ mKp I lg nl ∧ mPa I C lg ac ∧ mSn I sn rm
def kN (I : Nat → Nat → Nat → Int32) (lg : Nat → Int) : Prop := I 10 0 10 = 0 ∧ kPa I lg 0 []
def mN (I : Nat → Nat → Nat → Int32) : Prop := mNo I ∧ ∃ nw : Nat, nw < 20 ∧ (I 50 0 71).toInt = nw
/-- the course's part -/
def gCs (I : Nat → Nat → Nat → Int32) (J : Nat → Nat → Nat → Int64) (h : Nat × Option gNm) : Prop := (∃ C t lg nl ac sn rm, okW C t nl ac sn rm ∧ kW I h C t lg nl ac sn rm ∧ mW I J C t lg nl ac sn rm) ∨ (∃ lg, kN I lg ∧ mN I)
def gInv (I : Nat → Nat → Nat → Int32) (J : Nat → Nat → Nat → Int64) (h : Nat × Option gNm) : Prop := ∃ tp n rf im sz f p dr, okB tp n sz dr ∧ kBs I J h tp n rf im sz f p dr ∧ mBs I J tp n rf im sz f p dr ∧ gCs I J h
section Cong
variable {h h' : Nat × Option gNm} {I I' : Nat → Nat → Nat → Int32} {J J' : Nat → Nat → Nat → Int64}
variable {tp : Nat → Int} {n : Nat} {rf rf' : Nat → Int32} {im : Nat → Int} {sz : Nat} {f p dr f' p' : Int} {C : gCo} {t t' : gSt} {lg lg' : Nat → Int} {nl nl' : Int} {ac ac' : List (gSt × Int)} {sn : Nat → Int} {rm : Int}
theorem kRf_c (h : kRf I rf) (e : ∀ j, I' 33 0 j = I 33 0 j) : kRf I' rf := fun k hk => by rw [e]; exact h k hk
theorem mRf_c (h : mRf I rf) (e : ∀ j, I' 52 0 j = I 52 0 j) : mRf I' rf := fun k hk => by rw [e]; exact h k hk
theorem kIm_c {z : Int} (h : kIm I im z) (e1 : I' 31 0 1 = I 31 0 1) (e2 : ∀ j, I' 32 0 j = I 32 0 j) : kIm I' im z := ⟨by rw [e1]; exact h.1, fun j hj => by rw [e2]; exact h.2 j hj⟩
theorem mIm_c (h : mIm I im sz) (e1 : I' 50 0 109 = I 50 0 109) (e2 : ∀ j, I' 71 0 j = I 71 0 j) : mIm I' im sz := ⟨by rw [e1]; exact h.1, fun j hj => by rw [e2]; exact h.2 j hj⟩
/-- all of the class's base, a fault, a tape that is gone -/
theorem kBs_f (b : kBs I J h tp n rf im sz f p dr) (e : ∀ k i j, (k = 1 ∨ k = 3 ∨ k = 31 ∧ j = 1 ∨ k = 32) → i = 0 → I' k i j = I k i j) (ej : J' 10 0 11 = J 10 0 11) (hr : kRf I' rf') (h0 : I' 11 0 1 = 0) (hf : (I' 10 0 12).toInt = f') (hp : (I' 10 0 13).toInt = p') (hg : h'.1 ≤ 1) : kBs I' J' h' tp 0 rf' im sz f' p' dr :=
  ⟨⟨⟨by rw [h0]; rfl, fun j hj => absurd hj (by omega)⟩, fun j hj => absurd hj (by omega)⟩, hr, kIm_c b.2.2.1 (e _ _ _ (by omega) rfl) (fun j => e _ _ _ (by omega) rfl), ⟨hf, hp⟩, by rw [ej]; exact b.2.2.2.2.1, hg, fun g hg' => by rw [e _ _ _ (by omega) rfl]; exact b.2.2.2.2.2.2.1 g hg', gCd_congr (fun k _ _ => e _ _ _ (by omega) rfl) b.2.2.2.2.2.2.2⟩
theorem kBs_r (b : kBs I J h tp n rf im sz f p dr) (e : ∀ k i j, (k = 1 ∨ k = 3 ∨ k = 10 ∧ (j = 12 ∨ j = 13) ∨ k = 11 ∧ j = 1 ∨ k = 12 ∨ k = 31 ∧ j = 1 ∨ k = 32) → i = 0 → I' k i j = I k i j) (ej : J' 10 0 11 = J 10 0 11) (hr : kRf I' rf') : kBs I' J' h tp n rf' im sz f p dr :=
  ⟨kTb_congr b.1 (e _ _ _ (by omega) rfl) (fun j => e _ _ _ (by omega) rfl), hr, kIm_c b.2.2.1 (e _ _ _ (by omega) rfl) (fun j => e _ _ _ (by omega) rfl), ⟨by rw [e _ _ _ (by omega) rfl]; exact b.2.2.2.1.1, by rw [e _ _ _ (by omega) rfl]; exact b.2.2.2.1.2⟩, by rw [ej]; exact b.2.2.2.2.1, b.2.2.2.2.2.1, fun g hg' => by rw [e _ _ _ (by omega) rfl]; exact b.2.2.2.2.2.2.1 g hg', gCd_congr (fun k _ _ => e _ _ _ (by omega) rfl) b.2.2.2.2.2.2.2⟩
theorem kBs_c (b : kBs I J h tp n rf im sz f p dr) (e : ∀ k i j, (k = 1 ∨ k = 3 ∨ k = 10 ∧ (j = 12 ∨ j = 13) ∨ k = 11 ∧ j = 1 ∨ k = 12 ∨ k = 31 ∧ j = 1 ∨ k = 32 ∨ k = 33) → i = 0 → I' k i j = I k i j) (ej : J' 10 0 11 = J 10 0 11) : kBs I' J' h tp n rf im sz f p dr :=
  kBs_r b (fun k i j hk hi => e k i j (by omega) hi) ej (kRf_c b.2.1 fun j => e _ _ _ (by omega) rfl)
theorem mWs_c (h : mWs I) (e : ∀ i j, I' 53 i j = I 53 i j) : mWs I' := fun i hi j hj => by rw [e]; exact h i hi j hj
theorem mBs_f (b : mBs I J tp n rf im sz f p dr) (e : ∀ k i j, (k = 53 ∨ i = 0 ∧ (k = 50 ∧ (j = 62 ∨ j = 109) ∨ k = 71)) → I' k i j = I k i j) (ej : J' 50 0 72 = J 50 0 72) (hr : mRf I' rf') (h0 : I' 50 0 1 = 0) (hf : (I' 50 0 7).toInt = f') (hp : (I' 50 0 8).toInt = p') : mBs I' J' tp 0 rf' im sz f' p' dr :=
  ⟨⟨by rw [h0]; rfl, fun j hj => absurd hj (by omega)⟩, hr, mIm_c b.2.2.1 (e _ _ _ (by omega)) (fun j => e _ _ _ (by omega)), ⟨hf, hp⟩, by rw [ej]; exact b.2.2.2.2.1, mWs_c b.2.2.2.2.2.1 (fun i j => e _ _ _ (by omega)), by rw [e _ _ _ (by omega)]; exact b.2.2.2.2.2.2⟩
theorem mBs_r (b : mBs I J tp n rf im sz f p dr) (e : ∀ k i j, (k = 53 ∨ i = 0 ∧ (k = 50 ∧ (j = 1 ∨ j = 7 ∨ j = 8 ∨ j = 62 ∨ j = 109) ∨ k = 51 ∨ k = 71)) → I' k i j = I k i j) (ej : J' 50 0 72 = J 50 0 72) (hr : mRf I' rf') : mBs I' J' tp n rf' im sz f p dr :=
  ⟨mTp_congr b.1 (e _ _ _ (by omega)) (fun j => e _ _ _ (by omega)), hr, mIm_c b.2.2.1 (e _ _ _ (by omega)) (fun j => e _ _ _ (by omega)), ⟨by rw [e _ _ _ (by omega)]; exact b.2.2.2.1.1, by rw [e _ _ _ (by omega)]; exact b.2.2.2.1.2⟩, by rw [ej]; exact b.2.2.2.2.1, mWs_c b.2.2.2.2.2.1 (fun i j => e _ _ _ (by omega)), by rw [e _ _ _ (by omega)]; exact b.2.2.2.2.2.2⟩
theorem mBs_c (b : mBs I J tp n rf im sz f p dr) (e : ∀ k i j, (k = 53 ∨ i = 0 ∧ (k = 50 ∧ (j = 1 ∨ j = 7 ∨ j = 8 ∨ j = 62 ∨ j = 109) ∨ k = 51 ∨ k = 52 ∨ k = 71)) → I' k i j = I k i j) (ej : J' 50 0 72 = J 50 0 72) : mBs I' J' tp n rf im sz f p dr :=
  mBs_r b (fun k i j hk => e k i j (by omega)) ej (mRf_c b.2.1 fun j => e _ _ _ (by omega))
/-- an act changes a state -/
theorem kW_a (b : kW I h C t lg nl ac sn rm) (e10 : I' 10 0 10 = I 10 0 10) (ec : (∀ k j, (k = 15 ∨ k = 34 ∨ k = 35 ∨ k = 36 ∨ k = 37 ∨ k = 38 ∨ k = 39 ∨ k = 40 ∨ k = 41) → I' k h.1 j = I k h.1 j)) (e20 : (∀ k j, (k = 20 ∧ j = 3 ∨ k = 23 ∨ k = 24 ∨ k = 25) → I' k 0 j = I k 0 j)) (hS : kS I' 0 t') (hp : kPa I' lg' nl' ac') : kW I' h C t' lg' nl' ac' sn rm :=
  ⟨by rw [e10]; exact b.1, kCo_congr b.2.1 ec, hS, hp, kSn_congr b.2.2.2.2 e20⟩
theorem mW_a (b : mW I J C t lg nl ac sn rm) (em : (∀ k j, (k = 54 ∧ 5 ≤ j ∨ k = 56 ∧ 16 ≤ j ∨ k = 57 ∧ 16 ≤ j ∨ k = 58 ∧ 3 ≤ j ∨ k = 59 ∧ 3 ≤ j ∨ k = 60 ∧ 1600 ≤ j ∨ k = 50 ∧ j = 48) → I' k 0 j = I k 0 j)) (e64 : I' 50 0 64 = I 50 0 64) (s64 : ∀ j, I' 64 0 j = I 64 0 j) (ej : ∀ j, 16 ≤ j → J' 55 0 j = J 55 0 j) (hS : mS I' C t') (hk : mKp I' lg' nl') (hp : mPa I' C lg' ac') : mW I' J' C t' lg' nl' ac' sn rm :=
  ⟨mCo_up b.1 em, mNm_up b.2.1 ej, hS, hk, hp, mSn_congr b.2.2.2.2.2 e64 s64⟩
/-- cells of the course's part that stay -/
def gKeep (h : Nat × Option gNm) (I I' : Nat → Nat → Nat → Int32) : Prop := I' 10 0 10 = I 10 0 10 ∧ (∀ k j, (k = 15 ∨ k = 34 ∨ k = 35 ∨ k = 36 ∨ k = 37 ∨ k = 38 ∨ k = 39 ∨ k = 40 ∨ k = 41) → I' k h.1 j = I k h.1 j) ∧ (∀ k j, (k = 20 ∧ j = 3 ∨ k = 23 ∨ k = 24 ∨ k = 25) → I' k 0 j = I k 0 j) ∧ ((∀ j, I' 21 0 j = I 21 0 j) ∧ (∀ j, I' 22 0 j = I 22 0 j) ∧ (∀ k j, (k = 28 ∨ k = 29 ∨ k = 30) → I' k 0 j = I k 0 j)) ∧ (∀ k j, (k = 54 ∧ 5 ≤ j ∨ k = 56 ∧ 16 ≤ j ∨ k = 57 ∧ 16 ≤ j ∨ k = 58 ∧ 3 ≤ j ∨ k = 59 ∧ 3 ≤ j ∨ k = 60 ∧ 1600 ≤ j ∨ k = 50 ∧ j = 48) → I' k 0 j = I k 0 j) ∧ (I' 50 0 64 = I 50 0 64 ∧ I' 50 0 70 = I 50 0 70 ∧ I' 50 0 71 = I 50 0 71) ∧ (∀ j, I' 61 0 j = I 61 0 j) ∧ (∀ j, I' 64 0 j = I 64 0 j) ∧ (∀ j, I' 67 0 j = I 67 0 j)
theorem mPa_c (h : mPa I C lg ac) (e70 : I' 50 0 70 = I 50 0 70) (e71 : I' 50 0 71 = I 50 0 71) (s67 : ∀ j, I' 67 0 j = I 67 0 j) : mPa I' C lg ac := mPa_congr h fun k j hk => by
  rcases hk with rfl | ⟨rfl, rfl | rfl⟩
  · exact s67 j
  · exact e70
  · exact e71
theorem mN_c (b : mN I) (em : (∀ k j, (k = 54 ∧ 5 ≤ j ∨ k = 56 ∧ 16 ≤ j ∨ k = 57 ∧ 16 ≤ j ∨ k = 58 ∧ 3 ≤ j ∨ k = 59 ∧ 3 ≤ j ∨ k = 60 ∧ 1600 ≤ j ∨ k = 50 ∧ j = 48) → I' k 0 j = I k 0 j)) (e64 : I' 50 0 64 = I 50 0 64) (e70 : I' 50 0 70 = I 50 0 70) (e71 : I' 50 0 71 = I 50 0 71) (s61 : ∀ j, I' 61 0 j = I 61 0 j) : mN I' := by
  obtain ⟨⟨z1, z2, z3, z4, z5, z6, z7, z8, z9, z10⟩, nw, z11, z12⟩ := b
  exact ⟨⟨by rw [em 50 48 (by decide)]; exact z1, by rw [em 54 5 (by decide)]; exact z2, by rw [em 54 6 (by decide)]; exact z3, by rw [em 54 7 (by decide)]; exact z4, by rw [s61]; exact z5, by rw [s61]; exact z6, by rw [s61]; exact z7, by rw [s61]; exact z8, by rw [e64]; exact z9, by rw [e70]; exact z10⟩, nw, z11, by rw [e71]; exact z12⟩
/-- the course's part stays -/
theorem gCs_c (b : gCs I J h) (e : gKeep h I I') (ej : ∀ j, 16 ≤ j → J' 55 0 j = J 55 0 j) : gCs I' J' h := by
  obtain ⟨e10, ec, e20, ⟨e21, e22, e28⟩, em, ⟨e64, e70, e71⟩, s61, s64, s67⟩ := e
  rcases b with ⟨C, t, lg, nl, ac, sn, rm, hok, hk, hm⟩ | ⟨lg, hk, hm⟩
  · exact Or.inl ⟨C, t, lg, nl, ac, sn, rm, hok, kW_a hk e10 ec e20 (kS_congr hk.2.2.1 e21 e22) (kPa_congr hk.2.2.2.1 e28), mW_a hm em e64 s64 ej (mS_congr hok.1 hm.2.2.1 (fun j _ => s61 j)) (mKp_congr hm.2.2.2.1 (fun j _ => s61 j)) (mPa_c hm.2.2.2.2.1 e70 e71 s67)⟩
  · exact Or.inr ⟨lg, ⟨by rw [e10]; exact hk.1, kPa_congr hk.2 e28⟩, mN_c hm em e64 e70 e71 s61⟩
theorem mBs_k (b : mBs I J tp n rf im sz f p dr) (e : ∀ k i j, 50 ≤ k → I' k i j = I k i j) (ej : J' 50 0 72 = J 50 0 72) : mBs I' J' tp n rf im sz f p dr := mBs_c b (fun k i j hk => e _ _ _ (by omega)) ej
theorem mW_k (hc : cOk C) (b : mW I J C t lg nl ac sn rm) (e : ∀ k i j, 50 ≤ k → I' k i j = I k i j) (ej : ∀ j, 16 ≤ j → J' 55 0 j = J 55 0 j) : mW I' J' C t lg nl ac sn rm := mW_a b (fun k j hk => e _ _ _ (by omega)) (e _ _ _ (by decide)) (fun j => e _ _ _ (by decide)) ej (mS_congr hc b.2.2.1 (fun j hj => e _ _ _ (by decide))) (mKp_congr b.2.2.2.1 (fun j hj => e _ _ _ (by decide))) (mPa_c b.2.2.2.2.1 (e _ _ _ (by decide)) (e _ _ _ (by decide)) (fun j => e _ _ _ (by decide)))
theorem mN_k (b : mN I) (e : ∀ k i j, 50 ≤ k → I' k i j = I k i j) : mN I' := mN_c b (fun k j hk => e _ _ _ (by omega)) (e _ _ _ (by decide)) (e _ _ _ (by decide)) (e _ _ _ (by decide)) (fun j => e _ _ _ (by decide))
/-- a call that only asks -/
theorem gInv_q (hob : okB tp n sz dr) (hkb : kBs I J h tp n rf im sz f p dr) (hmb : mBs I J tp n rf im sz f p dr) (hcs : gCs I J h) (ek : ∀ k i j, (k = 1 ∨ k = 3 ∨ k = 10 ∧ (j = 12 ∨ j = 13) ∨ k = 11 ∧ j = 1 ∨ k = 12 ∨ k = 31 ∧ j = 1 ∨ k = 32 ∨ k = 33) → i = 0 → I' k i j = I k i j) (em : ∀ k i j, (k = 53 ∨ i = 0 ∧ (k = 50 ∧ (j = 1 ∨ j = 7 ∨ j = 8 ∨ j = 62 ∨ j = 109) ∨ k = 51 ∨ k = 52 ∨ k = 71)) → I' k i j = I k i j) (eg : gKeep h I I') (e1 : J' 10 0 11 = J 10 0 11) (e2 : J' 50 0 72 = J 50 0 72) (e3 : ∀ j, J' 55 0 j = J 55 0 j) : gInv I' J' h :=
  ⟨tp, n, rf, im, sz, f, p, dr, hob, kBs_c hkb ek e1, mBs_c hmb em e2, gCs_c hcs eg (fun j _ => e3 j)⟩
end Cong
