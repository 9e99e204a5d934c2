/-! The model reads a part. -/
def mQG (d S : Nat) (h : Nat × Option gNm) (J : Nat → Nat → Nat → Int64) (was : Int32) (Q0 : Option gV → gW → Prop) : Option gV → gW → Prop := fun rv w => gq (d + 7) 261 41 [some (.inr (.inr (some (50, 0)))), some (.inl was), some (.inl 1)] (rv.toList ++ []) w Q0
def mQP (d S : Nat) (h : Nat × Option gNm) (J : Nat → Nat → Nat → Int64) (was : Int32) (Q0 : Option gV → gW → Prop) : Option gV → gW → Prop := fun rv w => gq (d + 7) 261 30 [some (.inr (.inr (some (50, 0)))), some (.inl was), some (.inl 1)] (rv.toList ++ []) w Q0
/-- behind a part -/
def mGH (d S : Nat) (h : Nat × Option gNm) (J : Nat → Nat → Nat → Int64) (was : Int32) (Q0 : Option gV → gW → Prop) (I : Nat → Nat → Nat → Int32) : Prop := ∀ x1, (gq (d + 6) 260 0 [some (.inr (.inr (some (50, 0)))), x1] [] (gwd S I J h) (mQG d S h J was Q0))
/-- ahead of a part -/
def mPH (d S : Nat) (h : Nat × Option gNm) (J : Nat → Nat → Nat → Int64) (was : Int32) (Q0 : Option gV → gW → Prop) (I : Nat → Nat → Nat → Int32) : Prop := ∀ x2 x3 x4 x5, (gq (d + 6) 259 6 [some (.inr (.inr (some (50, 0)))), some (.inl (1)), x2, x3, x4, x5] [] (gwd S I J h) (mQP d S h J was Q0))
/-- what a fault leads to -/
def mBE (S : Nat) (h : Nat × Option gNm) (J : Nat → Nat → Nat → Int64) (was : Int32) (Q0 : Option gV → gW → Prop) (I0 : Nat → Nat → Nat → Int32) (tp : Nat → Int) (n : Nat) (f : Int × Int) : Prop := ∀ (I' : Nat → Nat → Nat → Int32), FM I0 I' → mTk I' tp n (.inl f) → 0 ≤ (I' 50 0 99).toInt → (I' 50 0 99).toInt ≤ 1650 → Q0 none (gwd S (gup I' 50 0 103 was) J h)
variable {d S : Nat} {h : Nat × Option gNm} {I I0 : Nat → Nat → Nat → Int32} {J : Nat → Nat → Nat → Int64} {Q Q0 : Option gV → gW → Prop}
variable {tp : Nat → Int} {n s b t o : Nat} {g : Bool} {was : Int32}
theorem mQG_1 (h5 : I 50 0 5 = 0) (hP : mPH d S h J was Q0 I) : mQG d S h J was Q0 (some (.inl 1)) (gwd S I J h) := by
  unfold mQG
  rw [Option.toList_some, List.singleton_append, gb_261_41, if_neg (by decide), gb_261_44, gb_261_49, gb_261_15, if_neg (by decide), gb_261_19, if_pos h5, gb_261_26, gb_259_0, gb_259_2, if_neg (by decide)]
  exact hP _ _ _ _
theorem mQG_bad {f : Int × Int} (hK : mBE S h J was Q0 I0 tp n f) (hF : FM I0 I) (ht : mTk I tp n (.inl f)) (c0 : 0 ≤ (I 50 0 99).toInt) (c1 : (I 50 0 99).toInt ≤ 1650) : mQG d S h J was Q0 (some (.inl 0)) (gwd S I J h) := by
  unfold mQG
  rw [Option.toList_some, List.singleton_append, gb_261_41, if_pos rfl, gb_261_48, gb_261_49, gb_261_15, if_pos rfl, gb_261_53, if_neg (mTk_bad ht), gb_261_78]
  exact hK I hF ht c0 c1
theorem mQP_bad {f : Int × Int} (hK : mBE S h J was Q0 I0 tp n f) (hF : FM I0 I) (ht : mTk I tp n (.inl f)) (c0 : 0 ≤ (I 50 0 99).toInt) (c1 : (I 50 0 99).toInt ≤ 1650) : mQP d S h J was Q0 none (gwd S I J h) := by
  unfold mQP
  rw [Option.toList_none, List.nil_append, gb_261_30, if_neg (mTk_bad ht), gb_261_48, gb_261_49, gb_261_15, if_pos rfl, gb_261_53, if_neg (mTk_bad ht), gb_261_78]
  exact hK I hF ht c0 c1
theorem mQP_ok (h5 : I 50 0 5 = 0) (hG : mGH d S h J was Q0 I) : mQP d S h J was Q0 none (gwd S I J h) := by
  unfold mQP
  rw [Option.toList_none, List.nil_append, gb_261_30, if_pos h5, gb_261_37]
  exact hG _
/-- a fault within a part's loop -/
theorem mPH_bad {f : Int × Int} (hK : mBE S h J was Q0 I0 tp n f) (hF : FM I0 I) (ht : mTk I tp n (.inl f)) (c0 : 0 ≤ (I 50 0 99).toInt) (c1 : (I 50 0 99).toInt ≤ 1650) : mPH d S h J was Q0 I := by
  intro x2 x3 x4 x5
  rw [gb_259_6, if_neg (mTk_bad ht), gb_259_186, if_neg (mTk_bad ht), gb_259_193]
  exact mQP_bad hK hF ht c0 c1
theorem mPs_cnt {W L : List Int} {oo : Int} (hp : mPs I tp n s g oo W L b) (hn : n ≤ 1600) : 0 ≤ (I 50 0 99).toInt ∧ (I 50 0 99).toInt ≤ 1600 := by
  have h1 := hp.2.2.2.1.1
  have h2 := hp.2.2.2.2.1
  have h3 := mTk_sn hp.1
  omega
/-- a bracket that is to close, behind its sum -/
theorem n_sumEnd {P W L : List Int} {v : Int} {oo : Int} (hx : mTx I tp n) (hF : FM I0 I) (hp : mPs I tp n s g oo (P.map gMc ++ (v :: W)) L b) (hP : ∀ c ∈ P, 1 ≤ gMc c ∧ gMc c ≤ 4) (hv : v = 20 ∨ v = 23 ∨ v = 24) (hbW : b ≤ W.length) (hO : ofOk W) (ho1 : -10000 ≤ oo - 1 - W.length) (ho2 : oo ≤ 10) (hop : ¬ lOp4 tp n s) (K0 : ¬ lB tp n s = 41 → mBE S h J was Q0 I0 tp n (1, s))
    (K : lB tp n s = 41 → ∀ (I' : Nat → Nat → Nat → Int32), FM I0 I' → mPs I' tp n (lNx tp n s g).1 (lNx tp n s g).2 (ePop b W (oo - 1) (L ++ P ++ clCode v)).1 (ePop b W (oo - 1) (L ++ P ++ clCode v)).2.1 (ePop b W (oo - 1) (L ++ P ++ clCode v)).2.2 b → mGH d S h J was Q0 I') : mGH d S h J was Q0 I := by
  intro x1
  have hn := hx.2.2.1
  have hB : ∀ c ∈ P, ¬ (20 ≤ gMc c ∧ gMc c ≤ 24) := fun c hc => by have := hP c hc; omega
  have hB' : ∀ u ∈ P.map gMc, ¬ (20 ≤ u ∧ u ≤ 24) := fun u hu => by
    obtain ⟨c, h1, h2⟩ := List.mem_map.mp hu
    rw [← h2]; exact hB c h1
  have hvb : brOk b (v :: W) := Or.inr ⟨by simp only [List.length_cons]; omega, by show 20 ≤ v; omega, by show v ≤ 24; omega⟩
  have htop : mTop b (v :: W) = v := if_neg (by simp only [List.length_cons]; omega)
  by_cases c : lB tp n s = 41
  · exact n_G_close hx hp hB hv hbW hO ho1 ho2 c fun I' x1 hF' hp' => K c I' (FM_trans hF hF') hp' x1
  · refine n_G_skip hx hp hB' hvb (fun q => c q.1) fun I1 hF1 hp1 hA1 => ?_
    have hx1 := mTx_FM hx (FM_2 hF1)
    refine n_G_none hx1 hp1 hop fun I2 hF2 hp2 hA2 => ?_
    have hx2 := mTx_FM hx1 (FM_2 hF2)
    refine n_G_last hx2 hp2 hB' hvb hA2 (by rw [htop]; omega) (fun q => by rw [htop] at q; omega) fun q I3 hF3 ht3 h99 => ?_
    have hc := mPs_cnt hp2 hn
    exact mQG_bad (K0 c) (FM_trans hF (FM_trans (FM_2 hF1) (FM_trans (FM_2 hF2) hF3))) ht3 (by rw [h99]; omega) (by rw [h99]; omega)
/-- a comma between two sums -/
theorem n_sumComma {P W L : List Int} {v : Int} {oo : Int} (hx : mTx I tp n) (hF : FM I0 I) (hp : mPs I tp n s g oo (P.map gMc ++ (v :: W)) L b) (hP : ∀ c ∈ P, 1 ≤ gMc c ∧ gMc c ≤ 4) (hv : v = 21 ∨ v = 22) (hbW : b ≤ W.length) (hop : ¬ lOp4 tp n s) (K0 : ¬ lB tp n s = 44 → mBE S h J was Q0 I0 tp n (1, s))
    (K : lB tp n s = 44 → ∀ (I' : Nat → Nat → Nat → Int32), FM I0 I' → mPs I' tp n (lNx tp n s g).1 (lNx tp n s g).2 oo ((v + 2) :: W) (L ++ P) b → mPH d S h J was Q0 I') : mGH d S h J was Q0 I := by
  intro x1
  have hn := hx.2.2.1
  have hB : ∀ c ∈ P, ¬ (20 ≤ gMc c ∧ gMc c ≤ 24) := fun c hc => by have := hP c hc; omega
  have hB' : ∀ u ∈ P.map gMc, ¬ (20 ≤ u ∧ u ≤ 24) := fun u hu => by
    obtain ⟨c, h1, h2⟩ := List.mem_map.mp hu
    rw [← h2]; exact hB c h1
  have hvb : brOk b (v :: W) := Or.inr ⟨by simp only [List.length_cons]; omega, by show 20 ≤ v; omega, by show v ≤ 24; omega⟩
  have htop : mTop b (v :: W) = v := if_neg (by simp only [List.length_cons]; omega)
  refine n_G_skip hx hp hB' hvb (fun q => by rw [htop] at q; omega) fun I1 hF1 hp1 hA1 => ?_
  have hx1 := mTx_FM hx (FM_2 hF1)
  refine n_G_none hx1 hp1 hop fun I2 hF2 hp2 hA2 => ?_
  have hx2 := mTx_FM hx1 (FM_2 hF2)
  have hF02 := FM_trans hF (FM_trans (FM_2 hF1) (FM_2 hF2))
  refine n_G_comma hx2 hp2 hB hv hbW (fun c I3 hF3 ht3 h99 => ?_) (fun c I3 hF3 hp3 => ?_)
  · have hc := mPs_cnt hp2 hn
    exact mQG_bad (K0 c) (FM_trans hF02 hF3) ht3 (by rw [h99]; omega) (by rw [h99]; omega)
  · exact mQG_1 hp3.1.1 (K c I3 (FM_trans hF02 hF3) hp3)
/-- the codes of operators that are pending -/
def pMul (B : List Int) : Prop := ∀ c ∈ B, c = -43 ∨ c = -48
def pAdd (A : List Int) : Prop := ∀ c ∈ A, c = -44 ∨ c = -46
theorem pMul_g {B : List Int} (h : pMul B) : ∀ c ∈ B, gMc c = 3 ∨ gMc c = 4 := fun c hc => by
  rcases h c hc with rfl | rfl
  · exact Or.inl rfl
  · exact Or.inr rfl
theorem pAdd_g {A : List Int} (h : pAdd A) : ∀ c ∈ A, gMc c = 1 ∨ gMc c = 2 := fun c hc => by
  rcases h c hc with rfl | rfl
  · exact Or.inl rfl
  · exact Or.inr rfl
theorem pBoth_g {A B : List Int} (hB : pMul B) (hA : pAdd A) : ∀ c ∈ B ++ A, 1 ≤ gMc c ∧ gMc c ≤ 4 := fun c hc => by
  rcases List.mem_append.mp hc with h | h
  · have := pMul_g hB c h; omega
  · have := pAdd_g hA c h; omega
/-- what the modes of a sum do, with so much fuel: a part -/
def mSp0 (tp : Nat → Int) (n t d S : Nat) (h : Nat × Option gNm) (J : Nat → Nat → Nat → Int64) (was : Int32) (Q0 : Option gV → gW → Prop) (I0 : Nat → Nat → Nat → Int32) (b f : Nat) : Prop := ∀ (o s : Nat) (g : Bool) (I : Nat → Nat → Nat → Int32) (W L : List Int), o ≤ 6 → FM I0 I → mPs I tp n s g o W L b → b ≤ W.length → ofOk W → 10 * (n - s) + 0 < f →
  (∀ q l, rd tp n (alT t) f 0 o s g = (.inl q, l) → mBE S h J was Q0 I0 tp n q) →
  (∀ (I' : Nat → Nat → Nat → Int32) s1 g1 l, rd tp n (alT t) f 0 o s g = (.inr (s1, g1), l) → FM I0 I' → mPs I' tp n s1 g1 (ePop b W o (L ++ l)).1 (ePop b W o (L ++ l)).2.1 (ePop b W o (L ++ l)).2.2 b → mGH d S h J was Q0 I') → mPH d S h J was Q0 I
/-- a sum -/
def mSp4 (tp : Nat → Int) (n t d S : Nat) (h : Nat × Option gNm) (J : Nat → Nat → Nat → Int64) (was : Int32) (Q0 : Option gV → gW → Prop) (I0 : Nat → Nat → Nat → Int32) (b f : Nat) : Prop := ∀ (o s : Nat) (g : Bool) (I : Nat → Nat → Nat → Int32) (W L : List Int), o ≤ 6 → FM I0 I → mPs I tp n s g o W L b → brOk b W → (W.headD 0 < 1 ∨ 4 < W.headD 0) → ofOk W → 10 * (n - s) + 4 < f →
  (∀ q l, rd tp n (alT t) f 4 o s g = (.inl q, l) → mBE S h J was Q0 I0 tp n q) →
  (∀ (I' : Nat → Nat → Nat → Int32) s1 g1 l A B L', rd tp n (alT t) f 4 o s g = (.inr (s1, g1), l) → FM I0 I' → mPs I' tp n s1 g1 o ((B ++ A).map gMc ++ W) L' b → L' ++ (B ++ A) = L ++ l → pMul B → pAdd A → ¬ lOp4 tp n s1 → mGH d S h J was Q0 I') → mPH d S h J was Q0 I
theorem ofOk_cons {W : List Int} {v : Int} (h : ofOk W) (hv : v < 60 ∨ v = 60 ∨ v = 61) : ofOk (v :: W) := fun u hu h60 => by
  rcases List.mem_cons.mp hu with e | e
  · rw [e] at h60 ⊢; omega
  · exact h u e h60
