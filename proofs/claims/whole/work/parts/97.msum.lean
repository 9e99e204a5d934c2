/-! The model reads products and sums. -/
variable {d S : Nat} {h : Nat × Option gNm} {I I0 : Nat → Nat → Nat → Int32} {J : Nat → Nat → Nat → Int64} {Q Q0 : Option gV → gW → Prop}
variable {tp : Nat → Int} {n s b t o : Nat} {g : Bool} {was : Int32}
def mSp1 (tp : Nat → Int) (n t d S : Nat) (h : Nat × Option gNm) (J : Nat → Nat → Nat → Int64) (was : Int32) (Q0 : Option gV → gW → Prop) (I0 : Nat → Nat → Nat → Int32) (b f : Nat) : Prop := ∀ (o s : Nat) (g : Bool) (I : Nat → Nat → Nat → Int32) (A B W L : List Int), o ≤ 6 → FM I0 I → mPs I tp n s g o ((B ++ A).map gMc ++ W) L b → brOk b W → (W.headD 0 < 1 ∨ 4 < W.headD 0) → ofOk W → pMul B → pAdd A → 10 * (n - s) + 1 < f →
  (∀ q l, rd tp n (alT t) f 1 o s g = (.inl q, l) → mBE S h J was Q0 I0 tp n q) →
  (∀ (I' : Nat → Nat → Nat → Int32) s1 g1 l B' L', rd tp n (alT t) f 1 o s g = (.inr (s1, g1), l) → FM I0 I' → mPs I' tp n s1 g1 o ((B' ++ A).map gMc ++ W) L' b → L' ++ B' = L ++ B ++ l → pMul B' → ¬ (lB tp n s1 = 42 ∨ lB tp n s1 = 47) → mGH d S h J was Q0 I') → mGH d S h J was Q0 I
def mSp2 (tp : Nat → Int) (n t d S : Nat) (h : Nat × Option gNm) (J : Nat → Nat → Nat → Int64) (was : Int32) (Q0 : Option gV → gW → Prop) (I0 : Nat → Nat → Nat → Int32) (b f : Nat) : Prop := ∀ (o s : Nat) (g : Bool) (I : Nat → Nat → Nat → Int32) (A W L : List Int), o ≤ 6 → FM I0 I → mPs I tp n s g o (A.map gMc ++ W) L b → brOk b W → (W.headD 0 < 1 ∨ 4 < W.headD 0) → ofOk W → pAdd A → 10 * (n - s) + 2 < f →
  (∀ q l, rd tp n (alT t) f 2 o s g = (.inl q, l) → mBE S h J was Q0 I0 tp n q) →
  (∀ (I' : Nat → Nat → Nat → Int32) s1 g1 l B' L', rd tp n (alT t) f 2 o s g = (.inr (s1, g1), l) → FM I0 I' → mPs I' tp n s1 g1 o ((B' ++ A).map gMc ++ W) L' b → L' ++ B' = L ++ l → pMul B' → ¬ (lB tp n s1 = 42 ∨ lB tp n s1 = 47) → mGH d S h J was Q0 I') → mPH d S h J was Q0 I
def mSp3 (tp : Nat → Int) (n t d S : Nat) (h : Nat × Option gNm) (J : Nat → Nat → Nat → Int64) (was : Int32) (Q0 : Option gV → gW → Prop) (I0 : Nat → Nat → Nat → Int32) (b f : Nat) : Prop := ∀ (o s : Nat) (g : Bool) (I : Nat → Nat → Nat → Int32) (A B W L : List Int), o ≤ 6 → FM I0 I → mPs I tp n s g o ((B ++ A).map gMc ++ W) L b → brOk b W → (W.headD 0 < 1 ∨ 4 < W.headD 0) → ofOk W → pMul B → pAdd A → ¬ (lB tp n s = 42 ∨ lB tp n s = 47) → 10 * (n - s) + 3 < f →
  (∀ q l, rd tp n (alT t) f 3 o s g = (.inl q, l) → mBE S h J was Q0 I0 tp n q) →
  (∀ (I' : Nat → Nat → Nat → Int32) s1 g1 l A' B' L', rd tp n (alT t) f 3 o s g = (.inr (s1, g1), l) → FM I0 I' → mPs I' tp n s1 g1 o ((B' ++ A').map gMc ++ W) L' b → L' ++ (B' ++ A') = L ++ (B ++ A) ++ l → pMul B' → pAdd A' → ¬ lOp4 tp n s1 → mGH d S h J was Q0 I') → mGH d S h J was Q0 I
theorem brOk_le {W : List Int} (h : brOk b W) : b ≤ W.length := by rcases h with h | h <;> omega
theorem hd_add {A W : List Int} (hA : pAdd A) (hW : W.headD 0 < 1 ∨ 4 < W.headD 0) : (A.map gMc ++ W).headD 0 ≠ 3 ∧ (A.map gMc ++ W).headD 0 ≠ 4 := by
  match A, hA with
  | [], _ => exact ⟨by show W.headD 0 ≠ 3; omega, by show W.headD 0 ≠ 4; omega⟩
  | a :: A', hA =>
    have := pAdd_g hA a List.mem_cons_self
    exact ⟨by show gMc a ≠ 3; omega, by show gMc a ≠ 4; omega⟩
theorem of_add {A W : List Int} (hA : pAdd A) (hO : ofOk W) : ofOk (A.map gMc ++ W) := fun u hu h60 => by
  rcases List.mem_append.mp hu with e | e
  · obtain ⟨c, h1, h2⟩ := List.mem_map.mp e
    have := pAdd_g hA c h1
    omega
  · exact hO u e h60
theorem nb_pend {A B : List Int} (hB : pMul B) (hA : pAdd A) : ∀ u ∈ (B ++ A).map gMc, ¬ (20 ≤ u ∧ u ≤ 24) := fun u hu => by
  obtain ⟨c, h1, h2⟩ := List.mem_map.mp hu
  have := pBoth_g hB hA c h1
  omega
theorem n_sp1 {f : Nat} (i0 : mSp0 tp n t d S h J was Q0 I0 b f) (i1 : mSp1 tp n t d S h J was Q0 I0 b f) (hx0 : mTx I0 tp n) : mSp1 tp n t d S h J was Q0 I0 b (f + 1) := by
  intro o s g I A B W L h6 hF hp hbr hW hO hB hA hf Kb K
  have hx := mTx_FM hx0 hF
  have hn := hx0.2.2.1
  have hsn := mTk_sn hp.1
  have hnx := lNx_r (tp := tp) (g := g) hsn
  rw [rd_loop (by decide)] at K Kb
  by_cases hop : lB tp n s = 42 ∨ lB tp n s = 47
  case neg =>
    have e : lOpc tp n 1 s g = -1 := if_neg hop
    rw [if_pos e] at K
    exact K I s g [] B L rfl hF hp (by rw [List.append_nil]) hB hop
  have e : lOpc tp n 1 s g = lB tp n s := if_pos hop
  rw [e, if_neg (by omega)] at K Kb
  have hlt : s < n := lB_le (tp := tp) (by omega)
  have hs1 := hnx.2.2.1 hlt
  intro x1
  refine n_G_skip hx hp (nb_pend hB hA) hbr (fun q => by omega) fun I1 hF1 hp1 hA1 => ?_
  have hx1 := mTx_FM hx (FM_2 hF1)
  rw [List.map_append, List.append_assoc] at hp1
  refine n_G_mul hx1 hp1 (pMul_g hB) (hd_add hA hW) hop fun I2 hF2 hp2 => ?_
  have hF02 := FM_trans hF (FM_trans (FM_2 hF1) hF2)
  refine mQG_1 hp2.1.1 ?_
  have hg : gMc (-1 - lB tp n s) = 3 ∨ gMc (-1 - lB tp n s) = 4 := by rcases hop with q | q <;> rw [q]; exact Or.inl rfl; exact Or.inr rfl
  have hlen : (A.map gMc ++ W).length = A.length + W.length := by rw [List.length_append, List.length_map]
  have hbW := brOk_le hbr
  refine i0 o (lNx tp n s g).1 (lNx tp n s g).2 I2 _ _ h6 hF02 hp2 (by simp only [List.length_cons]; omega) (ofOk_cons (of_add hA hO) (by omega)) (by omega) (fun q l hr => ?_) (fun I3 s1 g1 l1 hr hF3 hp3 => ?_)
  · have hr' : rd tp n (alT t) f (1 - 1) o (lNx tp n s g).1 (lNx tp n s g).2 = (.inl q, l) := hr
    rw [hr', bR_l] at Kb
    exact Kb q [] rfl
  · have hr' : rd tp n (alT t) f (1 - 1) o (lNx tp n s g).1 (lNx tp n s g).2 = (.inr (s1, g1), l1) := hr
    rw [hr', bR_r] at Kb K
    rw [ePop_id (Or.inr (by show gMc (-1 - lB tp n s) < 60; omega))] at hp3
    have hlen1 := rd_len hx0.2.2.2.1 f 0 o _ _ _ _ hnx.2.1 (by decide) hr
    have l1s : (lNx tp n s g).1 + l1.length ≤ s1 := hlen1.1
    refine i1 o s1 g1 I3 A [-1 - lB tp n s] W (L ++ B ++ l1) h6 hF3 hp3 hbr hW hO (fun c hc => by rw [List.mem_singleton.mp hc]; omega) hA (by omega) (fun q l hr2 => ?_) (fun I4 s2 g2 l2 B' L' hr2 hF4 hp4 hL hB' hno => ?_)
    · rw [hr2, bR_l] at Kb; exact Kb q [] rfl
    · rw [hr2, bR_r] at K
      refine K I4 s2 g2 _ B' L' rfl hF4 hp4 ?_ hB' hno
      rw [hL]; simp only [List.append_assoc, List.cons_append, List.nil_append]
theorem n_sp2 {f : Nat} (i0 : mSp0 tp n t d S h J was Q0 I0 b f) (i1 : mSp1 tp n t d S h J was Q0 I0 b f) (hx0 : mTx I0 tp n) : mSp2 tp n t d S h J was Q0 I0 b (f + 1) := by
  intro o s g I A W L h6 hF hp hbr hW hO hA hf Kb K
  have hsn := mTk_sn hp.1
  rw [rd_full (by decide)] at K Kb
  have hlen : (A.map gMc ++ W).length = A.length + W.length := by rw [List.length_append, List.length_map]
  have hbW := brOk_le hbr
  refine i0 o s g I _ L h6 hF hp (by omega) (of_add hA hO) (by omega) (fun q l hr => ?_) (fun I3 s1 g1 l1 hr hF3 hp3 => ?_)
  · have hr' : rd tp n (alT t) f (2 - 2) o s g = (.inl q, l) := hr
    rw [hr', bR_l] at Kb
    exact Kb q [] rfl
  · have hr' : rd tp n (alT t) f (2 - 2) o s g = (.inr (s1, g1), l1) := hr
    rw [hr', bR_r] at Kb K
    have hlen1 := rd_len hx0.2.2.2.1 f 0 o _ _ _ _ hsn (by decide) hr
    have l1s : s + l1.length ≤ s1 := hlen1.1
    rw [ePop_id (by
      match A, hA with
      | [], _ =>
        rcases hbr with q | q
        · exact Or.inl (by show W.length ≤ b; omega)
        · exact Or.inr (by show W.headD 0 < 60; omega)
      | a :: A', hA =>
        have := pAdd_g hA a List.mem_cons_self
        exact Or.inr (by show gMc a < 60; omega))] at hp3
    refine i1 o s1 g1 I3 A [] W (L ++ l1) h6 hF3 hp3 hbr hW hO (fun c hc => by cases hc) hA (by omega) (fun q l hr2 => ?_) (fun I4 s2 g2 l2 B' L' hr2 hF4 hp4 hL hB' hno => ?_)
    · have hr2' : rd tp n (alT t) f (2 - 1) o s1 g1 = (.inl q, l) := hr2
      rw [hr2', bR_l] at Kb; exact Kb q [] rfl
    · have hr2' : rd tp n (alT t) f (2 - 1) o s1 g1 = (.inr (s2, g2), l2) := hr2
      rw [hr2', bR_r] at K
      refine K I4 s2 g2 _ B' L' rfl hF4 hp4 ?_ hB' hno
      rw [hL]; simp only [List.append_assoc, List.nil_append]
theorem n_sp3 {f : Nat} (i2 : mSp2 tp n t d S h J was Q0 I0 b f) (i3 : mSp3 tp n t d S h J was Q0 I0 b f) (hx0 : mTx I0 tp n) : mSp3 tp n t d S h J was Q0 I0 b (f + 1) := by
  intro o s g I A B W L h6 hF hp hbr hW hO hB hA hnm hf Kb K
  have hx := mTx_FM hx0 hF
  have hn := hx0.2.2.1
  have hsn := mTk_sn hp.1
  have hnx := lNx_r (tp := tp) (g := g) hsn
  rw [rd_loop (by decide)] at K Kb
  by_cases hop : lB tp n s = 43 ∨ lB tp n s = 45
  case neg =>
    have e : lOpc tp n 3 s g = -1 := if_neg hop
    rw [if_pos e] at K
    exact K I s g [] A B L rfl hF hp (by rw [List.append_nil]) hB hA (fun q => by unfold lOp4 at q; omega)
  have e : lOpc tp n 3 s g = lB tp n s := if_pos hop
  rw [e, if_neg (by omega)] at K Kb
  have hlt : s < n := lB_le (tp := tp) (by omega)
  have hs1 := hnx.2.2.1 hlt
  intro x1
  refine n_G_skip hx hp (nb_pend hB hA) hbr (fun q => by omega) fun I1 hF1 hp1 hA1 => ?_
  have hx1 := mTx_FM hx (FM_2 hF1)
  refine n_G_add hx1 hp1 (pBoth_g hB hA) hW hop fun I2 hF2 hp2 => ?_
  have hF02 := FM_trans hF (FM_trans (FM_2 hF1) hF2)
  refine mQG_1 hp2.1.1 ?_
  refine i2 o (lNx tp n s g).1 (lNx tp n s g).2 I2 [-1 - lB tp n s] W _ h6 hF02 hp2 hbr hW hO (fun c hc => by rw [List.mem_singleton.mp hc]; omega) (by omega) (fun q l hr => ?_) (fun I3 s1 g1 l1 B1 L1 hr hF3 hp3 hL1 hB1 hno1 => ?_)
  · have hr' : rd tp n (alT t) f (3 - 1) o (lNx tp n s g).1 (lNx tp n s g).2 = (.inl q, l) := hr
    rw [hr', bR_l] at Kb
    exact Kb q [] rfl
  · have hr' : rd tp n (alT t) f (3 - 1) o (lNx tp n s g).1 (lNx tp n s g).2 = (.inr (s1, g1), l1) := hr
    rw [hr', bR_r] at Kb K
    have hlen1 := rd_len hx0.2.2.2.1 f 2 o _ _ _ _ hnx.2.1 (by decide) hr
    have l1s : (lNx tp n s g).1 + l1.length ≤ s1 := hlen1.1
    refine i3 o s1 g1 I3 [-1 - lB tp n s] B1 W L1 h6 hF3 hp3 hbr hW hO hB1 (fun c hc => by rw [List.mem_singleton.mp hc]; omega) hno1 (by omega) (fun q l hr2 => ?_) (fun I4 s2 g2 l2 A' B' L' hr2 hF4 hp4 hL hB' hA' hno => ?_)
    · rw [hr2, bR_l] at Kb; exact Kb q [] rfl
    · rw [hr2, bR_r] at K
      refine K I4 s2 g2 _ A' B' L' rfl hF4 hp4 ?_ hB' hA' hno
      rw [hL, ← List.append_assoc L1 B1, hL1]; simp only [List.append_assoc, List.cons_append, List.nil_append]
theorem n_sp4 {f : Nat} (i2 : mSp2 tp n t d S h J was Q0 I0 b f) (i3 : mSp3 tp n t d S h J was Q0 I0 b f) (hx0 : mTx I0 tp n) : mSp4 tp n t d S h J was Q0 I0 b (f + 1) := by
  intro o s g I W L h6 hF hp hbr hW hO hf Kb K
  have hsn := mTk_sn hp.1
  rw [rd_full (by decide)] at K Kb
  refine i2 o s g I [] W L h6 hF hp hbr hW hO (fun c hc => by cases hc) (by omega) (fun q l hr => ?_) (fun I3 s1 g1 l1 B1 L1 hr hF3 hp3 hL1 hB1 hno1 => ?_)
  · have hr' : rd tp n (alT t) f (4 - 2) o s g = (.inl q, l) := hr
    rw [hr', bR_l] at Kb
    exact Kb q [] rfl
  · have hr' : rd tp n (alT t) f (4 - 2) o s g = (.inr (s1, g1), l1) := hr
    rw [hr', bR_r] at Kb K
    have hlen1 := rd_len hx0.2.2.2.1 f 2 o _ _ _ _ hsn (by decide) hr
    have l1s : s + l1.length ≤ s1 := hlen1.1
    refine i3 o s1 g1 I3 [] B1 W L1 h6 hF3 hp3 hbr hW hO hB1 (fun c hc => by cases hc) hno1 (by omega) (fun q l hr2 => ?_) (fun I4 s2 g2 l2 A' B' L' hr2 hF4 hp4 hL hB' hA' hno => ?_)
    · have hr2' : rd tp n (alT t) f (4 - 1) o s1 g1 = (.inl q, l) := hr2
      rw [hr2', bR_l] at Kb; exact Kb q [] rfl
    · have hr2' : rd tp n (alT t) f (4 - 1) o s1 g1 = (.inr (s2, g2), l2) := hr2
      rw [hr2', bR_r] at K
      refine K I4 s2 g2 _ A' B' L' rfl hF4 hp4 ?_ hB' hA' hno
      rw [hL, List.append_nil, hL1, List.append_assoc]
theorem n_sps (hx0 : mTx I0 tp n) (h49 : (I0 50 0 49).toInt = t) (ht3 : t ≤ 3) : ∀ f, mSp0 tp n t d S h J was Q0 I0 b f ∧ mSp1 tp n t d S h J was Q0 I0 b f ∧ mSp2 tp n t d S h J was Q0 I0 b f ∧ mSp3 tp n t d S h J was Q0 I0 b f ∧ mSp4 tp n t d S h J was Q0 I0 b f
  | 0 => ⟨fun _ _ _ _ _ _ _ _ _ _ _ hf => absurd hf (by omega), fun _ _ _ _ _ _ _ _ _ _ _ _ _ _ _ _ hf => absurd hf (by omega), fun _ _ _ _ _ _ _ _ _ _ _ _ _ _ hf => absurd hf (by omega), fun _ _ _ _ _ _ _ _ _ _ _ _ _ _ _ _ _ hf => absurd hf (by omega), fun _ _ _ _ _ _ _ _ _ _ _ _ hf => absurd hf (by omega)⟩
  | f + 1 => by
    obtain ⟨i0, i1, i2, i3, i4⟩ := n_sps hx0 h49 ht3 f
    exact ⟨n_sp0 i0 i4 hx0 h49 ht3, n_sp1 i0 i1 hx0, n_sp2 i0 i1 hx0, n_sp3 i2 i3 hx0, n_sp4 i2 i3 hx0⟩
theorem n_dropAll {W : List Int} : ∀ (P : List Int) (I : Nat → Nat → Nat → Int32) (L : List Int), I 50 0 5 = 0 → (I 50 0 103).toInt = (W.length : Int) → mWt I (P.map gMc ++ W) → mCd I L → (P.map gMc ++ W).length + L.length < 1690 → (∀ (I' : Nat → Nat → Nat → Int32), (∀ k i j, ¬ ((k = 50 ∧ i = 0 ∧ (j = 99 ∨ j = 101)) ∨ (k = 68 ∧ i = 0)) → I' k i j = I k i j) → mWt I' W → mCd I' (L ++ P) → (gq (d + 7) 261 78 [some (.inr (.inr (some (50, 0)))), some (.inl (was)), some (.inl (0))] [] (gwd S I' J h) Q0)) → (gq (d + 7) 261 53 [some (.inr (.inr (some (50, 0)))), some (.inl (was)), some (.inl (0))] [] (gwd S I J h) Q0)
  | [], I, L, h5, hb, hw, hc, hl, K => by
    have q : (I 50 0 101).toInt = W.length := hw.1
    rw [List.append_nil] at K
    rw [gb_261_53, if_pos h5, gb_261_60, if_pos (by rw [z_le]; omega)]
    exact K I (fun _ _ _ _ => rfl) hw hc
  | c :: P, I, L, h5, hb, hw, hc, hl, K => by
    have hw' : mWt I (gMc c :: (P.map gMc ++ W)) := hw
    have hl' : (P.map gMc ++ W).length + 1 + L.length < 1690 := by simpa using hl
    have q := hw'.1
    simp only [List.length_cons] at q
    have hlen : (P.map gMc ++ W).length = P.length + W.length := by rw [List.length_append, List.length_map]
    rw [gb_261_53, if_pos h5, gb_261_60, if_neg (by rw [z_le]; omega), gb_261_71]
    refine n_drops hw' hc (by omega) (by omega) fun I1 hF1 hw1 hc1 => ?_
    rw [Option.toList_none, List.nil_append, gb_261_75]
    refine n_dropAll P I1 (L ++ [c]) (by rw [hF1 _ _ _ (by omega)]; exact h5) (by rw [hF1 _ _ _ (by omega)]; exact hb) hw1 hc1 (by rw [List.length_append (as := L)]; simp only [List.length_cons, List.length_nil]; omega) fun I2 hF2 hw2 hc2 => ?_
    rw [List.append_assoc] at hc2
    exact K I2 (fun k i j hn => by rw [hF2 _ _ _ hn, hF1 _ _ _ (by omega)]) hw2 hc2
/-- the model reads a sum -/
theorem n_sums {W L : List Int} {b0 f : Nat} {x1 x2 : Option gV} (hx : mTx I tp n) (h49 : (I 50 0 49).toInt = t) (ht3 : t ≤ 3) (h6 : o ≤ 6) (hp : mPs I tp n s g o W L b0) (hW : W.headD 0 < 1 ∨ 4 < W.headD 0) (hO : ofOk W) (hf : 10 * (n - s) + 4 < f)
    (Kb : ∀ (I' : Nat → Nat → Nat → Int32) q l, rd tp n (alT t) f 4 o s g = (.inl q, l) → FM I I' → mTk I' tp n (.inl q) → 0 ≤ (I' 50 0 99).toInt → (I' 50 0 99).toInt ≤ 1650 → Q none (gwd S I' J h))
    (K : ∀ (I' : Nat → Nat → Nat → Int32) s1 g1 l, rd tp n (alT t) f 4 o s g = (.inr (s1, g1), l) → FM I I' → mPs I' tp n s1 g1 o W (L ++ l) b0 → ¬ lOp4 tp n s1 → Q none (gwd S I' J h)) : (gq (d + 7) 261 0 [some (.inr (.inr (some (50, 0)))), x1, x2] [] (gwd S I J h) Q) := by
  have hn := hx.2.2.1
  rw [gb_261_0]
  have hF0 : (∀ k i j, ¬ ((k = 50 ∧ i = 0 ∧ j = 103)) → gup I 50 0 103 (I 50 0 101) k i j = I k i j) := fun k i j hn => u_ne hn
  have hb0 : gup I 50 0 103 (I 50 0 101) 50 0 103 = I 50 0 101 := u_eq
  generalize gup I 50 0 103 (I 50 0 101) = I0 at hF0 hb0
  have hFM0 : FM I I0 := fun k i j hn => hF0 _ _ _ (by omega)
  have hx0 := mTx_FM hx hFM0
  have hbl : (I0 50 0 103).toInt = W.length := by rw [hb0]; exact hp.2.2.1.1
  have hp0 : mPs I0 tp n s g o W L W.length := ⟨mTk_congr hp.1 (fun j hj => hF0 _ _ _ (by omega)), by rw [hF0 _ _ _ (by omega)]; exact hp.2.1, mWt_congr hp.2.2.1 (hF0 _ _ _ (by omega)) (fun j => hF0 _ _ _ (by omega)), mCd_congr hp.2.2.2.1 (hF0 _ _ _ (by omega)) (fun j => hF0 _ _ _ (by omega)), hp.2.2.2.2.1, hbl⟩
  rw [gb_261_15, if_neg (by decide), gb_261_19, if_pos hp0.1.1, gb_261_26, gb_259_0, gb_259_2, if_neg (by decide)]
  have back : ∀ {I' : Nat → Nat → Nat → Int32}, FM I0 I' → FM I (gup I' 50 0 103 (I 50 0 103)) := fun {I'} hF k i j hn => by rw [u_ne (by omega), hF _ _ _ hn, hFM0 _ _ _ hn]
  have sp := (n_sps (d := d) (S := S) (h := h) (J := J) (was := I 50 0 103) (Q0 := Q) (b := W.length) hx0 (by rw [hF0 _ _ _ (by omega)]; exact h49) ht3 f).2.2.2.2
  refine sp o s g I0 W L h6 FM_refl hp0 (Or.inl rfl) hW hO hf (fun q l hr => ?_) (fun I1 s1 g1 l A B L1 hr hF1 hp1 hL hB hA hop => ?_) _ _ _ _
  · intro I' hF' ht' c0 c1
    exact Kb _ q l hr (back hF') (mTk_congr ht' (fun j hj => u_j (by omega))) (by rw [u_j (by decide)]; exact c0) (by rw [u_j (by decide)]; exact c1)
  · intro x1
    have hx1 := mTx_FM hx0 hF1
    have htop : mTop W.length W = -1 := if_pos rfl
    refine n_G_skip hx1 hp1 (nb_pend hB hA) (Or.inl rfl) (fun q => by rw [htop] at q; omega) fun I2 hF2 hp2 hA2 => ?_
    have hx2 := mTx_FM hx1 (FM_2 hF2)
    refine n_G_none hx2 hp2 hop fun I3 hF3 hp3 hA3 => ?_
    have hx3 := mTx_FM hx2 (FM_2 hF3)
    refine n_G_last hx3 hp3 (nb_pend hB hA) (Or.inl rfl) hA3 (by rw [htop]; decide) (fun _ => ?_) (fun q => absurd htop q)
    unfold mQG
    have hs1 := mTk_sn hp3.1
    have hl3 := hp3.2.2.2.2.1
    rw [Option.toList_some, List.singleton_append, gb_261_41, if_pos rfl, gb_261_48, gb_261_49, gb_261_15, if_pos rfl]
    refine n_dropAll (B ++ A) I3 L1 hp3.1.1 hp3.2.2.2.2.2 hp3.2.2.1 hp3.2.2.2.1 (by omega) fun I4 hF4 hw4 hc4 => ?_
    rw [gb_261_78]
    rw [hL] at hc4
    have hlen : ((B ++ A).map gMc ++ W).length + L1.length = W.length + (L ++ l).length := by rw [← hL, List.length_append, List.length_map, List.length_append (as := L1)]; omega
    refine K _ s1 g1 l hr (back (FM_trans hF1 (fun k i j hn => by rw [hF4 _ _ _ (by omega), hF3 _ _ _ (by omega), hF2 _ _ _ (by omega)]))) ⟨mTk_congr hp3.1 (fun j hj => by rw [u_j (by omega), hF4 _ _ _ (by omega)]), by rw [u_j (by decide), hF4 _ _ _ (by omega)]; exact hp3.2.1, mWt_congr hw4 (u_j (by decide)) (fun j => u_k (by decide)), mCd_congr hc4 (u_j (by decide)) (fun j => u_k (by decide)), by omega, by rw [u_eq]; exact hp.2.2.2.2.2⟩ hop
