/-! The model behind a part: operators, a comma, what isn't closed, the end. -/
variable {d S : Nat} {h : Nat × Option gNm} {I : Nat → Nat → Nat → Int32} {J : Nat → Nat → Nat → Int64} {Q : Option gV → gW → Prop}
variable {tp : Nat → Int} {n s b : Nat} {g : Bool} {o : Int}
theorem FM_2 {I I' : Nat → Nat → Nat → Int32} (hF : (∀ k i j, ¬ ((k = 50 ∧ i = 0 ∧ j = 2)) → I' k i j = I k i j)) : FM I I' := fun k i j hn => hF _ _ _ (by omega)
/-- an operator takes the place of those that it drops -/
theorem n_push_mul {V L : List Int} {v : Int} {a1 : Int32} (hn : n ≤ 1600) (ht : mTk I tp n (.inr (s, g))) (ho : (I 50 0 102).toInt = o) (hw : mWt I V) (hc : mCd I L) (hl : V.length + L.length + 1 ≤ s) (hb : (I 50 0 103).toInt = b) (h1 : a1.toInt = v) (K : ∀ (I' : Nat → Nat → Nat → Int32), FM I I' → mPs I' tp n s g o (v :: V) L b → Q (some (.inl 1)) (gwd S I' J h)) : (gq d 260 185 [some (.inr (.inr (some (50, 0)))), some (.inl (a1))] [] (gwd S I J h) Q) := by
  have e1 : (1 : Int32).toInt = 1 := rfl
  have hsn := mTk_sn ht
  have q := hw.1
  rw [gb_260_185]
  refine ⟨g_in.mpr (by omega), ?_⟩
  rw [gb_260_195, z_n, q, Int.toNat_natCast]
  refine K _ (fun k i j hn => by rw [u_ne (by omega), u_ne (by omega)]) ⟨mTk_congr ht (fun j hj => by rw [u_j (by omega), u_k (by decide)]), by rw [u_j (by decide), u_k (by decide)]; exact ho, ⟨?_, ?_, ?_⟩, mCd_congr hc (by rw [u_j (by decide), u_k (by decide)]) (fun j => by rw [u_k (by decide), u_k (by decide)]), by simp only [List.length_cons]; omega, by rw [u_j (by decide), u_k (by decide)]; exact hb⟩
  · rw [u_eq, u_k (by decide), z_add (by omega) (by omega), q, e1]; rfl
  · rw [u_k (by decide), u_eq]; exact h1
  · exact gHp_congr (fun k hk => by rw [u_k (by decide), u_j (by omega)]) hw.2
theorem n_push_add {V L : List Int} {v : Int} {a1 : Int32} (hn : n ≤ 1600) (ht : mTk I tp n (.inr (s, g))) (ho : (I 50 0 102).toInt = o) (hw : mWt I V) (hc : mCd I L) (hl : V.length + L.length + 1 ≤ s) (hb : (I 50 0 103).toInt = b) (h1 : a1.toInt = v) (K : ∀ (I' : Nat → Nat → Nat → Int32), FM I I' → mPs I' tp n s g o (v :: V) L b → Q (some (.inl 1)) (gwd S I' J h)) : (gq d 260 286 [some (.inr (.inr (some (50, 0)))), some (.inl (a1))] [] (gwd S I J h) Q) := by
  have e1 : (1 : Int32).toInt = 1 := rfl
  have hsn := mTk_sn ht
  have q := hw.1
  rw [gb_260_286]
  refine ⟨g_in.mpr (by omega), ?_⟩
  rw [gb_260_296, z_n, q, Int.toNat_natCast]
  refine K _ (fun k i j hn => by rw [u_ne (by omega), u_ne (by omega)]) ⟨mTk_congr ht (fun j hj => by rw [u_j (by omega), u_k (by decide)]), by rw [u_j (by decide), u_k (by decide)]; exact ho, ⟨?_, ?_, ?_⟩, mCd_congr hc (by rw [u_j (by decide), u_k (by decide)]) (fun j => by rw [u_k (by decide), u_k (by decide)]), by simp only [List.length_cons]; omega, by rw [u_j (by decide), u_k (by decide)]; exact hb⟩
  · rw [u_eq, u_k (by decide), z_add (by omega) (by omega), q, e1]; rfl
  · rw [u_k (by decide), u_eq]; exact h1
  · exact gHp_congr (fun k hk => by rw [u_k (by decide), u_j (by omega)]) hw.2
theorem n_G_mul {B V L : List Int} {x1 : Option gV} (hx : mTx I tp n) (hp : mPs I tp n s g o (B.map gMc ++ V) L b) (hB : ∀ c ∈ B, gMc c = 3 ∨ gMc c = 4) (hV : V.headD 0 ≠ 3 ∧ V.headD 0 ≠ 4) (hc : lB tp n s = 42 ∨ lB tp n s = 47) (K : ∀ (I' : Nat → Nat → Nat → Int32), FM I I' → mPs I' tp n (lNx tp n s g).1 (lNx tp n s g).2 o (gMc (-1 - lB tp n s) :: V) (L ++ B) b → Q (some (.inl 1)) (gwd S I' J h)) : (gq (d + 6) 260 122 [some (.inr (.inr (some (50, 0)))), x1] [] (gwd S I J h) Q) := by
  have hn := hx.2.2.1
  have hsn := mTk_sn hp.1
  have hl := hp.2.2.2.2.1
  have hlt : s < n := lB_le (tp := tp) (by omega)
  have e1 : (1 : Int32).toInt = 1 := rfl
  have e42 : (42 : Int32).toInt = 42 := rfl
  have hlen : (B.map gMc ++ V).length = B.length + V.length := by rw [List.length_append, List.length_map]
  have hr1 := (lNx_r (tp := tp) (g := g) hsn).2.2.1 hlt
  have go : ∀ (I1 : Nat → Nat → Nat → Int32), (∀ k i j, ¬ ((k = 50 ∧ i = 0 ∧ j = 2)) → I1 k i j = I k i j) → (I1 50 0 2).toInt = s + 1 → mTk I1 tp n (.inr (lNx tp n s g)) → (gq (d + 6) 260 140 [some (.inr (.inr (some (50, 0)))), x1] [] (gwd S I1 J h) Q) := fun I1 hF1 hA1 ht1 => by
    have hp1 := mPs_sign hp hlt hF1 ht1
    have q : (I1 50 0 2 - 1).toInt = s := by rw [z_sub (by omega) (by omega), hA1, e1]; omega
    have nq : (I1 50 0 2 - 1).toNatClampNeg = s := by rw [z_n, q]; rfl
    have htp : (I1 51 0 s).toInt = tp s := by rw [hF1 _ _ _ (by omega)]; exact hx.1 s hlt
    rw [lB_lt hlt] at hc K
    have fin : ∀ v : Int32, v.toInt = gMc (-1 - tp s) → (gq (d + 6) 260 161 [some (.inr (.inr (some (50, 0)))), x1] [.inl (v)] (gwd S I1 J h) Q) := fun v hv => by
      rw [gb_260_161]
      refine n_mulLoop hV B I1 L hp1.2.2.1 hB hp1.2.2.2.1 (by omega) fun I2 hF2 hw2 hc2 => ?_
      have ht2 : mTk I2 tp n (.inr (lNx tp n s g)) := mTk_congr ht1 (fun j hj => hF2 _ _ _ (by omega))
      refine n_push_mul (s := (lNx tp n s g).1) (g := (lNx tp n s g).2) (o := o) (b := b) hn ht2 (by rw [hF2 _ _ _ (by omega)]; exact hp1.2.1) hw2 hc2 (by rw [List.length_append]; omega) (by rw [hF2 _ _ _ (by omega)]; exact hp1.2.2.2.2.2) hv fun I3 hF3 hp3 => K I3 (fun k i j hn => by rw [hF3 _ _ _ hn, hF2 _ _ _ (by omega), hF1 _ _ _ (by omega)]) hp3
    rw [gb_260_140]
    refine ⟨g_in.mpr (by omega), ?_⟩
    rw [nq, gb_260_151]
    by_cases w : tp s = 42
    · rw [if_pos (z_inj (by rw [htp, w, e42])), gb_260_156]; exact fin 3 (by rw [w]; rfl)
    · rw [if_neg (fun e => w (by rw [← htp, e, e42])), gb_260_160]; exact fin 4 (by rw [show tp s = 47 by omega]; rfl)
  rw [gb_260_122]
  refine n_tsign (c := 42) rfl (by decide) rfl rfl hx hp.1 (fun I1 s1 g1 he h1 h2 hF1 hA1 ht1 => ?_) (fun I1 hno hF1 hA1 ht1 => ?_)
  · obtain ⟨rfl, rfl⟩ : s = s1 ∧ g = g1 := by injection he with he; injection he with h1 h2; exact ⟨h1, h2⟩
    rw [Option.toList_some, List.singleton_append, gb_260_128, if_neg (by decide)]
    exact go I1 hF1 hA1 ht1
  · have c47 : lB tp n s = 47 := by
      rcases hc with c | c
      · rw [lIsC_iff.mpr c] at hno; cases hno
      · exact c
    rw [Option.toList_some, List.singleton_append, gb_260_128, if_pos rfl, gb_260_131]
    have hx1 := mTx_FM hx (FM_2 hF1)
    refine n_tsign (c := 47) rfl (by decide) rfl rfl hx1 ht1 (fun I2 s1 g1 he h1 h2 hF2 hA2 ht2 => ?_) (fun I2 hno2 hF2 hA2 ht2 => ?_)
    · obtain ⟨rfl, rfl⟩ : s = s1 ∧ g = g1 := by injection he with he; injection he with h1 h2; exact ⟨h1, h2⟩
      rw [Option.toList_some, List.singleton_append, gb_260_137, if_neg (by decide)]
      exact go I2 (fun k i j hn => by rw [hF2 _ _ _ hn, hF1 _ _ _ hn]) hA2 ht2
    · rw [lIsC_iff.mpr c47] at hno2; cases hno2
/-- none of two signs -/
theorem n_G_no1 {W L : List Int} {x1 : Option gV} (hx : mTx I tp n) (hp : mPs I tp n s g o W L b) (h1 : ¬ lB tp n s = 42) (h2 : ¬ lB tp n s = 47) (K : ∀ (I' : Nat → Nat → Nat → Int32), (∀ k i j, ¬ ((k = 50 ∧ i = 0 ∧ j = 2)) → I' k i j = I k i j) → mPs I' tp n s g o W L b → (gq (d + 6) 260 207 [some (.inr (.inr (some (50, 0)))), x1] [] (gwd S I' J h) Q)) : (gq (d + 6) 260 122 [some (.inr (.inr (some (50, 0)))), x1] [] (gwd S I J h) Q) := by
  rw [gb_260_122]
  refine n_tsign (c := 42) rfl (by decide) rfl rfl hx hp.1 (fun I1 s1 g1 he c1 c2 hF1 hA1 ht1 => ?_) (fun I1 hno hF1 hA1 ht1 => ?_)
  · obtain ⟨rfl, rfl⟩ : s = s1 ∧ g = g1 := by injection he with he; injection he with h1 h2; exact ⟨h1, h2⟩
    exact absurd c1 h1
  rw [Option.toList_some, List.singleton_append, gb_260_128, if_pos rfl, gb_260_131]
  have hx1 := mTx_FM hx (FM_2 hF1)
  refine n_tsign (c := 47) rfl (by decide) rfl rfl hx1 ht1 (fun I2 s1 g1 he c1 c2 hF2 hA2 ht2 => ?_) (fun I2 hno2 hF2 hA2 ht2 => ?_)
  · obtain ⟨rfl, rfl⟩ : s = s1 ∧ g = g1 := by injection he with he; injection he with h1 h2; exact ⟨h1, h2⟩
    exact absurd c1 h2
  rw [Option.toList_some, List.singleton_append, gb_260_137, if_pos rfl]
  have hF : (∀ k i j, ¬ ((k = 50 ∧ i = 0 ∧ j = 2)) → I2 k i j = I k i j) := fun k i j hn => by rw [hF2 _ _ _ hn, hF1 _ _ _ hn]
  exact K I2 hF (mPs_at hp hF ht2)
theorem n_G_add {B V L : List Int} {x1 : Option gV} (hx : mTx I tp n) (hp : mPs I tp n s g o (B.map gMc ++ V) L b) (hB : ∀ c ∈ B, 1 ≤ gMc c ∧ gMc c ≤ 4) (hV : V.headD 0 < 1 ∨ 4 < V.headD 0) (hc : lB tp n s = 43 ∨ lB tp n s = 45) (K : ∀ (I' : Nat → Nat → Nat → Int32), FM I I' → mPs I' tp n (lNx tp n s g).1 (lNx tp n s g).2 o (gMc (-1 - lB tp n s) :: V) (L ++ B) b → Q (some (.inl 1)) (gwd S I' J h)) : (gq (d + 6) 260 122 [some (.inr (.inr (some (50, 0)))), x1] [] (gwd S I J h) Q) := by
  refine n_G_no1 hx hp (by omega) (by omega) fun I0 hF0 hp0 => ?_
  have hx := mTx_FM hx (FM_2 hF0)
  have hn := hx.2.2.1
  have hsn := mTk_sn hp.1
  have hl := hp.2.2.2.2.1
  have hlt : s < n := lB_le (tp := tp) (by omega)
  have e1 : (1 : Int32).toInt = 1 := rfl
  have e43 : (43 : Int32).toInt = 43 := rfl
  have hlen : (B.map gMc ++ V).length = B.length + V.length := by rw [List.length_append, List.length_map]
  have hr1 := (lNx_r (tp := tp) (g := g) hsn).2.2.1 hlt
  have go : ∀ (I1 : Nat → Nat → Nat → Int32), (∀ k i j, ¬ ((k = 50 ∧ i = 0 ∧ j = 2)) → I1 k i j = I0 k i j) → (I1 50 0 2).toInt = s + 1 → mTk I1 tp n (.inr (lNx tp n s g)) → (gq (d + 6) 260 225 [some (.inr (.inr (some (50, 0)))), x1] [] (gwd S I1 J h) Q) := fun I1 hF1 hA1 ht1 => by
    have hp1 := mPs_sign hp0 hlt hF1 ht1
    have q : (I1 50 0 2 - 1).toInt = s := by rw [z_sub (by omega) (by omega), hA1, e1]; omega
    have nq : (I1 50 0 2 - 1).toNatClampNeg = s := by rw [z_n, q]; rfl
    have htp : (I1 51 0 s).toInt = tp s := by rw [hF1 _ _ _ (by omega)]; exact hx.1 s hlt
    rw [lB_lt hlt] at hc K
    have fin : ∀ v : Int32, v.toInt = gMc (-1 - tp s) → (gq (d + 6) 260 246 [some (.inr (.inr (some (50, 0)))), x1] [.inl (v)] (gwd S I1 J h) Q) := fun v hv => by
      rw [gb_260_246]
      refine n_addLoop hV B I1 L hp1.2.2.1 hB hp1.2.2.2.1 (by omega) fun I2 hF2 hw2 hc2 => ?_
      have ht2 : mTk I2 tp n (.inr (lNx tp n s g)) := mTk_congr ht1 (fun j hj => hF2 _ _ _ (by omega))
      refine n_push_add (s := (lNx tp n s g).1) (g := (lNx tp n s g).2) (o := o) (b := b) hn ht2 (by rw [hF2 _ _ _ (by omega)]; exact hp1.2.1) hw2 hc2 (by rw [List.length_append]; omega) (by rw [hF2 _ _ _ (by omega)]; exact hp1.2.2.2.2.2) hv fun I3 hF3 hp3 => K I3 (fun k i j hn => by rw [hF3 _ _ _ hn, hF2 _ _ _ (by omega), hF1 _ _ _ (by omega), hF0 _ _ _ (by omega)]) hp3
    rw [gb_260_225]
    refine ⟨g_in.mpr (by omega), ?_⟩
    rw [nq, gb_260_236]
    by_cases w : tp s = 43
    · rw [if_pos (z_inj (by rw [htp, w, e43])), gb_260_241]; exact fin 1 (by rw [w]; rfl)
    · rw [if_neg (fun e => w (by rw [← htp, e, e43])), gb_260_245]; exact fin 2 (by rw [show tp s = 45 by omega]; rfl)
  rw [gb_260_207]
  refine n_tsign (c := 43) rfl (by decide) rfl rfl hx hp0.1 (fun I1 s1 g1 he h1 h2 hF1 hA1 ht1 => ?_) (fun I1 hno hF1 hA1 ht1 => ?_)
  · obtain ⟨rfl, rfl⟩ : s = s1 ∧ g = g1 := by injection he with he; injection he with h1 h2; exact ⟨h1, h2⟩
    rw [Option.toList_some, List.singleton_append, gb_260_213, if_neg (by decide)]
    exact go I1 hF1 hA1 ht1
  · have c45 : lB tp n s = 45 := by
      rcases hc with c | c
      · rw [lIsC_iff.mpr c] at hno; cases hno
      · exact c
    rw [Option.toList_some, List.singleton_append, gb_260_213, if_pos rfl, gb_260_216]
    have hx1 := mTx_FM hx (FM_2 hF1)
    refine n_tsign (c := 45) rfl (by decide) rfl rfl hx1 ht1 (fun I2 s1 g1 he h1 h2 hF2 hA2 ht2 => ?_) (fun I2 hno2 hF2 hA2 ht2 => ?_)
    · obtain ⟨rfl, rfl⟩ : s = s1 ∧ g = g1 := by injection he with he; injection he with h1 h2; exact ⟨h1, h2⟩
      rw [Option.toList_some, List.singleton_append, gb_260_222, if_neg (by decide)]
      exact go I2 (fun k i j hn => by rw [hF2 _ _ _ hn, hF1 _ _ _ hn]) hA2 ht2
    · rw [lIsC_iff.mpr c45] at hno2; cases hno2
def lOp4 (tp : Nat → Int) (n s : Nat) : Prop := lB tp n s = 42 ∨ lB tp n s = 47 ∨ lB tp n s = 43 ∨ lB tp n s = 45
theorem n_G_none {W L : List Int} {x1 : Option gV} (hx : mTx I tp n) (hp : mPs I tp n s g o W L b) (hno : ¬ lOp4 tp n s) (K : ∀ (I' : Nat → Nat → Nat → Int32), (∀ k i j, ¬ ((k = 50 ∧ i = 0 ∧ j = 2)) → I' k i j = I k i j) → mPs I' tp n s g o W L b → (I' 50 0 2).toInt = s → (gq (d + 6) 260 308 [some (.inr (.inr (some (50, 0)))), x1] [] (gwd S I' J h) Q)) : (gq (d + 6) 260 122 [some (.inr (.inr (some (50, 0)))), x1] [] (gwd S I J h) Q) := by
  unfold lOp4 at hno
  refine n_G_no1 hx hp (by omega) (by omega) fun I0 hF0 hp0 => ?_
  have hx0 := mTx_FM hx (FM_2 hF0)
  rw [gb_260_207]
  refine n_tsign (c := 43) rfl (by decide) rfl rfl hx0 hp0.1 (fun I1 s1 g1 he c1 c2 hF1 hA1 ht1 => ?_) (fun I1 hno1 hF1 hA1 ht1 => ?_)
  · obtain ⟨rfl, rfl⟩ : s = s1 ∧ g = g1 := by injection he with he; injection he with h1 h2; exact ⟨h1, h2⟩
    exact absurd c1 (by omega)
  rw [Option.toList_some, List.singleton_append, gb_260_213, if_pos rfl, gb_260_216]
  have hx1 := mTx_FM hx0 (FM_2 hF1)
  refine n_tsign (c := 45) rfl (by decide) rfl rfl hx1 ht1 (fun I2 s1 g1 he c1 c2 hF2 hA2 ht2 => ?_) (fun I2 hno2 hF2 hA2 ht2 => ?_)
  · obtain ⟨rfl, rfl⟩ : s = s1 ∧ g = g1 := by injection he with he; injection he with h1 h2; exact ⟨h1, h2⟩
    exact absurd c1 (by omega)
  rw [Option.toList_some, List.singleton_append, gb_260_222, if_pos rfl]
  have hF : (∀ k i j, ¬ ((k = 50 ∧ i = 0 ∧ j = 2)) → I2 k i j = I k i j) := fun k i j hn => by rw [hF2 _ _ _ hn, hF1 _ _ _ hn, hF0 _ _ _ hn]
  exact K I2 hF (mPs_at hp hF ht2) hA2
theorem n_G_comma {B W L : List Int} {v : Int} {x1 : Option gV} (hx : mTx I tp n) (hp : mPs I tp n s g o (B.map gMc ++ (v :: W)) L b) (hB : ∀ c ∈ B, ¬ (20 ≤ gMc c ∧ gMc c ≤ 24)) (hv : v = 21 ∨ v = 22) (hbW : b ≤ W.length) (K0 : ¬ lB tp n s = 44 → ∀ (I' : Nat → Nat → Nat → Int32), FM I I' → mTk I' tp n (.inl (1, s)) → I' 50 0 99 = I 50 0 99 → Q (some (.inl 0)) (gwd S I' J h)) (K1 : lB tp n s = 44 → ∀ (I' : Nat → Nat → Nat → Int32), FM I I' → mPs I' tp n (lNx tp n s g).1 (lNx tp n s g).2 o ((v + 2) :: W) (L ++ B) b → Q (some (.inl 1)) (gwd S I' J h)) : (gq (d + 6) 260 308 [some (.inr (.inr (some (50, 0)))), x1] [] (gwd S I J h) Q) := by
  have hn := hx.2.2.1
  have hsn := mTk_sn hp.1
  have hl := hp.2.2.2.2.1
  have e1 : (1 : Int32).toInt = 1 := rfl
  have e2 : (2 : Int32).toInt = 2 := rfl
  have e21 : (21 : Int32).toInt = 21 := rfl
  have e22 : (22 : Int32).toInt = 22 := rfl
  have hvb : brOk b (v :: W) := Or.inr ⟨by simp only [List.length_cons]; omega, by show 20 ≤ v; omega, by show v ≤ 24; omega⟩
  have htop : mTop b (v :: W) = v := if_neg (by simp only [List.length_cons]; omega)
  have hP : ∀ u ∈ B.map gMc, ¬ (20 ≤ u ∧ u ≤ 24) := fun u hu => by
    obtain ⟨c, h1, h2⟩ := List.mem_map.mp hu
    rw [← h2]; exact hB c h1
  have hlen : (B.map gMc ++ (v :: W)).length = B.length + (W.length + 1) := by rw [List.length_append, List.length_map, List.length_cons]
  have hw := hp.2.2.1
  have hb := hp.2.2.2.2.2
  have go : (gq (d + 6) 260 326 [some (.inr (.inr (some (50, 0)))), x1] [] (gwd S I J h) Q) := by
    rw [gb_260_326]
    refine n_asign (c := 44) rfl (by decide) rfl rfl hx hp.1 fun I1 hF1 ht1 => ?_
    rw [Option.toList_none, List.nil_append, gb_260_332]
    by_cases c : lB tp n s = 44
    case neg =>
      have e : lAskC tp n (.inr (s, g)) 44 = .inl (1, s) := if_neg c
      rw [e] at ht1
      rw [if_neg (mTk_bad ht1), gb_260_339]
      exact K0 c I1 (fun k i j hn => hF1 _ _ _ (by omega)) ht1 (hF1 _ _ _ (by omega))
    have e : lAskC tp n (.inr (s, g)) 44 = .inr (lNx tp n s g) := if_pos c
    rw [e] at ht1
    have hlt : s < n := lB_le (tp := tp) (by omega)
    have hr1 := (lNx_r (tp := tp) (g := g) hsn).2.2.1 hlt
    rw [if_pos ht1.1, gb_260_341]
    refine n_dropsTo hvb B I1 L (by rw [hF1 _ _ _ (by omega)]; exact hb) (mWt_congr hw (hF1 _ _ _ (by omega)) (fun j => hF1 _ _ _ (by omega))) hB (mCd_congr hp.2.2.2.1 (hF1 _ _ _ (by omega)) (fun j => hF1 _ _ _ (by omega))) (by omega) fun I2 hF2 hw2 hc2 => ?_
    have q2 := hw2.1
    simp only [List.length_cons] at q2
    have q4 : (I2 50 0 101 - 1).toInt = W.length := by rw [z_sub (by omega) (by omega), q2, e1]; omega
    have n4 : (I2 50 0 101 - 1).toNatClampNeg = W.length := by rw [z_n, q4]; rfl
    have hvv : (I2 69 0 W.length).toInt = v := hw2.2.1
    rw [Option.toList_none, List.nil_append, gb_260_345]
    refine ⟨g_in.mpr (by omega), ?_⟩
    rw [gb_260_357]
    refine ⟨g_in.mpr (by omega), ?_⟩
    rw [n4, gb_260_360]
    refine K1 c _ (fun k i j hn => by rw [u_ne (by omega), hF2 _ _ _ (by omega), hF1 _ _ _ (by omega)]) ⟨mTk_congr ht1 (fun j hj => by rw [u_k (by decide), hF2 _ _ _ (by omega)]), by rw [u_k (by decide), hF2 _ _ _ (by omega), hF1 _ _ _ (by omega)]; exact hp.2.1, ⟨?_, ?_, ?_⟩, mCd_congr hc2 (by rw [u_k (by decide)]) (fun j => by rw [u_k (by decide)]), ?_, by rw [u_k (by decide), hF2 _ _ _ (by omega), hF1 _ _ _ (by omega)]; exact hb⟩
    · rw [u_k (by decide), q2]; rfl
    · rw [u_eq, z_add (by omega) (by omega), hvv, e2]
    · exact gHp_congr (fun k hk => u_j (by omega)) hw2.2.2
    · simp only [List.length_cons]; rw [List.length_append]; omega
  rw [gb_260_308]
  refine n_bracket hvb hb hw hP (by omega) fun y hy => ?_
  rw [htop] at hy
  rw [Option.toList_some, List.singleton_append, gb_260_312]
  by_cases v21 : v = 21
  · rw [if_pos (z_inj (by rw [hy, v21, e21]))]; exact go
  rw [if_neg (fun e => v21 (by rw [← hy, e, e21])), gb_260_317]
  refine n_bracket hvb hb hw hP (by omega) fun y hy => ?_
  rw [htop] at hy
  rw [Option.toList_some, List.singleton_append, gb_260_321, if_pos (z_inj (by rw [hy, e22]; omega))]
  exact go
theorem n_G_last {P V L : List Int} {x1 : Option gV} (hx : mTx I tp n) (hp : mPs I tp n s g o (P ++ V) L b) (hP : ∀ v ∈ P, ¬ (20 ≤ v ∧ v ≤ 24)) (hv : brOk b V) (hA : (I 50 0 2).toInt = s) (hno : mTop b V ≠ 21 ∧ mTop b V ≠ 22) (K1 : mTop b V = -1 → Q (some (.inl 0)) (gwd S I J h)) (K0 : mTop b V ≠ -1 → ∀ (I' : Nat → Nat → Nat → Int32), FM I I' → mTk I' tp n (.inl (1, s)) → I' 50 0 99 = I 50 0 99 → Q (some (.inl 0)) (gwd S I' J h)) : (gq (d + 6) 260 308 [some (.inr (.inr (some (50, 0)))), x1] [] (gwd S I J h) Q) := by
  have hn := hx.2.2.1
  have hsn := mTk_sn hp.1
  have hl := hp.2.2.2.2.1
  have e21 : (21 : Int32).toInt = 21 := rfl
  have e22 : (22 : Int32).toInt = 22 := rfl
  have hw := hp.2.2.1
  have hb := hp.2.2.2.2.2
  rw [gb_260_308]
  refine n_bracket hv hb hw hP (by omega) fun y hy => ?_
  rw [Option.toList_some, List.singleton_append, gb_260_312, if_neg (fun e => hno.1 (by rw [← hy, e, e21])), gb_260_317]
  refine n_bracket hv hb hw hP (by omega) fun y hy => ?_
  rw [Option.toList_some, List.singleton_append, gb_260_321, if_neg (fun e => hno.2 (by rw [← hy, e, e22])), gb_260_362]
  refine n_bracket hv hb hw hP (by omega) fun y hy => ?_
  rw [Option.toList_some, List.singleton_append, gb_260_366, gb_260_367]
  by_cases w : mTop b V = -1
  · rw [if_pos (z_inj (by rw [hy, w]; rfl)), gb_260_386]; exact K1 w
  · rw [if_neg (fun e => w (by rw [← hy, e]; rfl)), gb_260_370, if_pos hp.1.1, gb_260_377]
    refine n_failAt hp.1 rfl hA (by decide) fun I1 hF1 ht1 => ?_
    rw [Option.toList_none, List.nil_append, gb_260_386]
    exact K0 w I1 (fun k i j hn => hF1 _ _ _ (by omega)) ht1 (hF1 _ _ _ (by omega))
