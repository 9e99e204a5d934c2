/-! The class works a question out for a house. -/
variable {d S : Nat} {h : Nat × Option gNm} {I : Nat → Nat → Nat → Int32} {J : Nat → Nat → Nat → Int64} {Q : Option gV → gW → Prop}
theorem m_qOf {c i2 u : Nat} {C : gCo} {t : gSt} {tt : Bool} {l : List Int} {a3 : Int32} {x4 x5 x6 x7 : Option gV} (hc : cOk C) (ht : tOk C t) (hu : (u : Int) < C.1 3) (hc2 : c < 2) (hC : kCo I c C) (hS : kS I i2 t) (h3 : a3.toInt = u) (hz : (I 14 2 2).toInt = l.length) (hl : l.length ≤ 1600) (hcd : gCd (I 15 2) id 0 l) (hty : gTy (alT 3) l [] = some [tt])
    (K : ∀ (I' : Nat → Nat → Nat → Int32) (x : Int32), (∀ k i j, ¬ (k = 14 ∧ (i = 2 ∨ i = c) ∧ 3 ≤ j ∧ j ≤ 6 ∨ k = 16 ∧ (i = 2 ∨ i = c) ∨ k = 18 ∧ (i = 2 ∨ i = c)) → I' k i j = I k i j) → x.toInt = gTop (gRun (qVl C t u) (qLf C t (C.1 (30 + u))) l []) → Q (some (.inl x)) (gwd S I' J h)) : (gq (d + 6) 71 0 [some (.inr (.inr (some (13, 0)))), some (.inr (.inr (some (34, c)))), some (.inr (.inr (some (21, i2)))), some (.inl (a3)), x4, x5, x6, x7] [] (gwd S I J h) Q) := by
  have r1 := hc.2.1
  have r3 := hc.2.2.2.1
  have rh := hc.2.2.2.2.2.2.2.1 u hu
  have t1 := ht.2.1
  have t5 := ht.2.2.2.2.2.1
  have n3 : a3.toNatClampNeg = u := by rw [z_n, h3]; rfl
  have k37 := hC.2.2.2.1 u (by omega)
  have k38 := hC.2.2.2.2.1 u (by omega)
  have s0 := hS.1 0 (by decide)
  have s1 := hS.1 1 (by decide)
  have s2 := hS.1 2 (by decide)
  have s5 := hS.1 5 (by decide)
  rw [gb_71_0]
  refine ⟨g_in.mpr (by omega), ?_⟩
  rw [n3, gb_71_6]
  refine ⟨g_in.mpr (by decide), ?_⟩
  rw [show (8 : Int32).toNatClampNeg = 8 from rfl, gb_71_16]
  refine ⟨g_in.mpr (by decide), ?_⟩
  rw [show (1 : Int32).toNatClampNeg = 1 from rfl, gb_71_24]
  refine ⟨g_in.mpr (by omega), ?_⟩
  rw [n3, gb_71_36]
  refine ⟨g_in.mpr (by decide), ?_⟩
  rw [show (9 : Int32).toNatClampNeg = 9 from rfl, gb_71_37]
  -- behind the bit
  have nx : ∀ (v : Int32) (I1 : Nat → Nat → Nat → Int32), v.toInt = gBi (t 5) u → (∀ k i j, ¬ ((k = 18 ∧ i = 2)) → I1 k i j = I k i j) → (I1 18 2 8).toInt = u → (I1 18 2 1).toInt = C.1 (30 + u) → (I1 18 2 9).toInt = C.1 (40 + u) → (gq (d + 6) 71 56 [some (.inr (.inr (some (13, 0)))), some (.inr (.inr (some (34, c)))), some (.inr (.inr (some (21, i2)))), some (.inl (a3)), some (.inl ((I 37 c u))), x5, x6, x7] [.inl (v), .inl (10), .inr (.inr (some (18, 2)))] (gwd S I1 J h) Q) := fun v I1 hv hF1 v8 v1 v9 => by
    have o : ∀ k i j, k ≠ 18 → I1 k i j = I k i j := fun k i j hk => hF1 _ _ _ (by omega)
    rw [gb_71_56]
    refine ⟨g_in.mpr (by decide), ?_⟩
    rw [show (10 : Int32).toNatClampNeg = 10 from rfl, gb_71_57, m_abs, Option.toList_some, List.singleton_append, gb_71_73]
    refine ⟨g_in.mpr (by decide), ?_⟩
    rw [show (7 : Int32).toNatClampNeg = 7 from rfl, gb_71_74]
    refine ⟨g_in.mpr (by decide), ?_⟩
    rw [show (2 : Int32).toNatClampNeg = 2 from rfl, gb_71_84]
    refine ⟨g_in.mpr (by decide), ?_⟩
    rw [show (0 : Int32).toNatClampNeg = 0 from rfl, gb_71_94]
    have ea : (zabs (I 37 c u - gup I1 18 2 10 v 21 i2 1)).toInt = gabs (C.1 (30 + u) - t 1) := by
      have e : (I 37 c u - gup I1 18 2 10 v 21 i2 1).toInt = C.1 (30 + u) - t 1 := by rw [u_k (by decide), o _ _ _ (by decide), z_sub (by omega) (by omega), k37, s1]
      rw [zabs_i (by omega), e]; rfl
    generalize zabs (I 37 c u - gup I1 18 2 10 v 21 i2 1) = va at ea
    generalize hI2 : gup (gup (gup (gup I1 18 2 10 v) 18 2 7 va) 18 2 2 (gup (gup I1 18 2 10 v) 18 2 7 va 21 i2 2)) 18 2 0 (gup (gup (gup I1 18 2 10 v) 18 2 7 va) 18 2 2 (gup (gup I1 18 2 10 v) 18 2 7 va 21 i2 2) 21 i2 0) = I2
    have hF2 : (∀ k i j, ¬ ((k = 18 ∧ i = 2)) → I2 k i j = I k i j) := fun k i j hn => by rw [← hI2, u_ne (by omega), u_ne (by omega), u_ne (by omega), u_ne (by omega), hF1 _ _ _ hn]
    have w10 : (I2 18 2 10).toInt = gBi (t 5) u := by rw [← hI2, u_j (by decide), u_j (by decide), u_j (by decide), u_eq]; exact hv
    have w7 : (I2 18 2 7).toInt = gabs (C.1 (30 + u) - t 1) := by rw [← hI2, u_j (by decide), u_j (by decide), u_eq]; exact ea
    have w2 : (I2 18 2 2).toInt = t 2 := by rw [← hI2, u_j (by decide), u_eq, u_k (by decide), u_k (by decide), o _ _ _ (by decide)]; exact s2
    have w0 : (I2 18 2 0).toInt = t 0 := by rw [← hI2, u_eq, u_k (by decide), u_k (by decide), u_k (by decide), o _ _ _ (by decide)]; exact s0
    have w8 : (I2 18 2 8).toInt = u := by rw [← hI2, u_j (by decide), u_j (by decide), u_j (by decide), u_j (by decide)]; exact v8
    have w1 : (I2 18 2 1).toInt = C.1 (30 + u) := by rw [← hI2, u_j (by decide), u_j (by decide), u_j (by decide), u_j (by decide)]; exact v1
    have w9 : (I2 18 2 9).toInt = C.1 (40 + u) := by rw [← hI2, u_j (by decide), u_j (by decide), u_j (by decide), u_j (by decide)]; exact v9
    have hV : ∀ v, v < 11 → alT 3 v = true → (I2 18 2 v).toInt = qVl C t u v := fun v h1 h2 => by
      rw [al_tbl3 v (by omega)] at h2
      have h2' := of_decide_eq_true h2
      have e : v = 0 ∨ v = 1 ∨ v = 2 ∨ v = 7 ∨ v = 8 ∨ v = 9 ∨ v = 10 := by omega
      rcases e with rfl | rfl | rfl | rfl | rfl | rfl | rfl
      · exact w0
      · exact w1
      · exact w2
      · exact w7
      · exact w8
      · exact w9
      · exact w10
    have e16 : (Int32.ofNat 1600).toInt = 1600 := rfl
    rw [gb_81_0, m_max, Option.toList_some, List.singleton_append, gb_81_6, m_min, Option.toList_some, List.singleton_append, gb_81_19, Option.toList_none, List.nil_append, gb_71_109]
    have e4 : (zmax 0 0).toInt = 0 := rfl
    have e5 : (zmin (I2 14 2 2) (Int32.ofNat 1600)).toInt = l.length := by rw [zmin_i, hF2 _ _ _ (by omega), hz, e16]; omega
    generalize zmax 0 0 = va0 at e4
    generalize zmin (I2 14 2 2) (Int32.ofNat 1600) = vb0 at e5
    generalize hI3 : gup (gup (gup I2 14 2 3 va0) 14 2 4 vb0) 14 2 5 0 = I3
    have hF3 : (∀ k i j, ¬ ((k = 14 ∧ i = 2 ∧ (j = 3 ∨ j = 4 ∨ j = 5))) → I3 k i j = I2 k i j) := fun k i j hn => by rw [← hI3, u_ne (by omega), u_ne (by omega), u_ne (by omega)]
    have y3 : (I3 14 2 3).toInt = ((0 : Nat) : Int) := by rw [← hI3, u_j (by decide), u_j (by decide), u_eq]; exact e4
    have y4 : (I3 14 2 4).toInt = l.length := by rw [← hI3, u_j (by decide), u_eq]; exact e5
    have y5 : (I3 14 2 5).toInt = (([] : List Int).length : Int) := by rw [← hI3, u_eq]; rfl
    have qc : gCd (I3 15 2) id 0 l := gCd_congr (fun j _ _ => by rw [hF3 _ _ _ (by omega), hF2 _ _ _ (by omega)]) hcd
    refine m_work1 (al := alT 3) (V := qVl C t u) (a := 0) (b := l.length) (l := l) (s := []) (T := []) (T' := [tt]) hl (fun v _ _ => qVl_r hc ht hu v) hty trivial (by decide) (fun e => by cases e) (fun v h1 h2 => by rw [hF3 _ _ _ (by omega)]; exact hV v h1 h2) y3 y4 (by omega) y5 trivial qc fun I4 x s2 hF4 hr r3 r6 r5 rhp => ?_
    rw [Option.toList_some, List.singleton_append, gb_71_120]
    have hlen := @gRun1_len (qVl C t u) l []
    have hok := gRun1_ok (al := alT 3) (s := []) (fun v _ _ => qVl_r hc ht hu v) hty trivial (by decide)
    have hrun := @gRun_1 (qVl C t u) (qLf C t (C.1 (30 + u))) l []
    have hcd' := fun a1 (ha : a1 + (gRun1 (qVl C t u) l []).1.length = 0 + l.length) => gRun1_cd (V := qVl C t u) (s := []) (a1 := a1) qc ha
    have hll : (gRun1 (qVl C t u) l []).1.length ≤ l.length := by
      rcases hlen with ⟨_, q⟩ | q
      · rw [q]; exact Nat.zero_le _
      · omega
    rw [hr] at hok hrun
    generalize hg : gRun1 (qVl C t u) l [] = R at hlen hok hrun hcd' hll r3 r6
    have hF : ∀ k i j, ¬ (k = 14 ∧ (i = 2 ∨ i = c) ∧ 3 ≤ j ∧ j ≤ 6 ∨ k = 16 ∧ (i = 2 ∨ i = c) ∨ k = 18 ∧ (i = 2 ∨ i = c)) → I4 k i j = I k i j := fun k i j hn => by rw [hF4 _ _ _ (by omega), hF3 _ _ _ (by omega), hF2 _ _ _ (by omega)]
    refine m_qLoop (tt := tt) (b := l.length) hc ht hu hl hc2 k37 1600 R.1 s2 R.2.1 I4 x 0 _ 0 ?_ rfl (by omega) (kCo_congr hC fun k j hk => hF _ _ _ (by omega)) (kS_congr hS (fun j => hF _ _ _ (by omega)) (fun j => hF _ _ _ (by omega))) (fun v h1 h2 => by rw [hF4 _ _ _ (by omega), hF3 _ _ _ (by omega)]; exact hV v h1 h2) r3 (by omega) (by rw [hF4 _ _ _ (by omega)]; exact y4) r6 r5 rhp ?_ ?_ fun I' z hF' hz' => K I' z (fun k i j hn => by rw [hF' _ _ _ (by omega), hF _ _ _ hn]) ?_
    · rcases hlen with ⟨q, _⟩ | q
      · exact Or.inl q
      · exact Or.inr (by omega)
    · exact gCd_congr (fun j _ _ => by rw [hF4 _ _ _ (by omega)]) (hcd' _ (by omega))
    · rcases hok with ⟨q, _⟩ | ⟨q, _, T1, v1, v2, v3⟩
      · exact Or.inl q
      · exact Or.inr ⟨q, T1, v1, v2, v3⟩
    · rw [hz', hrun]
      by_cases q : R.2.1 = -1
      · rw [if_pos q, if_pos q]; rfl
      · rw [if_neg q, if_neg q]; rfl
  generalize hI1 : gup (gup (gup I 18 2 8 a3) 18 2 1 (I 37 c u)) 18 2 9 (gup (gup I 18 2 8 a3) 18 2 1 (I 37 c u) 38 c u) = I1
  have hF1 : (∀ k i j, ¬ ((k = 18 ∧ i = 2)) → I1 k i j = I k i j) := fun k i j hn => by rw [← hI1, u_ne (by omega), u_ne (by omega), u_ne (by omega)]
  have v8 : (I1 18 2 8).toInt = u := by rw [← hI1, u_j (by decide), u_j (by decide), u_eq]; exact h3
  have v1 : (I1 18 2 1).toInt = C.1 (30 + u) := by rw [← hI1, u_j (by decide), u_eq]; exact k37
  have v9 : (I1 18 2 9).toInt = C.1 (40 + u) := by rw [← hI1, u_eq, u_k (by decide), u_k (by decide)]; exact k38
  have s5' : (I1 21 i2 5).toInt = t 5 := by rw [hF1 _ _ _ (by omega)]; exact s5
  have hb := z_bit (x := I1 21 i2 5) (a := a3) (b := u) (by omega) (by omega) h3 (by omega)
  rw [s5'] at hb
  rw [m_hasPassed, Option.toList_some, List.singleton_append, gb_71_48]
  by_cases w : gBit (t 5) u = true
  · rw [if_neg (by rw [zb_0]; exact fun e => e (hb.mpr w)), gb_71_51]
    exact nx 1 I1 (by unfold gBi; rw [if_pos w]; rfl) hF1 v8 v1 v9
  · rw [if_pos (by rw [zb_0]; exact fun e => w (hb.mp e)), gb_71_55]
    exact nx 0 I1 (by unfold gBi; rw [if_neg w]; rfl) hF1 v8 v1 v9
