/-! The model behind a part: a bracket closes, an operator, a comma, the end. -/
variable {d S : Nat} {h : Nat × Option gNm} {I : Nat → Nat → Nat → Int32} {J : Nat → Nat → Nat → Int64} {Q : Option gV → gW → Prop}
variable {tp : Nat → Int} {n s b : Nat} {g : Bool} {o : Int}
theorem u50 {I : Nat → Nat → Nat → Int32} {v : Int32} {k i j c : Nat} (hn : ¬ (k = 50 ∧ i = 0 ∧ j = c)) : gup I 50 0 c v k i j = I k i j := u_ne hn
theorem mPs_sign {I I' : Nat → Nat → Nat → Int32} {W L : List Int} (hp : mPs I tp n s g o W L b) (hlt : s < n) (hF : (∀ k i j, ¬ ((k = 50 ∧ i = 0 ∧ j = 2)) → I' k i j = I k i j)) (ht : mTk I' tp n (.inr (lNx tp n s g))) : mPs I' tp n (lNx tp n s g).1 (lNx tp n s g).2 o W L b := by
  have hr := (lNx_r (tp := tp) (g := g) (mTk_sn hp.1)).2.2.1 hlt
  exact ⟨ht, by rw [hF _ _ _ (by omega)]; exact hp.2.1, mWt_congr hp.2.2.1 (hF _ _ _ (by omega)) (fun j => hF _ _ _ (by omega)), mCd_congr hp.2.2.2.1 (hF _ _ _ (by omega)) (fun j => hF _ _ _ (by omega)), by have := hp.2.2.2.2.1; omega, by rw [hF _ _ _ (by omega)]; exact hp.2.2.2.2.2⟩
theorem n_G_skip {P V L : List Int} {x1 : Option gV} (hx : mTx I tp n) (hp : mPs I tp n s g o (P ++ V) L b) (hP : ∀ v ∈ P, ¬ (20 ≤ v ∧ v ≤ 24)) (hv : brOk b V) (hno : ¬ (lB tp n s = 41 ∧ (mTop b V = 20 ∨ mTop b V = 23 ∨ mTop b V = 24))) (K : ∀ (I' : Nat → Nat → Nat → Int32), (∀ k i j, ¬ ((k = 50 ∧ i = 0 ∧ j = 2)) → I' k i j = I k i j) → mPs I' tp n s g o (P ++ V) L b → (I' 50 0 2).toInt = s → (gq (d + 6) 260 122 [some (.inr (.inr (some (50, 0)))), x1] [] (gwd S I' J h) Q)) : (gq (d + 6) 260 0 [some (.inr (.inr (some (50, 0)))), x1] [] (gwd S I J h) Q) := by
  have hn := hx.2.2.1
  have hsn := mTk_sn hp.1
  have hl := hp.2.2.2.2.1
  have e20 : (20 : Int32).toInt = 20 := rfl
  have e23 : (23 : Int32).toInt = 23 := rfl
  have e24 : (24 : Int32).toInt = 24 := rfl
  have e41 : (41 : Int32).toInt = 41 := rfl
  rw [gb_260_0, if_pos hp.1.1, gb_260_7]
  refine n_look hx hp.1 fun I1 x hF1 ht1 hA1 hv1 => ?_
  have hp1 := mPs_at hp hF1 ht1
  rw [Option.toList_some, List.singleton_append, gb_260_11]
  by_cases c : lB tp n s = 41
  case neg =>
    rw [if_neg (fun e => c (by rw [← hv1, e, e41]))]
    exact K I1 hF1 hp1 hA1
  rw [if_pos (z_inj (by rw [hv1, c, e41])), gb_260_16]
  have hw := hp1.2.2.1
  have hb := hp1.2.2.2.2.2
  refine n_bracket hv hb hw hP (by omega) fun y hy => ?_
  rw [Option.toList_some, List.singleton_append, gb_260_20, if_neg (fun e => hno ⟨c, by rw [← hy, e, e20]; exact Or.inl rfl⟩), gb_260_25]
  refine n_bracket hv hb hw hP (by omega) fun y hy => ?_
  rw [Option.toList_some, List.singleton_append, gb_260_29, if_neg (fun e => hno ⟨c, by rw [← hy, e, e23]; exact Or.inr (Or.inl rfl)⟩), gb_260_34]
  refine n_bracket hv hb hw hP (by omega) fun y hy => ?_
  rw [Option.toList_some, List.singleton_append, gb_260_38, if_neg (fun e => hno ⟨c, by rw [← hy, e, e24]; exact Or.inr (Or.inr rfl)⟩)]
  exact K I1 hF1 hp1 hA1
def clCode (v : Int) : List Int := if v = 20 then [] else if v = 23 then [-18] else [-19]
theorem n_G_close {B W L : List Int} {v : Int} {x1 : Option gV} (hx : mTx I tp n) (hp : mPs I tp n s g o (B.map gMc ++ (v :: W)) L b) (hB : ∀ c ∈ B, ¬ (20 ≤ gMc c ∧ gMc c ≤ 24)) (hv : v = 20 ∨ v = 23 ∨ v = 24) (hbW : b ≤ W.length) (hO : ofOk W) (ho1 : -10000 ≤ o - 1 - W.length) (ho2 : o ≤ 10) (hc : lB tp n s = 41)
    (K : ∀ (I' : Nat → Nat → Nat → Int32) x1, FM I I' → mPs I' tp n (lNx tp n s g).1 (lNx tp n s g).2 (ePop b W (o - 1) (L ++ B ++ clCode v)).1 (ePop b W (o - 1) (L ++ B ++ clCode v)).2.1 (ePop b W (o - 1) (L ++ B ++ clCode v)).2.2 b → (gq (d + 6) 260 0 [some (.inr (.inr (some (50, 0)))), x1] [] (gwd S I' J h) Q)) : (gq (d + 6) 260 0 [some (.inr (.inr (some (50, 0)))), x1] [] (gwd S I J h) Q) := by
  have hn := hx.2.2.1
  have hsn := mTk_sn hp.1
  have hl := hp.2.2.2.2.1
  have hlt : s < n := lB_le (tp := tp) (by omega)
  have e1 : (1 : Int32).toInt = 1 := rfl
  have e20 : (20 : Int32).toInt = 20 := rfl
  have e23 : (23 : Int32).toInt = 23 := rfl
  have e24 : (24 : Int32).toInt = 24 := rfl
  have e41 : (41 : Int32).toInt = 41 := rfl
  have hvb : brOk b (v :: W) := Or.inr ⟨by simp only [List.length_cons]; omega, by show 20 ≤ v; omega, by show v ≤ 24; omega⟩
  have htop : mTop b (v :: W) = v := if_neg (by simp only [List.length_cons]; omega)
  have hP : ∀ u ∈ B.map gMc, ¬ (20 ≤ u ∧ u ≤ 24) := fun u hu => by
    obtain ⟨c, h1, h2⟩ := List.mem_map.mp hu
    rw [← h2]; exact hB c h1
  have hlen : (B.map gMc ++ (v :: W)).length = B.length + (W.length + 1) := by rw [List.length_append, List.length_map, List.length_cons]
  rw [gb_260_0, if_pos hp.1.1, gb_260_7]
  refine n_look hx hp.1 fun I1 x hF1 ht1 hA1 hv1 => ?_
  have hp1 := mPs_at hp hF1 ht1
  have hw := hp1.2.2.1
  have hb := hp1.2.2.2.2.2
  rw [Option.toList_some, List.singleton_append, gb_260_11, if_pos (z_inj (by rw [hv1, hc, e41])), gb_260_16]
  have go : (gq (d + 6) 260 43 [some (.inr (.inr (some (50, 0)))), x1] [] (gwd S I1 J h) Q) := by
    rw [gb_260_43]
    have q2 : (I1 50 0 2 + 1).toInt = s + 1 := by rw [z_add (by omega) (by omega), hA1, e1]
    generalize hI2 : gup I1 50 0 2 (I1 50 0 2 + 1) = I2
    have hF2 : (∀ k i j, ¬ ((k = 50 ∧ i = 0 ∧ j = 2)) → I2 k i j = I1 k i j) := fun k i j hn => by rw [← hI2, u_ne hn]
    have ht2 : mTk I2 tp n (.inr (lNx tp n s g)) := mTk_sign ht1 hlt hc rfl rfl (hF2 _ _ _ (by omega)) (hF2 _ _ _ (by omega)) (hF2 _ _ _ (by omega)) (by rw [← hI2, u_eq]; exact q2) (by decide)
    have hp2 := mPs_sign hp1 hlt hF2 ht2
    refine n_dropsTo hvb B I2 L hp2.2.2.2.2.2 hp2.2.2.1 hB hp2.2.2.2.1 (by omega) fun I3 hF3 hw3 hc3 => ?_
    have q3 := hw3.1
    simp only [List.length_cons] at q3
    have q4 : (I3 50 0 101 - 1).toInt = W.length := by rw [z_sub (by omega) (by omega), q3, e1]; omega
    have n4 : (I3 50 0 101 - 1).toNatClampNeg = W.length := by rw [z_n, q4]; rfl
    have hvv : (I3 69 0 W.length).toInt = v := hw3.2.1
    have ho3 : (I3 50 0 102).toInt = o := by rw [hF3 _ _ _ (by omega)]; exact hp2.2.1
    have hr := (lNx_r (tp := tp) (g := g) hsn)
    have hr1 := hr.2.2.1 hlt
    rw [Option.toList_none, List.nil_append, gb_260_57]
    refine ⟨g_in.mpr (by omega), ?_⟩
    rw [n4, gb_260_86]
    generalize hI4 : gup (gup I3 50 0 101 (I3 50 0 101 - 1)) 50 0 102 (I3 50 0 102 - 1) = I4
    have hF4 : (∀ k i j, ¬ ((k = 50 ∧ i = 0 ∧ (j = 101 ∨ j = 102))) → I4 k i j = I3 k i j) := fun k i j hn => by rw [← hI4, u_ne (by omega), u_ne (by omega)]
    have h101 : (I4 50 0 101).toInt = W.length := by rw [← hI4, u_j (by decide), u_eq]; exact q4
    have h102 : (I4 50 0 102).toInt = o - 1 := by rw [← hI4, u_eq, z_sub (by omega) (by omega), ho3, e1]
    have hw4 : mWt I4 W := ⟨h101, gHp_congr (fun k _ => hF4 _ _ _ (by omega)) hw3.2.2⟩
    have hc4 : mCd I4 (L ++ B) := mCd_congr hc3 (hF4 _ _ _ (by omega)) (fun j => hF4 _ _ _ (by omega))
    have ht4 : mTk I4 tp n (.inr (lNx tp n s g)) := mTk_congr ht2 (fun j hj => by rw [hF4 _ _ _ (by omega), hF3 _ _ _ (by omega)])
    have hb4 : (I4 50 0 103).toInt = b := by rw [hF4 _ _ _ (by omega), hF3 _ _ _ (by omega)]; exact hp2.2.2.2.2.2
    have hFM : ∀ I5, (∀ k i j, ¬ ((k = 50 ∧ i = 0 ∧ j = 99) ∨ (k = 68 ∧ i = 0)) → I5 k i j = I4 k i j) → FM I I5 := fun I5 hF5 k i j hn => by rw [hF5 _ _ _ (by omega), hF4 _ _ _ (by omega), hF3 _ _ _ (by omega), hF2 _ _ _ (by omega), hF1 _ _ _ (by omega)]
    have hlLB : (L ++ B).length = L.length + B.length := List.length_append
    -- behind the code
    have fin : ∀ I5, (∀ k i j, ¬ ((k = 50 ∧ i = 0 ∧ j = 99) ∨ (k = 68 ∧ i = 0)) → I5 k i j = I4 k i j) → mCd I5 (L ++ B ++ clCode v) → (clCode v).length ≤ 1 → (gq (d + 6) 260 115 [some (.inr (.inr (some (50, 0)))), x1] [] (gwd S I5 J h) Q) := fun I5 hF5 hc5 hle => by
      rw [gb_260_115]
      have hp5 : mPs I5 tp n (lNx tp n s g).1 (lNx tp n s g).2 (o - 1) W (L ++ B ++ clCode v) b := ⟨mTk_congr ht4 (fun j hj => hF5 _ _ _ (by omega)), by rw [hF5 _ _ _ (by omega)]; exact h102, mWt_congr hw4 (hF5 _ _ _ (by omega)) (fun j => hF5 _ _ _ (by omega)), hc5, by rw [List.length_append]; omega, by rw [hF5 _ _ _ (by omega)]; exact hb4⟩
      refine n_ends hn W (o - 1) _ I5 hp5 ho1 (by omega) hO hbW fun I6 hF6 hp6 => ?_
      rw [Option.toList_none, List.nil_append, gb_260_119]
      exact K I6 _ (fun k i j hn => by rw [hF6 _ _ _ (by omega), hFM I5 hF5 _ _ _ hn]) hp6
    by_cases v20 : v = 20
    · rw [if_pos (z_inj (by rw [hvv, v20, e20]))]
      have e : clCode v = [] := if_pos v20
      exact fin I4 (fun _ _ _ _ => rfl) (by rw [e, List.append_nil]; exact hc4) (by rw [e]; exact Nat.zero_le _)
    rw [if_neg (fun e => v20 (by rw [← hvv, e, e20])), gb_260_91]
    refine ⟨g_in.mpr (by omega), ?_⟩
    have n5 : (I4 50 0 101).toNatClampNeg = W.length := by rw [z_n, h101]; rfl
    have hv4 : (I4 69 0 W.length).toInt = v := by rw [hF4 _ _ _ (by omega)]; exact hvv
    rw [n5, gb_260_101]
    by_cases v23 : v = 23
    · have e : clCode v = [-18] := by unfold clCode; rw [if_neg v20, if_pos v23]
      rw [if_pos (z_inj (by rw [hv4, v23, e23])), gb_260_106, gb_260_112]
      refine n_code (c := -18) hc4 (by omega) rfl fun I5 hF5 hc5 => ?_
      rw [Option.toList_none, List.nil_append]
      exact fin I5 hF5 (by rw [e]; exact hc5) (by rw [e]; exact Nat.le_refl _)
    · have e : clCode v = [-19] := by unfold clCode; rw [if_neg v20, if_neg v23]
      rw [if_neg (fun q => v23 (by rw [← hv4, q, e23])), gb_260_110, gb_260_112]
      refine n_code (c := -19) hc4 (by omega) rfl fun I5 hF5 hc5 => ?_
      rw [Option.toList_none, List.nil_append]
      exact fin I5 hF5 (by rw [e]; exact hc5) (by rw [e]; exact Nat.le_refl _)
  refine n_bracket hvb hb hw hP (by omega) fun y hy => ?_
  rw [htop] at hy
  rw [Option.toList_some, List.singleton_append, gb_260_20]
  by_cases v20 : v = 20
  · rw [if_pos (z_inj (by rw [hy, v20, e20]))]; exact go
  rw [if_neg (fun e => v20 (by rw [← hy, e, e20])), gb_260_25]
  refine n_bracket hvb hb hw hP (by omega) fun y hy => ?_
  rw [htop] at hy
  rw [Option.toList_some, List.singleton_append, gb_260_29]
  by_cases v23 : v = 23
  · rw [if_pos (z_inj (by rw [hy, v23, e23]))]; exact go
  rw [if_neg (fun e => v23 (by rw [← hy, e, e23])), gb_260_34]
  refine n_bracket hvb hb hw hP (by omega) fun y hy => ?_
  rw [htop] at hy
  rw [Option.toList_some, List.singleton_append, gb_260_38, if_pos (z_inj (by rw [hy, e24]; omega))]
  exact go
theorem n_isOnH {a1 : Int32} {c : Int} {V : List Int} (hw : mWt I V) (hV : V.length < 1700) (h1 : a1.toInt = c) (hc : c ≠ 0) : (gq d 250 0 [some (.inr (.inr (some (50, 0)))), some (.inl (a1))] [] (gwd S I J h) Q) ↔ Q (some (.inl (if V.headD 0 = c then 1 else 0))) (gwd S I J h) := by
  match V, hw, hV with
  | [], hw, hV => rw [n_isOn0 hw, if_neg (fun e => hc e.symm)]
  | v :: V', hw, hV => exact n_isOn hw (by simp only [List.length_cons] at hV; omega) h1
theorem n_mulLoop {V : List Int} {a1 : Int32} (hV : V.headD 0 ≠ 3 ∧ V.headD 0 ≠ 4) : ∀ (B : List Int) (I : Nat → Nat → Nat → Int32) (L : List Int), mWt I (B.map gMc ++ V) → (∀ c ∈ B, gMc c = 3 ∨ gMc c = 4) → mCd I L → (B.map gMc ++ V).length + L.length < 1690 → (∀ (I' : Nat → Nat → Nat → Int32), (∀ k i j, ¬ ((k = 50 ∧ i = 0 ∧ (j = 99 ∨ j = 101)) ∨ (k = 68 ∧ i = 0)) → I' k i j = I k i j) → mWt I' V → mCd I' (L ++ B) → (gq (d + 6) 260 185 [some (.inr (.inr (some (50, 0)))), some (.inl (a1))] [] (gwd S I' J h) Q)) → (gq (d + 6) 260 162 [some (.inr (.inr (some (50, 0)))), some (.inl (a1))] [] (gwd S I J h) Q)
  | [], I, L, hw, hB, hc, hl, K => by
    have hl' : V.length + L.length < 1690 := hl
    have hw' : mWt I V := hw
    rw [List.append_nil] at K
    rw [gb_260_162, n_isOnH (c := 3) hw' (by omega) rfl (by decide), if_neg hV.1, Option.toList_some, List.singleton_append, gb_260_167, if_pos rfl, gb_260_170, n_isOnH (c := 4) hw' (by omega) rfl (by decide), if_neg hV.2, Option.toList_some, List.singleton_append, gb_260_175, if_pos rfl]
    exact K I (fun _ _ _ _ => rfl) hw' hc
  | c :: B, I, L, hw, hB, hc, hl, K => by
    have hw' : mWt I (gMc c :: (B.map gMc ++ V)) := hw
    have hl' : (B.map gMc ++ V).length + 1 + L.length < 1690 := by simpa using hl
    have step : (gq (d + 6) 260 178 [some (.inr (.inr (some (50, 0)))), some (.inl (a1))] [] (gwd S I J h) Q) := by
      rw [gb_260_178]
      refine n_drops hw' hc (by omega) (by omega) fun I1 hF1 hw1 hc1 => ?_
      rw [Option.toList_none, List.nil_append, gb_260_182]
      refine n_mulLoop hV B I1 (L ++ [c]) hw1 (fun u hu => hB u (List.mem_cons_of_mem _ hu)) hc1 (by rw [List.length_append (as := L)]; simp only [List.length_cons, List.length_nil]; omega) fun I2 hF2 hw2 hc2 => ?_
      rw [List.append_assoc] at hc2
      exact K I2 (fun k i j hn => by rw [hF2 _ _ _ hn, hF1 _ _ _ (by omega)]) hw2 hc2
    rw [gb_260_162, n_isOn (c := 3) hw' (by omega) rfl, Option.toList_some, List.singleton_append, gb_260_167]
    rcases hB c List.mem_cons_self with e | e
    · rw [if_pos e, if_neg (by decide)]; exact step
    · rw [if_neg (show ¬ gMc c = 3 by omega), if_pos rfl, gb_260_170, n_isOn (c := 4) hw' (by omega) rfl, if_pos e, Option.toList_some, List.singleton_append, gb_260_175, if_neg (by decide)]; exact step
theorem n_addLoop {V : List Int} {a1 : Int32} (hV : V.headD 0 < 1 ∨ 4 < V.headD 0) : ∀ (B : List Int) (I : Nat → Nat → Nat → Int32) (L : List Int), mWt I (B.map gMc ++ V) → (∀ c ∈ B, 1 ≤ gMc c ∧ gMc c ≤ 4) → mCd I L → (B.map gMc ++ V).length + L.length < 1690 → (∀ (I' : Nat → Nat → Nat → Int32), (∀ k i j, ¬ ((k = 50 ∧ i = 0 ∧ (j = 99 ∨ j = 101)) ∨ (k = 68 ∧ i = 0)) → I' k i j = I k i j) → mWt I' V → mCd I' (L ++ B) → (gq (d + 6) 260 286 [some (.inr (.inr (some (50, 0)))), some (.inl (a1))] [] (gwd S I' J h) Q)) → (gq (d + 6) 260 247 [some (.inr (.inr (some (50, 0)))), some (.inl (a1))] [] (gwd S I J h) Q)
  | [], I, L, hw, hB, hc, hl, K => by
    have hl' : V.length + L.length < 1690 := hl
    have hw' : mWt I V := hw
    rw [List.append_nil] at K
    rw [gb_260_247, n_isOnH (c := 3) hw' (by omega) rfl (by decide), if_neg (by omega), Option.toList_some, List.singleton_append, gb_260_252, if_pos rfl, gb_260_255, n_isOnH (c := 4) hw' (by omega) rfl (by decide), if_neg (by omega), Option.toList_some, List.singleton_append, gb_260_260, if_pos rfl, gb_260_263, n_isOnH (c := 1) hw' (by omega) rfl (by decide), if_neg (by omega), Option.toList_some, List.singleton_append, gb_260_268, if_pos rfl, gb_260_271, n_isOnH (c := 2) hw' (by omega) rfl (by decide), if_neg (by omega), Option.toList_some, List.singleton_append, gb_260_276, if_pos rfl]
    exact K I (fun _ _ _ _ => rfl) hw' hc
  | c :: B, I, L, hw, hB, hc, hl, K => by
    have hw' : mWt I (gMc c :: (B.map gMc ++ V)) := hw
    have hl' : (B.map gMc ++ V).length + 1 + L.length < 1690 := by simpa using hl
    have hcr := hB c List.mem_cons_self
    have step : (gq (d + 6) 260 279 [some (.inr (.inr (some (50, 0)))), some (.inl (a1))] [] (gwd S I J h) Q) := by
      rw [gb_260_279]
      refine n_drops hw' hc (by omega) (by omega) fun I1 hF1 hw1 hc1 => ?_
      rw [Option.toList_none, List.nil_append, gb_260_283]
      refine n_addLoop hV B I1 (L ++ [c]) hw1 (fun u hu => hB u (List.mem_cons_of_mem _ hu)) hc1 (by rw [List.length_append (as := L)]; simp only [List.length_cons, List.length_nil]; omega) fun I2 hF2 hw2 hc2 => ?_
      rw [List.append_assoc] at hc2
      exact K I2 (fun k i j hn => by rw [hF2 _ _ _ hn, hF1 _ _ _ (by omega)]) hw2 hc2
    rw [gb_260_247, n_isOn (c := 3) hw' (by omega) rfl, Option.toList_some, List.singleton_append, gb_260_252]
    by_cases c3 : gMc c = 3
    · rw [if_pos c3, if_neg (by decide)]; exact step
    rw [if_neg c3, if_pos rfl, gb_260_255, n_isOn (c := 4) hw' (by omega) rfl, Option.toList_some, List.singleton_append, gb_260_260]
    by_cases c4 : gMc c = 4
    · rw [if_pos c4, if_neg (by decide)]; exact step
    rw [if_neg c4, if_pos rfl, gb_260_263, n_isOn (c := 1) hw' (by omega) rfl, Option.toList_some, List.singleton_append, gb_260_268]
    by_cases c1 : gMc c = 1
    · rw [if_pos c1, if_neg (by decide)]; exact step
    rw [if_neg c1, if_pos rfl, gb_260_271, n_isOn (c := 2) hw' (by omega) rfl, if_pos (by omega), Option.toList_some, List.singleton_append, gb_260_276, if_neg (by decide)]
    exact step
