/-! The model works a question out for a house, and takes what it tells. -/
theorem gclip_id {x : Int} (h : -1000000 ≤ x ∧ x ≤ 1000000) : gclip x = x := by
  unfold gclip
  rw [if_neg (by omega), if_neg (by omega)]
variable {d S : Nat} {h : Nat × Option gNm} {I : Nat → Nat → Nat → Int32} {J : Nat → Nat → Nat → Int64} {Q : Option gV → gW → Prop}
theorem mQp_congr {I I' : Nat → Nat → Nat → Int32} {C : gCo} {t : gSt} {u : Nat} (h : mQp I C t u) (e : ∀ j, 52 ≤ j → j ≤ 60 → I' 50 0 j = I 50 0 j) : mQp I' C t u := by
  obtain ⟨p0, p1, p2, p7, p8⟩ := h
  exact ⟨by rw [e _ (by decide) (by decide)]; exact p0, by rw [e _ (by decide) (by decide)]; exact p1, by rw [e _ (by decide) (by decide)]; exact p2, by rw [e _ (by decide) (by decide)]; exact p7, by rw [e _ (by decide) (by decide)]; exact p8⟩
theorem n_qt_loop {C : gCo} {t : gSt} {u e : Nat} {a1 : Int32} (hc : cOk C) (ht0 : tOk C t) (hu : (u : Int) < C.1 3) (h1 : a1.toInt = u) (he : e ≤ 1600) :
    ∀ (l : List Int) (s : List Int) (T T' : List Bool) (k : Nat) (I : Nat → Nat → Nat → Int32) (J : Nat → Nat → Nat → Int64) (a2 : Int32) (x3 : Option gV),
    gTy (alT 3) l T = some T' → eVs T s → T.length ≤ 60 → mCo I C → mS I C t → mQp I C t u → mLit I C (1000 * (C.1 3).toNat) → (I 50 0 99).toInt = e → a2.toInt = k → k + l.length = e → (I 50 0 105).toInt = s.length → gHl (J 70 0) s → gCd (I 68 0) gMc k l →
    (∀ I' (J' : Nat → Nat → Nat → Int64) a2 x3, (∀ k i j, ¬ ((k = 50 ∧ i = 0 ∧ j = 105)) → I' k i j = I k i j) → FJ J J' → eVs T' (gRun (qVl C t u) (qLf C t (C.1 (30 + u))) l s) → gHl (J' 70 0) (gRun (qVl C t u) (qLf C t (C.1 (30 + u))) l s) → (gq (d + 3) 273 168 [some (.inr (.inr (some (50, 0)))), some (.inl (a1)), some (.inl (a2)), x3] [] (gwd S I' J' h) Q)) → (gq (d + 3) 273 7 [some (.inr (.inr (some (50, 0)))), some (.inl (a1)), some (.inl (a2)), x3] [] (gwd S I J h) Q)
  | [], s, T, T', k, I, J, a2, x3, ht, hs, hT, hC, hS, hP, hL, hee, h2, hk, hq, hh, hcd, K => by
    simp only [gTy] at ht
    cases ht
    have hk' : k + 0 = e := hk
    rw [gb_273_7, if_pos (by rw [z_le]; omega)]
    exact K I J _ _ (fun _ _ _ _ => rfl) FJ_refl hs hh
  | c :: cs, s, T, T', k, I, J, a2, x3, ht, hs, hT, hC, hS, hP, hL, hee, h2, hk, hq, hh, hcd, K => by
    have e1 : (1 : Int32).toInt = 1 := rfl
    have e40 : (40 : Int32).toInt = 40 := rfl
    have e60 : (60 : Int32).toInt = 60 := rfl
    have e12 : (12 : Int32).toInt = 12 := rfl
    have e13 : (13 : Int32).toInt = 13 := rfl
    have e1000 : (1000 : Int32).toInt = 1000 := rfl
    have r1 := hc.2.1
    have rh := hc.2.2.2.2.2.2.2.1 u hu
    simp only [List.length_cons] at hk
    have en2 : a2.toNatClampNeg = k := by rw [z_n, h2]; rfl
    have hl := eVs_len hs
    have ea : (a2 + 1).toInt = ((k + 1 : Nat) : Int) := by rw [z_add (by omega) (by omega), h2, e1]; rfl
    have hVr : ∀ w, w < 11 → alT 3 w = true → -1000000 ≤ qVl C t u w ∧ qVl C t u w ≤ 1000000 := fun w _ _ => qVl_r hc ht0 hu w
    have hmile : 0 ≤ C.1 (30 + u) ∧ C.1 (30 + u) ≤ 99 := by omega
    unfold gTy at ht
    split at ht
    case h_2 => cases ht
    rename_i T1 ht1
    split at ht
    case isFalse => cases ht
    rename_i hT1
    rw [show gRun (qVl C t u) (qLf C t (C.1 (30 + u))) (c :: cs) s = gRun (qVl C t u) (qLf C t (C.1 (30 + u))) cs (if gAsks c then gPop1 (qLf C t (C.1 (30 + u)) (-1 - c)) s else gStep (qVl C t u) c s) from rfl] at K
    have hcode := hcd.1
    have next : ∀ (s1 : List Int) (I1 : Nat → Nat → Nat → Int32) (J1 : Nat → Nat → Nat → Int64) (a3 : Int32), (if gAsks c then gPop1 (qLf C t (C.1 (30 + u)) (-1 - c)) s else gStep (qVl C t u) c s) = s1 → eVs T1 s1 → (∀ k i j, ¬ ((k = 50 ∧ i = 0 ∧ j = 105)) → I1 k i j = I k i j) → FJ J J1 → (I1 50 0 105).toInt = s1.length → gHl (J1 70 0) s1 → (gq (d + 3) 273 162 [some (.inr (.inr (some (50, 0)))), some (.inl (a1)), some (.inl (a2)), some (.inl (a3))] [] (gwd S I1 J1 h) Q) := fun s1 I1 J1 a3 hs1 hv1 hF hFJ g1 g2 => by
      rw [hs1] at K
      rw [gb_273_162]
      exact n_qt_loop hc ht0 hu h1 he cs s1 T1 T' (k + 1) I1 J1 _ _ ht hv1 hT1 (mCo_congr hC fun k j hk => hF _ _ _ (by omega)) (mS_congr hc hS fun j hj => hF _ _ _ (by omega)) (mQp_congr hP fun j h1 h2 => hF _ _ _ (by omega)) (fun p hp => by rw [hF _ _ _ (by omega)]; exact hL p hp) (by rw [hF _ _ _ (by omega)]; exact hee) ea (by omega) g1 g2 (gCd_congr (fun z _ _ => hF _ _ _ (by omega)) hcd.2) fun I2 J2 z2 z3 hF2 hFJ2 g3 g4 => K I2 J2 z2 z3 (fun k i j hn => by rw [hF2 _ _ _ hn, hF _ _ _ hn]) (FJ_trans hFJ hFJ2) g3 g4
    rw [gb_273_7, if_neg (by rw [z_le]; omega), gb_273_15]
    refine ⟨g_in.mpr (by omega), ?_⟩
    rw [en2, gb_273_21]
    generalize hM : I 68 0 k = M at *
    by_cases hqc : gAsks c = true
    · have hc' : c = -12 ∨ c = -13 := of_decide_eq_true hqc
      unfold gTy1 at ht1
      rw [if_neg (by omega), if_neg (by omega), if_pos hqc] at ht1
      split at ht1
      case isFalse => cases ht1
      obtain ⟨T0, rfl, rfl⟩ := gT1_inv ht1
      obtain ⟨v, s', rfl, hv, hs'⟩ := eVs_cons hs
      have hv' : -1000000 ≤ v ∧ v ≤ 1000000 := hv
      simp only [List.length_cons] at hq hl hT
      have q5 : (I 50 0 105 - 1).toInt = s'.length := by rw [z_sub (by omega) (by omega), hq, e1]; omega
      have n5 : (I 50 0 105 - 1).toNatClampNeg = s'.length := by rw [z_n, q5]; omega
      have eM : M.toInt = 60 + (-1 - c - 11) := by
        rw [hcode]
        rcases hc' with rfl | rfl <;> decide
      have hvj : (J 70 0 s'.length).toInt = v := hh.1
      rw [if_pos (by rw [z_lt]; omega), gb_273_42, if_neg (by rw [z_lt]; omega), gb_273_48]
      refine ⟨g_in.mpr (by omega), ?_⟩
      rw [n5, gb_273_74]
      refine n_qOf (w := -1 - c) hc hC hS ht0 hu h1 (by rw [z_sub (by omega) (by omega), eM, e60]; omega) (by omega) hL (by omega) fun x hx => ?_
      rw [Option.toList_some, List.singleton_append, gb_273_78]
      refine n_clip fun y hy => ?_
      have hlr := qLf_r (w := -1 - c) (x := v) hc ht0 hmile
      rw [hx, hvj, gclip_id hlr] at hy
      rw [Option.toList_some, List.singleton_append, gb_273_81]
      refine ⟨g_in.mpr (by omega), ?_⟩
      rw [n5, gb_273_82]
      refine next (qLf C t (C.1 (30 + u)) (-1 - c) v :: s') _ _ _ (by rw [if_pos hqc]; rfl) ⟨by show -1000000 ≤ qLf C t (C.1 (30 + u)) (-1 - c) v ∧ qLf C t (C.1 (30 + u)) (-1 - c) v ≤ 1000000; exact hlr, hs'⟩ (fun k i j hn => rfl) (fun k i j hn => u_ne (by omega)) (by rw [hq]; rfl) ⟨by rw [u_eq]; exact hy, gHl_congr (fun k hk => u_j (by omega)) hh.2⟩
    have hq' : gAsks c = false := by simpa using hqc
    have hnq : ¬ (c = -12 ∨ c = -13) := of_decide_eq_false hq'
    have hstep := gStep_ok ht1 hq' hVr hs
    replace next := fun I1 J1 a3 hF hFJ g1 g2 => next (gStep (qVl C t u) c s) I1 J1 a3 (by rw [if_neg hqc]) hstep hF hFJ g1 g2
    unfold gTy1 at ht1
    unfold gStep at next
    by_cases c0 : 0 ≤ c
    · rw [if_pos c0] at next ht1
      split at ht1
      case isFalse => cases ht1
      rename_i c9
      have eM : M.toInt = 1000 + c := by rw [hcode]; exact if_pos c0
      rw [if_neg (by rw [z_lt]; omega), gb_273_29, n_puts hq (by omega), Option.toList_none, List.nil_append, gb_273_39]
      refine next _ _ _ (fun k i j hn => u_ne hn) (fun k i j hn => u_ne (by omega)) (by rw [u_eq, z_add (by omega) (by omega), hq, e1]; rfl) (gHl_push hh (fun k hk => u_j (by omega)) (by rw [u_eq, z_64, z_sub (by omega) (by omega), eM, e1000]; omega))
    · rw [if_neg c0] at next ht1
      by_cases c1 : -1 - c < 11
      · rw [if_pos c1] at next ht1
        have eM : M.toInt = 40 + (-1 - c) := by rw [hcode]; unfold gMc; rw [if_neg c0, if_pos c1]
        split at ht1
        case isFalse => cases ht1
        rename_i hx
        have q4 : (M - 40).toInt = (((-1 - c).toNat : Nat) : Int) := by rw [z_sub (by omega) (by omega), eM, e40]; omega
        have hvr := hVr (-1 - c).toNat (by omega) hx
        rw [if_pos (by rw [z_lt]; omega), gb_273_42, if_pos (by rw [z_lt]; omega), gb_273_85, if_neg (by rw [z_lt]; omega), gb_273_91]
        refine n_qPart hc hC hS hu q4 (by omega) hx hP fun x hxv => ?_
        rw [Option.toList_some, List.singleton_append, gb_273_101]
        refine n_clip fun y hy => ?_
        rw [hxv, gclip_id hvr] at hy
        rw [Option.toList_some, List.singleton_append, gb_273_104, n_puts hq (by omega), Option.toList_none, List.nil_append, gb_273_107]
        refine next _ _ _ (fun k i j hn => u_ne hn) (fun k i j hn => u_ne (by omega)) (by rw [u_eq, z_add (by omega) (by omega), hq, e1]; rfl) (gHl_push hh (fun k hk => u_j (by omega)) (by rw [u_eq]; exact hy))
      · rw [if_neg c1] at next ht1
        rw [if_neg (by rw [hq']; exact Bool.false_ne_true)] at ht1
        have hcode2 : M.toInt = if c = -15 then 13 else if c = -14 then 12 else gMw (-1 - c) := by
          rw [hcode]; unfold gMc; rw [if_neg c0, if_neg c1, if_neg (by omega), if_neg (by omega)]
        have hgr := gMw_r (-1 - c)
        have hMr : M.toInt < 40 := by rw [hcode2]; (repeat' split) <;> omega
        rw [if_pos (by rw [z_lt]; omega), gb_273_42, if_pos (by rw [z_lt]; omega), gb_273_85, if_pos (by rw [z_lt]; omega), gb_273_110]
        by_cases c2 : c = -15
        · rw [if_pos c2] at next hcode2
          rw [if_pos (z_inj (by rw [hcode2]; rfl)), gb_273_116, n_puts hq (by omega), Option.toList_none, List.nil_append, gb_273_121]
          refine next _ _ _ (fun k i j hn => u_ne hn) (fun k i j hn => u_ne (by omega)) (by rw [u_eq, z_add (by omega) (by omega), hq, e1]; rfl) (gHl_push hh (fun k hk => u_j (by omega)) (by rw [u_eq]; rfl))
        · rw [if_neg c2] at next hcode2 ht1
          by_cases c3 : c = -14
          · rw [if_pos c3] at next hcode2 ht1
            obtain ⟨T0, rfl, rfl⟩ := gT1_inv ht1
            obtain ⟨v, s', rfl, hv, hs'⟩ := eVs_cons hs
            have hv' : v = 0 ∨ v = 1 := hv
            simp only [List.length_cons] at hq hl hT
            have q5 : (I 50 0 105 - 1).toInt = s'.length := by rw [z_sub (by omega) (by omega), hq, e1]; omega
            have n5 : (I 50 0 105 - 1).toNatClampNeg = s'.length := by rw [z_n, q5]; omega
            rw [if_neg (fun e => by rw [e] at hcode2; exact absurd hcode2 (by decide)), gb_273_124, if_pos (z_inj (by rw [hcode2]; rfl)), gb_273_130]
            refine ⟨g_in.mpr (by omega), ?_⟩
            rw [gb_273_152]
            refine ⟨g_in.mpr (by omega), ?_⟩
            rw [n5, gb_273_154]
            refine next _ _ _ (fun k i j hn => rfl) (fun k i j hn => u_ne (by omega)) (by rw [hq]; rfl) ⟨?_, gHl_congr (fun k hk => u_j (by omega)) hh.2⟩
            rw [u_eq, y_sub (by rw [hh.1, yi_1]; omega) (by rw [hh.1, yi_1]; omega), hh.1, yi_1]
          · rw [if_neg c3] at next hcode2 ht1
            have hne13 : ¬ M = 13 := fun e => by rw [e, e13] at hcode2; omega
            have hne12 : ¬ M = 12 := fun e => by rw [e, e12] at hcode2; omega
            rw [if_neg hne13, gb_273_124, if_neg hne12, gb_273_157]
            have hj : ∃ x y T0, T = x :: x :: T0 ∧ T1 = y :: T0 ∧ ((gBop (-1 - c) = true ∧ x = true) ∨ ((gNop (-1 - c) = true ∨ gCop (-1 - c) = true) ∧ x = false)) := by
              split at ht1
              · obtain ⟨T0, h5, h6⟩ := gT2_inv ht1; exact ⟨true, true, T0, h5, h6, Or.inl ⟨‹_›, rfl⟩⟩
              · split at ht1
                · obtain ⟨T0, h5, h6⟩ := gT2_inv ht1; exact ⟨false, false, T0, h5, h6, Or.inr ⟨Or.inl ‹_›, rfl⟩⟩
                · split at ht1
                  · obtain ⟨T0, h5, h6⟩ := gT2_inv ht1; exact ⟨false, true, T0, h5, h6, Or.inr ⟨Or.inr ‹_›, rfl⟩⟩
                  · cases ht1
            obtain ⟨x, y, T0, rfl, rfl, hx⟩ := hj
            obtain ⟨v, s', rfl, hv, hs'⟩ := eVs_cons hs
            obtain ⟨v2, s2, rfl, hu2, hs2⟩ := eVs_cons hs'
            simp only [List.length_cons] at hq hl hT
            refine n_joins (w := -1 - c) (a := v2) (b := v) (s := s2) hcode2 ?_ (by rw [hq]; omega) (by omega) hh fun I1 J1 hF1 hFJ1 g1 g2 => ?_
            · rcases hx with ⟨h5, rfl⟩ | ⟨h5, rfl⟩
              · exact Or.inl ⟨h5, hu2, hv⟩
              · exact Or.inr ⟨h5, hu2, hv⟩
            · rw [Option.toList_none, List.nil_append]
              exact next I1 J1 _ hF1 hFJ1 (by rw [g1]; rfl) g2
theorem n_qTold {C : gCo} {t : gSt} {u : Nat} {l : List Int} {tt : Bool} {a1 : Int32} {x2 x3 : Option gV} (hc : cOk C) (ht : tOk C t) (hu : (u : Int) < C.1 3) (h1 : a1.toInt = u) (hty : gTy (alT 3) l [] = some [tt]) (hl : l.length ≤ 1600) (hC : mCo I C) (hS : mS I C t) (hP : mQp I C t u) (hL : mLit I C (1000 * (C.1 3).toNat)) (hcd : mCd I l)
    (K : ∀ I' (J' : Nat → Nat → Nat → Int64) (x : Int64), (∀ k i j, ¬ ((k = 50 ∧ i = 0 ∧ j = 105)) → I' k i j = I k i j) → FJ J J' → x.toInt = qV C t l u → Q (some (.inr (.inl x))) (gwd S I' J' h)) : (gq (d + 3) 273 0 [some (.inr (.inr (some (50, 0)))), some (.inl (a1)), x2, x3] [] (gwd S I J h) Q) := by
  rw [gb_273_0]
  have o : (∀ k i j, ¬ ((k = 50 ∧ i = 0 ∧ j = 105)) → gup I 50 0 105 0 k i j = I k i j) := fun k i j hn => u_ne (by omega)
  refine n_qt_loop (e := l.length) hc ht hu h1 hl l [] [] [tt] 0 _ J 0 _ hty trivial (Nat.zero_le _) (mCo_congr hC fun k j hk => o _ _ _ (by omega)) (mS_congr hc hS fun j hj => o _ _ _ (by omega)) (mQp_congr hP fun j h1 h2 => o _ _ _ (by omega)) (fun p hp => by rw [o _ _ _ (by omega)]; exact hL p hp) (by rw [o _ _ _ (by omega)]; exact hcd.1) rfl (by omega) (by rw [u_eq]; rfl) trivial (gCd_congr (fun z _ _ => o _ _ _ (by omega)) hcd.2) fun I1 J1 z2 z3 hF1 hFJ1 p1 p2 => ?_
  obtain ⟨v, s', hv, hvt, hs'⟩ := eVs_cons p1
  have hnil : s' = [] := by
    have := eVs_len hs'
    cases s' with
    | nil => rfl
    | cons => cases this
  subst hnil
  rw [hv] at p2
  rw [gb_273_168]
  refine ⟨rfl, ?_⟩
  rw [gb_273_174]
  exact K I1 J1 _ (fun k i j hn => by rw [hF1 _ _ _ hn, o _ _ _ hn]) hFJ1 (by unfold qV; rw [hv]; exact p2.1)
/-- what it takes of a house's telling -/
theorem n_qTakes {a1 a4 : Int32} {a2 : Int64} {x5 : Option gV} {w v a : Int} {u : Nat} (h1 : a1.toInt = w - 27) (hw : 27 ≤ w ∧ w ≤ 32) (h2 : a2.toInt = v) (h4 : a4.toInt = u) (hJ : (J 50 0 106).toInt = a) (hn : I 50 0 107 = 0 ↔ u ≠ 0) (hvt : w < 30 → v = 0 ∨ v = 1) (hvr : -1000000 ≤ v ∧ v ≤ 1000000) (har : -10000000 ≤ a ∧ a ≤ 10000000)
    (K : ∀ (J' : Nat → Nat → Nat → Int64), (∀ k i j, ¬ (k = 50 ∧ i = 0 ∧ j = 106) → J' k i j = J k i j) → (J' 50 0 106).toInt = qStep w u a v → Q none (gwd S (gup I 50 0 107 0) J' h)) : (gq d 275 0 [some (.inr (.inr (some (50, 0)))), some (.inl (a1)), some (.inr (.inl (a2))), none, some (.inl (a4)), x5] [] (gwd S I J h) Q) := by
  have l1 : (1 : Int64).toInt = 1 := rfl
  have em : (Int64.ofNat 18446744073709551615).toInt = -1 := by decide
  have k : ∀ j : Int32, a1 = j ↔ w - 27 = j.toInt := fun j => by rw [z_eq, h1]
  have e3 : (3 : Int32).toInt = 3 := rfl
  have e64 : a4.toInt64.toInt = u := by rw [z_64]; exact h4
  have fin : ∀ (J1 : Nat → Nat → Nat → Int64) (a5 : Int32), (∀ k i j, ¬ (k = 50 ∧ i = 0 ∧ j = 106) → J1 k i j = J k i j) → (J1 50 0 106).toInt = qStep w u a v → (gq d 275 133 [some (.inr (.inr (some (50, 0)))), some (.inl (a1)), some (.inr (.inl (a2))), none, some (.inl (a4)), some (.inl (a5))] [] (gwd S I J1 h) Q) := fun J1 a5 hF hq => by
    rw [gb_275_133]
    exact K J1 hF hq
  have at90 : w ≤ 30 → ∀ (J1 : Nat → Nat → Nat → Int64) (a5 : Int32), (∀ k i j, ¬ (k = 50 ∧ i = 0 ∧ j = 106) → J1 k i j = J k i j) → (J1 50 0 106).toInt = qStep w u a v → (gq d 275 90 [some (.inr (.inr (some (50, 0)))), some (.inl (a1)), some (.inr (.inl (a2))), none, some (.inl (a4)), some (.inl (a5))] [] (gwd S I J1 h) Q) := fun hw3 J1 a5 hF hq => by
    rw [gb_275_90, if_pos (by rw [z_le]; omega)]
    exact fin J1 a5 hF hq
  have at75 : w < 30 → ∀ (J1 : Nat → Nat → Nat → Int64) (a5 : Int32), (∀ k i j, ¬ (k = 50 ∧ i = 0 ∧ j = 106) → J1 k i j = J k i j) → (J1 50 0 106).toInt = qStep w u a v → (gq d 275 75 [some (.inr (.inr (some (50, 0)))), some (.inl (a1)), some (.inr (.inl (a2))), none, some (.inl (a4)), some (.inl (a5))] [] (gwd S I J1 h) Q) := fun hw3 J1 a5 hF hq => by
    rw [gb_275_75, if_neg (fun e => by have := (k 3).mp e; omega)]
    exact at90 (by omega) J1 a5 hF hq
  have at55 : w < 29 → ∀ (J1 : Nat → Nat → Nat → Int64) (a5 : Int32), (∀ k i j, ¬ (k = 50 ∧ i = 0 ∧ j = 106) → J1 k i j = J k i j) → (J1 50 0 106).toInt = qStep w u a v → (gq d 275 55 [some (.inr (.inr (some (50, 0)))), some (.inl (a1)), some (.inr (.inl (a2))), none, some (.inl (a4)), some (.inl (a5))] [] (gwd S I J1 h) Q) := fun hw3 J1 a5 hF hq => by
    rw [gb_275_55, if_neg (fun e => by have e2 : w - 27 = 2 := (k 2).mp e; omega)]
    exact at75 (by omega) J1 a5 hF hq
  have same : ∀ k i j, ¬ (k = 50 ∧ i = 0 ∧ j = 106) → J k i j = J k i j := fun _ _ _ _ => rfl
  have set : ∀ (y : Int64), ∀ k i j, ¬ (k = 50 ∧ i = 0 ∧ j = 106) → gup J 50 0 106 y k i j = J k i j := fun y k i j hn => u_ne (by omega)
  rw [gb_275_0]
  by_cases w3 : w < 30
  · have hv01 := hvt w3
    rw [if_neg (by rw [z_le]; omega), gb_275_5]
    -- whether it holds
    have behind : ∀ z : Int32, (z = 0 ↔ v = 0) → (gq d 275 16 [some (.inr (.inr (some (50, 0)))), some (.inl (a1)), some (.inr (.inl (a2))), none, some (.inl (a4)), x5] [.inl (z)] (gwd S I J h) Q) := fun z hz => by
      rw [gb_275_16]
      by_cases w27 : w = 27
      · rw [if_pos ((k 0).mpr (by rw [w27]; rfl)), gb_275_22]
        have on38 : qStep w u a v = a → (gq d 275 38 [some (.inr (.inr (some (50, 0)))), some (.inl (a1)), some (.inr (.inl (a2))), none, some (.inl (a4)), some (.inl (z))] [] (gwd S I J h) Q) := fun hs => by
          rw [gb_275_38, if_neg (fun e => by have e2 : w - 27 = 1 := (k 1).mp e; omega)]
          exact at55 (by omega) J z same (by rw [hJ, hs])
        by_cases v0 : v = 0
        · rw [if_pos (hz.mpr v0)]
          exact on38 (by unfold qStep; rw [if_pos w27, if_neg (fun e => e.2 v0)])
        · rw [if_neg (fun e => v0 (hz.mp e)), gb_275_27, gb_275_34]
          by_cases hm : a = -1
          · rw [if_pos ((lg_cmp_eq _ _).mpr (y_inj (by rw [hJ, em, hm]))), gb_275_48]
            exact at55 (by omega) _ z (set _) (by rw [u_eq, e64]; unfold qStep; rw [if_pos w27, if_pos ⟨hm, v0⟩])
          · rw [if_neg (fun e => hm (by rw [← hJ, (lg_cmp_eq _ _).mp e, em]))]
            exact on38 (by unfold qStep; rw [if_pos w27, if_neg (fun e => hm e.1)])
      rw [if_neg (fun e => by have e2 : w - 27 = 0 := (k 0).mp e; omega), gb_275_38]
      by_cases w28 : w = 28
      · rw [if_pos ((k 1).mpr (by rw [w28]; rfl)), gb_275_43]
        by_cases v0 : v = 0
        · rw [if_pos (hz.mpr v0)]
          exact at55 (by omega) J z same (by rw [hJ]; unfold qStep; rw [if_neg w27, if_pos w28, if_neg (fun e => e v0)])
        · rw [if_neg (fun e => v0 (hz.mp e)), gb_275_48]
          exact at55 (by omega) _ z (set _) (by rw [u_eq, e64]; unfold qStep; rw [if_neg w27, if_pos w28, if_pos v0])
      have w29 : w = 29 := by omega
      rw [if_neg (fun e => by have e2 : w - 27 = 1 := (k 1).mp e; omega), gb_275_55, if_pos ((k 2).mpr (by rw [w29]; rfl)), gb_275_60]
      by_cases v0 : v = 0
      · rw [if_pos (hz.mpr v0)]
        exact at75 (by omega) J z same (by rw [hJ]; unfold qStep; rw [if_neg w27, if_neg w28, if_pos (Or.inl w29)]; omega)
      · rw [if_neg (fun e => v0 (hz.mp e)), gb_275_65]
        exact at75 (by omega) _ z (set _) (by rw [u_eq, y_add (by rw [hJ, l1]; omega) (by rw [hJ, l1]; omega), hJ, l1]; unfold qStep; rw [if_neg w27, if_neg w28, if_pos (Or.inl w29)]; omega)
    by_cases v1 : v = 1
    · rw [if_pos ((lg_cmp_eq _ _).mpr (y_inj (by rw [h2, v1]; rfl))), gb_275_11]
      exact behind 1 (by rw [v1]; decide)
    · rw [if_neg (fun e => v1 (by rw [← h2, (lg_cmp_eq _ _).mp e]; rfl)), gb_275_15]
      exact behind 0 (by constructor <;> intro _ <;> first | rfl | omega)
  · rw [if_pos (by rw [z_le]; omega), gb_275_15, gb_275_16, if_neg (fun e => by have e2 : w - 27 = 0 := (k 0).mp e; omega), gb_275_38, if_neg (fun e => by have e2 : w - 27 = 1 := (k 1).mp e; omega), gb_275_55, if_neg (fun e => by have e2 : w - 27 = 2 := (k 2).mp e; omega), gb_275_75]
    have n27 : ¬ w = 27 := by omega
    have n28 : ¬ w = 28 := by omega
    by_cases w30 : w = 30
    · rw [if_pos ((k 3).mpr (by rw [w30]; rfl)), gb_275_80]
      exact at90 (by omega) _ 0 (set _) (by rw [u_eq, y_add (by rw [hJ, h2]; omega) (by rw [hJ, h2]; omega), hJ, h2]; unfold qStep; rw [if_neg n27, if_neg n28, if_pos (Or.inr w30)])
    have no : ¬ (w = 29 ∨ w = 30) := by omega
    rw [if_neg (fun e => by have e2 : w - 27 = 3 := (k 3).mp e; omega), gb_275_90, if_neg (by rw [z_le]; omega), gb_275_95]
    have put : qStep w u a v = v → (gq d 275 128 [some (.inr (.inr (some (50, 0)))), some (.inl (a1)), some (.inr (.inl (a2))), none, some (.inl (a4)), some (.inl (0))] [] (gwd S I J h) Q) := fun hs => by
      rw [gb_275_128]
      exact fin _ 0 (set _) (by rw [u_eq, h2, hs])
    have keep : qStep w u a v = a → (gq d 275 133 [some (.inr (.inr (some (50, 0)))), some (.inl (a1)), some (.inr (.inl (a2))), none, some (.inl (a4)), some (.inl (0))] [] (gwd S I J h) Q) := fun hs => fin J 0 same (by rw [hJ, hs])
    by_cases u0 : u = 0
    · rw [if_neg (fun e => (hn.mp e) u0)]
      refine put ?_
      unfold qStep
      rw [if_neg n27, if_neg n28, if_neg no]
      split
      · rfl
      · rfl
    · rw [if_pos (hn.mpr u0), gb_275_102]
      by_cases w31 : w = 31
      · have hq : qStep w u a v = max a v := by unfold qStep; rw [if_neg n27, if_neg n28, if_neg no, if_pos w31, if_neg u0]
        rw [if_pos ((k 4).mpr (by rw [w31]; rfl)), gb_275_107]
        by_cases q : v ≤ a
        · rw [if_pos ((lg_cmp_le _ _).mpr (by rw [y_le, h2, hJ]; exact q))]
          exact keep (by rw [hq]; omega)
        · rw [if_neg (fun e => q (by have := (lg_cmp_le _ _).mp e; rw [y_le, h2, hJ] at this; exact this)), gb_275_116]
          exact put (by rw [hq]; omega)
      · have hq : qStep w u a v = min a v := by unfold qStep; rw [if_neg n27, if_neg n28, if_neg no, if_neg w31, if_neg u0]
        rw [if_neg (fun e => by have e2 : w - 27 = 4 := (k 4).mp e; omega), gb_275_119]
        by_cases q : a ≤ v
        · rw [if_pos ((lg_cmp_ge _ _).mpr (by rw [y_le, h2, hJ]; exact q))]
          exact keep (by rw [hq]; omega)
        · rw [if_neg (fun e => q (by have := (lg_cmp_ge _ _).mp e; rw [y_le, h2, hJ] at this; exact this))]
          exact put (by rw [hq]; omega)
