/-! The model reads a fact; all of a test. -/
variable {d S : Nat} {h : Nat × Option gNm} {I I0 : Nat → Nat → Nat → Int32} {J : Nat → Nat → Nat → Int64} {Q Q0 : Option gV → gW → Prop}
variable {tp : Nat → Int} {n s b t o : Nat} {g : Bool} {x2 : Option gV}
theorem tWt_hd {W : List Int} (hW : tWt W) : W.headD 0 < 1 ∨ 4 < W.headD 0 := by
  match W, hW with
  | [], _ => exact Or.inl (by decide)
  | v :: W', hW => exact Or.inr (by have := hW v List.mem_cons_self; show 4 < v; omega)
theorem tWt_of {W : List Int} (hW : tWt W) : ofOk W := fun u hu h60 => by have := hW u hu; omega
/-- behind a fact that is told -/
theorem mT_nots {W L : List Int} {a2 : Int32} (hn : n ≤ 1600) (h6 : o ≤ 6) (hp : mPs I tp n s g o W L b) (hF : FM I0 I) (K : ∀ (I' : Nat → Nat → Nat → Int32), FM I0 I' → mPs I' tp n s g (nPop W o L).1 (nPop W o L).2.1 (nPop W o L).2.2 b → mTG d S h J Q0 I') : (gq (d + 9) 265 83 [some (.inr (.inr (some (50, 0)))), some (.inl (1)), some (.inl (a2))] [] (gwd S I J h) Q0) := by
  have hl := hp.2.2.2.2.1
  have hsn := mTk_sn hp.1
  rw [gb_265_83]
  refine n_nots hn W o L I hp (by omega) (by omega) fun I1 hF1 hp1 => ?_
  rw [Option.toList_none, List.nil_append, gb_265_87, if_pos hp1.1.1, gb_265_94]
  exact K I1 (FM_trans hF (fun k i j hn => hF1 _ _ _ (by omega))) hp1 _
theorem mT_notsB {a2 : Int32} {f : Int × Int} (hK : mTE S h J Q0 I0 tp n f) (hF : FM I0 I) (ht : mTk I tp n (.inl f)) : (gq (d + 9) 265 83 [some (.inr (.inr (some (50, 0)))), some (.inl (1)), some (.inl (a2))] [] (gwd S I J h) Q0) := by
  rw [gb_265_83, gb_264_0, if_neg (mTk_bad ht), gb_264_33, Option.toList_none, List.nil_append, gb_265_87, if_neg (mTk_bad ht), gb_265_105]
  exact mT_out hK hF ht
theorem n_t5 {f : Nat} (i5 : mT5 tp n t d S h J Q0 I0 b f) (i9 : mT9 tp n t d S h J Q0 I0 b f) (hx0 : mTx I0 tp n) (h49 : (I0 50 0 49).toInt = t) (ht3 : t ≤ 3) : mT5 tp n t d S h J Q0 I0 b (f + 1) := by
  intro o s g I W L h6 hF hp hW hf Kb K x2
  have hx := mTx_FM hx0 hF
  have hn := hx0.2.2.1
  have hsn := mTk_sn hp.1
  have hl := hp.2.2.2.2.1
  have hnx := lNx_r (tp := tp) (g := g) hsn
  have e1 : (1 : Int32).toInt = 1 := rfl
  have e91 : (91 : Int32).toInt = 91 := rfl
  obtain ⟨R, hR⟩ : ∃ R, rd tp n (alT t) (f + 1) 5 o s g = R := ⟨_, rfl⟩
  rw [hR] at K Kb
  unfold rd at hR
  rw [if_neg (by decide), if_pos rfl] at hR
  rw [gb_265_2, if_neg (by decide), gb_265_6, if_pos hp.1.1, gb_265_13]
  refine n_look hx hp.1 fun I1 x hF1 ht1 hA1 hv => ?_
  have hp1 := mPs_at hp hF1 ht1
  have hx1 := mTx_FM hx (FM_2 hF1)
  have hF01 := FM_trans hF (FM_2 hF1)
  rw [Option.toList_some, List.singleton_append, gb_265_17]
  by_cases c91 : lB tp n s = 91
  · have hlt : s < n := lB_le (tp := tp) (by omega)
    have hs1 := hnx.2.2.1 hlt
    have nw : ¬ (lKd tp n s g = -2 ∧ wHere tp n s = 13) := fun q => by
      have := ((lKd_word hx.2.2.2.1).mp q.1).1
      rw [lIsL_iff] at this; omega
    rw [if_neg nw, if_pos c91] at hR
    rw [if_pos (z_inj (by rw [hv, c91, e91])), gb_265_24]
    refine n_opens (v := 25) hp1 hn h6 rfl hA1 (fun w6 I3 hF3 ht3' => ?_) (fun w6 I3 hF3 ho3 hw3 => ?_)
    · rw [if_pos w6] at hR
      rw [Option.toList_none, List.nil_append, gb_265_34]
      exact mTH_bad (Kb _ _ hR.symm) (FM_trans hF01 (fun k i j hn => by rw [u_ne (by omega), hF3 _ _ _ (by omega)])) (mTk_badc (I := I3) ht3' (u_j (by decide)) (u_j (by decide))) _
    · rw [if_neg w6] at hR
      have ht3' : mTk I3 tp n (.inr (s, g)) := mTk_congr ht1 (fun j hj => hF3 _ _ _ (by omega))
      have hA3 : (I3 50 0 2).toInt = s := by rw [hF3 _ _ _ (by omega)]; exact hA1
      rw [Option.toList_none, List.nil_append, gb_265_34]
      generalize hI4 : gup I3 50 0 2 (I3 50 0 2 + 1) = I4
      have hF4 : (∀ k i j, ¬ ((k = 50 ∧ i = 0 ∧ j = 2)) → I4 k i j = I3 k i j) := fun k i j hn => by rw [← hI4, u_ne hn]
      have ht4 : mTk I4 tp n (.inr (lNx tp n s g)) := mTk_sign ht3' hlt c91 rfl rfl (hF4 _ _ _ (by omega)) (hF4 _ _ _ (by omega)) (hF4 _ _ _ (by omega)) (by rw [← hI4, u_eq, z_add (by omega) (by omega), hA3, e1]) (by decide)
      have hF04 : FM I0 I4 := FM_trans hF01 (fun k i j hn => by rw [hF4 _ _ _ (by omega), hF3 _ _ _ (by omega)])
      have hp4 : mPs I4 tp n (lNx tp n s g).1 (lNx tp n s g).2 ((o + 1 : Nat) : Int) (25 :: W) L b := ⟨ht4, by rw [hF4 _ _ _ (by omega)]; exact ho3, mWt_congr hw3 (hF4 _ _ _ (by omega)) (fun j => hF4 _ _ _ (by omega)), mCd_congr hp1.2.2.2.1 (by rw [hF4 _ _ _ (by omega), hF3 _ _ _ (by omega)]) (fun j => by rw [hF4 _ _ _ (by omega), hF3 _ _ _ (by omega)]), by simp only [List.length_cons]; omega, by rw [hF4 _ _ _ (by omega), hF3 _ _ _ (by omega)]; exact hp1.2.2.2.2.2⟩
      refine i9 (o + 1) (lNx tp n s g).1 (lNx tp n s g).2 I4 (25 :: W) L (by omega) hF04 hp4 (Or.inr rfl) (tWt_cons hW (by omega)) (by omega) (fun q l hr => ?_) (fun I5 s1 g1 l A B L' hr hF5 hp5 hL hB hA hna hno => ?_) _
      · rw [hr, bR_l] at hR; exact Kb _ _ hR.symm
      · rw [hr, bR_r] at hR
        intro a2
        have hx5 := mTx_FM hx0 hF5
        by_cases c : lB tp n s1 = 93
        · have e : lAskC tp n (.inr (s1, g1)) 93 = .inr (lNx tp n s1 g1) := if_pos c
          rw [e] at hR
          refine n_T_close hx5 hp5 (pAO_g hB hA) (by omega) (by omega) c fun I6 hF6 hp6 => ?_
          rw [hL, show ((o + 1 : Nat) : Int) - 1 = o by omega] at hp6
          exact K I6 _ _ l hR.symm (FM_trans hF5 hF6) hp6 a2
        · have e : lAskC tp n (.inr (s1, g1)) 93 = .inl (1, s1) := if_neg c
          rw [e] at hR
          refine n_T_skip (P := []) hx5 hp5 (fun q => c q.1) fun I6 hF6 hp6 => ?_
          have hx6 := mTx_FM hx5 (FM_2 hF6)
          refine n_T_last hx6 hp6 hna hno (fun hm => absurd ((sq_mem hB hA (Or.inr rfl)).mpr (by simp)) hm) (fun hm I7 hF7 ht7 => ?_)
          exact mTQ_bad (Kb _ _ hR.symm) (FM_trans hF5 (FM_trans (FM_2 hF6) hF7)) ht7
  rw [if_neg (fun e => c91 (by rw [← hv, e, e91])), gb_265_47]
  refine n_here (i1 := 33) (by decide) hx1 ht1 fun I2 y hF2 ht2 hA2 hy => ?_
  rw [show mWx.getD 33 0 = 13 from rfl] at hy
  have hA2 : (I2 50 0 2).toInt = s := hA2
  have hFF2 : (∀ k i j, ¬ ((k = 50 ∧ i = 0 ∧ j = 2)) → I2 k i j = I k i j) := fun k i j hn => by rw [hF2 _ _ _ hn, hF1 _ _ _ hn]
  have hp2 := mPs_at hp hFF2 ht2
  have hx2 := mTx_FM hx (FM_2 hFF2)
  have hF02 := FM_trans hF (FM_2 hFF2)
  rw [Option.toList_some, List.singleton_append, gb_265_55]
  by_cases w13 : lIs tp n (.inr (s, g)) 13 = true
  · have hwi := lIs_iff.mp w13
    have hlt : s < n := lKd_lt hx.2.2.2.1 (Or.inl hwi.1)
    have hs1 := hnx.2.2.1 hlt
    rw [if_pos (show lKd tp n s g = -2 ∧ wHere tp n s = 13 from hwi)] at hR
    rw [if_pos w13] at hy
    rw [if_neg (by rw [hy]; decide), gb_265_58]
    refine n_opens (v := 12) hp2 hn h6 rfl hA2 (fun w6 I3 hF3 ht3' => ?_) (fun w6 I3 hF3 ho3 hw3 => ?_)
    · rw [if_pos w6] at hR
      have hx3 : mTx I3 tp n := mTx_FM hx2 (fun k i j hn => hF3 _ _ _ (by omega))
      rw [Option.toList_none, List.nil_append, gb_265_68]
      refine n_asks (i1 := 33) (by decide) hx3 ht3' fun I4 hF4 ht4 => ?_
      rw [Option.toList_none, List.nil_append, gb_265_76]
      exact mTH_bad (Kb _ _ hR.symm) (FM_trans hF02 (fun k i j hn => by rw [hF4 _ _ _ (by omega), hF3 _ _ _ (by omega)])) ht4 _
    · rw [if_neg w6] at hR
      have hx3 : mTx I3 tp n := mTx_FM hx2 (fun k i j hn => hF3 _ _ _ (by omega))
      have ht3' : mTk I3 tp n (.inr (s, g)) := mTk_congr ht2 (fun j hj => hF3 _ _ _ (by omega))
      rw [Option.toList_none, List.nil_append, gb_265_68]
      refine n_asks (i1 := 33) (by decide) hx3 ht3' fun I4 hF4 ht4 => ?_
      rw [show mWx.getD 33 0 = 13 from rfl] at ht4
      have e : lAskW tp n (.inr (s, g)) 13 = .inr (lNx tp n s g) := if_pos hwi
      rw [e] at ht4
      have hF04 : FM I0 I4 := FM_trans hF02 (fun k i j hn => by rw [hF4 _ _ _ (by omega), hF3 _ _ _ (by omega)])
      have hp4 : mPs I4 tp n (lNx tp n s g).1 (lNx tp n s g).2 ((o + 1 : Nat) : Int) (12 :: W) L b := ⟨ht4, by rw [hF4 _ _ _ (by omega)]; exact ho3, mWt_congr hw3 (hF4 _ _ _ (by omega)) (fun j => hF4 _ _ _ (by omega)), mCd_congr hp2.2.2.2.1 (by rw [hF4 _ _ _ (by omega), hF3 _ _ _ (by omega)]) (fun j => by rw [hF4 _ _ _ (by omega), hF3 _ _ _ (by omega)]), by simp only [List.length_cons]; omega, by rw [hF4 _ _ _ (by omega), hF3 _ _ _ (by omega)]; exact hp2.2.2.2.2.2⟩
      rw [Option.toList_none, List.nil_append, gb_265_76]
      refine i5 (o + 1) (lNx tp n s g).1 (lNx tp n s g).2 I4 (12 :: W) L (by omega) hF04 hp4 (tWt_cons hW (by omega)) (by omega) (fun q l hr => ?_) (fun I7 s1 g1 l hr hF7 hp7 => ?_) _
      · rw [hr, bR_l] at hR; exact Kb _ _ hR.symm
      · rw [hr, bR_r] at hR
        have eE : nPop (12 :: W) ((o + 1 : Nat) : Int) (L ++ l) = nPop W o (L ++ (l ++ [-14])) := by
          show (if (12 : Int) = 12 then nPop W (((o + 1 : Nat) : Int) - 1) (L ++ l ++ [-14]) else _) = _
          rw [if_pos rfl, show ((o + 1 : Nat) : Int) - 1 = o by omega, List.append_assoc]
        rw [eE] at hp7
        exact K I7 _ _ _ hR.symm hF7 hp7
  rw [if_neg w13] at hy
  rw [if_neg (show ¬ (lKd tp n s g = -2 ∧ wHere tp n s = 13) from fun q => w13 (lIs_iff.mpr q)), if_neg c91] at hR
  rw [if_pos hy, gb_265_79, gb_262_0]
  refine n_takes (i1 := 36) (by decide) hx2 ht2 fun I3 z hF3 ht3' hA3 hz => ?_
  rw [show mWx.getD 36 0 = 14 from rfl] at ht3' hz hA3
  have hFM3 : FM I0 I3 := FM_trans hF02 (fun k i j hn => hF3 _ _ _ (by omega))
  have hx3 := mTx_FM hx0 hFM3
  rw [Option.toList_some, List.singleton_append, gb_262_8]
  by_cases w14 : lIs tp n (.inr (s, g)) 14 = true
  · have hwi := lIs_iff.mp w14
    have hlt : s < n := lKd_lt hx.2.2.2.1 (Or.inl hwi.1)
    have hs1 := hnx.2.2.1 hlt
    have e : lTkW tp n (.inr (s, g)) 14 = .inr (lNx tp n s g) := if_pos hwi
    rw [e] at ht3'
    rw [if_pos (show lKd tp n s g = -2 ∧ wHere tp n s = 14 from hwi)] at hR
    rw [if_pos w14] at hz
    rw [if_neg (by rw [hz]; decide), gb_262_11]
    refine n_code (c := -15) (mCd_congr hp2.2.2.2.1 (hF3 _ _ _ (by omega)) (fun j => hF3 _ _ _ (by omega))) (by omega) rfl fun I4 hF4 hc4 => ?_
    rw [Option.toList_none, List.nil_append, gb_262_17, Option.toList_none, List.nil_append]
    have hp4 : mPs I4 tp n (lNx tp n s g).1 (lNx tp n s g).2 o W (L ++ [-15]) b := ⟨mTk_congr ht3' (fun j hj => hF4 _ _ _ (by omega)), by rw [hF4 _ _ _ (by omega), hF3 _ _ _ (by omega)]; exact hp2.2.1, mWt_congr hp2.2.2.1 (by rw [hF4 _ _ _ (by omega), hF3 _ _ _ (by omega)]) (fun j => by rw [hF4 _ _ _ (by omega), hF3 _ _ _ (by omega)]), hc4, by rw [List.length_append]; simp only [List.length_cons, List.length_nil]; omega, by rw [hF4 _ _ _ (by omega), hF3 _ _ _ (by omega)]; exact hp2.2.2.2.2.2⟩
    exact mT_nots hn h6 hp4 (FM_trans hFM3 (fun k i j hn => hF4 _ _ _ (by omega))) fun I5 hF5 hp5 => K I5 _ _ _ hR.symm hF5 hp5
  have e : lTkW tp n (.inr (s, g)) 14 = .inr (s, g) := if_neg (fun q => w14 (lIs_iff.mpr q))
  rw [e] at ht3'
  rw [if_neg (show ¬ (lKd tp n s g = -2 ∧ wHere tp n s = 14) from fun q => w14 (lIs_iff.mpr q))] at hR
  rw [if_neg w14] at hz
  have hp3 : mPs I3 tp n s g o W L b := ⟨ht3', by rw [hF3 _ _ _ (by omega)]; exact hp2.2.1, mWt_congr hp2.2.2.1 (hF3 _ _ _ (by omega)) (fun j => hF3 _ _ _ (by omega)), mCd_congr hp2.2.2.2.1 (hF3 _ _ _ (by omega)) (fun j => hF3 _ _ _ (by omega)), hp2.2.2.2.2.1, by rw [hF3 _ _ _ (by omega)]; exact hp2.2.2.2.2.2⟩
  rw [if_pos hz, gb_262_18]
  refine n_sums (f := f) (t := t) hx3 (by rw [hFM3 _ _ _ (by omega)]; exact h49) ht3 h6 hp3 (tWt_hd hW) (tWt_of hW) (by omega) (fun I4 q l hr hF4 ht4 c0 c1 => ?_) (fun I4 s1 g1 l1 hr hF4 hp4 hop => ?_)
  · rw [hr, bR_l] at hR
    rw [Option.toList_none, List.nil_append, gb_262_22, if_neg (mTk_bad ht4), gb_262_29, Option.toList_none, List.nil_append]
    exact mT_notsB (Kb _ _ hR.symm) (FM_trans hFM3 hF4) ht4
  rw [hr, bR_r] at hR
  have hF04 := FM_trans hFM3 hF4
  have hx4 := mTx_FM hx0 hF04
  have hs1n := mTk_sn hp4.1
  have hnx1 := lNx_r (tp := tp) (g := g1) hs1n
  have hlen1 := rd_len hx0.2.2.2.1 f 4 o _ _ _ _ hsn (by decide) hr
  have l1s : s + l1.length ≤ s1 := hlen1.1
  rw [Option.toList_none, List.nil_append, gb_262_22, if_pos hp4.1.1, gb_262_30]
  refine n_look hx4 hp4.1 fun I5 v hF5 ht5 hA5 hv5 => ?_
  have hp5 := mPs_at hp4 hF5 ht5
  have hF05 := FM_trans hF04 (FM_2 hF5)
  have hx5 := mTx_FM hx0 hF05
  rw [Option.toList_some, List.singleton_append, gb_262_34]
  have cmp : ∀ (cc : Int) (vv : Int32), lB tp n s1 = cc → (cc = 60 ∧ vv = 7 ∨ cc = 62 ∧ vv = 8 ∨ cc = 61 ∧ vv = 9) → (gq (d + 8) 262 63 [some (.inr (.inr (some (50, 0)))), some (.inl (v))] [] (gwd S I5 J h) (fun rv w => gq (d + 9) 265 83 [some (.inr (.inr (some (50, 0)))), some (.inl 1), some (.inl x)] (rv.toList ++ []) w Q0)) := fun cc vv hc hcc => by
    have hlt1 : s1 < n := lB_le (tp := tp) (by omega)
    have hs2 := hnx1.2.2.1 hlt1
    have e60 : (60 : Int32).toInt = 60 := rfl
    have e62 : (62 : Int32).toInt = 62 := rfl
    rw [if_pos (by omega)] at hR
    rw [gb_262_63]
    generalize hI6 : gup I5 50 0 2 (I5 50 0 2 + 1) = I6
    have hF6 : (∀ k i j, ¬ ((k = 50 ∧ i = 0 ∧ j = 2)) → I6 k i j = I5 k i j) := fun k i j hn => by rw [← hI6, u_ne hn]
    have ht6 : mTk I6 tp n (.inr (lNx tp n s1 g1)) := mTk_sign ht5 hlt1 hc (by rcases hcc with ⟨rfl, _⟩ | ⟨rfl, _⟩ | ⟨rfl, _⟩ <;> rfl) (by rcases hcc with ⟨rfl, _⟩ | ⟨rfl, _⟩ | ⟨rfl, _⟩ <;> rfl) (hF6 _ _ _ (by omega)) (hF6 _ _ _ (by omega)) (hF6 _ _ _ (by omega)) (by rw [← hI6, u_eq, z_add (by omega) (by omega), hA5, e1]) (by omega)
    have hp6 := mPs_sign hp5 hlt1 hF6 ht6
    have hF06 := FM_trans hF05 (FM_2 hF6)
    have code : ∀ (I7 : Nat → Nat → Nat → Int32), FM I0 I7 → ∀ Q : Option gV → gW → Prop, (gq (d + 8) 262 102 [some (.inr (.inr (some (50, 0)))), some (.inl (v))] [.inl (vv), .inr (.inr (some (50, 0)))] (gwd S I7 J h) Q) → (gq (d + 8) 262 77 [some (.inr (.inr (some (50, 0)))), some (.inl (v))] [] (gwd S I7 J h) Q) := fun I7 _ Q k => by
      rw [gb_262_77]
      rcases hcc with ⟨rfl, rfl⟩ | ⟨rfl, rfl⟩ | ⟨rfl, rfl⟩
      · rw [if_pos (z_inj (by rw [hv5, hc, e60])), gb_262_84]; exact k
      · rw [if_neg (fun e => by rw [e, e60] at hv5; omega), gb_262_89, if_pos (z_inj (by rw [hv5, hc, e62])), gb_262_95]; exact k
      · rw [if_neg (fun e => by rw [e, e60] at hv5; omega), gb_262_89, if_neg (fun e => by rw [e, e62] at hv5; omega), gb_262_100]; exact k
    refine n_sums (f := f) (t := t) (mTx_FM hx0 hF06) (by rw [hF06 _ _ _ (by omega)]; exact h49) ht3 h6 hp6 (tWt_hd hW) (tWt_of hW) (by omega) (fun I7 q l hr7 hF7 ht7 c0 c1 => ?_) (fun I7 s2 g2 l2 hr7 hF7 hp7 hop7 => ?_)
    · rw [hr7, bR_l] at hR
      have hF07 := FM_trans hF06 hF7
      rw [Option.toList_none, List.nil_append]
      refine code I7 hF07 _ ?_
      rw [gb_262_102]
      refine n_codeB c0 (by omega) fun I8 hF8 hc8 => ?_
      rw [Option.toList_none, List.nil_append, gb_262_105, Option.toList_none, List.nil_append]
      exact mT_notsB (Kb _ _ hR.symm) (FM_trans hF07 (fun k i j hn => hF8 _ _ _ (by omega))) (mTk_congr (τ := .inl q) ht7 (fun j hj => hF8 _ _ _ (by omega)))
    · rw [hr7, bR_r] at hR
      have hF07 := FM_trans hF06 hF7
      have hs2n := mTk_sn hp7.1
      have hl7 := hp7.2.2.2.2.1
      have hlen2 := rd_len hx0.2.2.2.1 f 4 o _ _ _ _ hnx1.2.1 (by decide) hr7
      have l2s : (lNx tp n s1 g1).1 + l2.length ≤ s2 := hlen2.1
      rw [Option.toList_none, List.nil_append]
      refine code I7 hF07 _ ?_
      rw [gb_262_102]
      refine n_code (c := -1 - lB tp n s1) hp7.2.2.2.1 (by omega) (by
        rw [hc]
        rcases hcc with ⟨rfl, rfl⟩ | ⟨rfl, rfl⟩ | ⟨rfl, rfl⟩ <;> rfl) fun I8 hF8 hc8 => ?_
      rw [Option.toList_none, List.nil_append, gb_262_105, Option.toList_none, List.nil_append]
      rw [List.append_assoc, List.append_assoc] at hc8
      have hL7 : (L ++ l1 ++ l2).length = L.length + l1.length + l2.length := by rw [List.length_append, List.length_append]
      have hl5 := hp5.2.2.2.2.1
      have hL5 : (L ++ l1).length = L.length + l1.length := List.length_append
      have hp8 : mPs I8 tp n s2 g2 o W (L ++ (l1 ++ (l2 ++ [-1 - lB tp n s1]))) b := ⟨mTk_congr hp7.1 (fun j hj => hF8 _ _ _ (by omega)), by rw [hF8 _ _ _ (by omega)]; exact hp7.2.1, mWt_congr hp7.2.2.1 (hF8 _ _ _ (by omega)) (fun j => hF8 _ _ _ (by omega)), hc8, by rw [List.length_append, List.length_append, List.length_append]; simp only [List.length_cons, List.length_nil]; omega, by rw [hF8 _ _ _ (by omega)]; exact hp7.2.2.2.2.2⟩
      exact mT_nots hn h6 hp8 (FM_trans hF07 (fun k i j hn => hF8 _ _ _ (by omega))) fun I9 hF9 hp9 => K I9 _ _ _ hR.symm hF9 hp9
  have e60 : (60 : Int32).toInt = 60 := rfl
  have e62 : (62 : Int32).toInt = 62 := rfl
  have e61 : (61 : Int32).toInt = 61 := rfl
  by_cases v1 : lB tp n s1 = 60
  · rw [if_pos (z_inj (by rw [hv5, v1, e60]))]; exact cmp 60 7 v1 (Or.inl ⟨rfl, rfl⟩)
  rw [if_neg (fun q => v1 (by rw [← hv5, q, e60])), gb_262_41]
  by_cases v2 : lB tp n s1 = 62
  · rw [if_pos (z_inj (by rw [hv5, v2, e62]))]; exact cmp 62 8 v2 (Or.inr (Or.inl ⟨rfl, rfl⟩))
  rw [if_neg (fun q => v2 (by rw [← hv5, q, e62])), gb_262_47]
  by_cases v3 : lB tp n s1 = 61
  · rw [if_pos (z_inj (by rw [hv5, v3, e61]))]; exact cmp 61 9 v3 (Or.inr (Or.inr ⟨rfl, rfl⟩))
  rw [if_neg (fun q => v3 (by rw [← hv5, q, e61])), gb_262_53]
  rw [if_neg (by omega)] at hR
  refine n_failAt ht5 rfl hA5 (by decide) fun I6 hF6 ht6 => ?_
  rw [Option.toList_none, List.nil_append, gb_262_62, Option.toList_none, List.nil_append]
  exact mT_notsB (Kb _ _ hR.symm) (FM_trans hF05 (fun k i j hn => hF6 _ _ _ (by omega))) ht6
theorem n_ts (hx0 : mTx I0 tp n) (h49 : (I0 50 0 49).toInt = t) (ht3 : t ≤ 3) : ∀ f, mT5 tp n t d S h J Q0 I0 b f ∧ mT6 tp n t d S h J Q0 I0 b f ∧ mT7 tp n t d S h J Q0 I0 b f ∧ mT8 tp n t d S h J Q0 I0 b f ∧ mT9 tp n t d S h J Q0 I0 b f
  | 0 => ⟨fun _ _ _ _ _ _ _ _ _ _ hf => absurd hf (by omega), fun _ _ _ _ _ _ _ _ _ _ _ _ _ _ _ hf => absurd hf (by omega), fun _ _ _ _ _ _ _ _ _ _ _ _ _ hf => absurd hf (by omega), fun _ _ _ _ _ _ _ _ _ _ _ _ _ _ _ _ hf => absurd hf (by omega), fun _ _ _ _ _ _ _ _ _ _ _ hf => absurd hf (by omega)⟩
  | f + 1 => by
    obtain ⟨i5, i6, i7, i8, i9⟩ := n_ts hx0 h49 ht3 f
    exact ⟨n_t5 i5 i9 hx0 h49 ht3, n_t6 i5 i6 hx0, n_t7 i5 i6 hx0, n_t8 i7 i8 hx0, n_t9 i7 i8 hx0⟩
theorem n_tDrop : ∀ (P : List Int) (I : Nat → Nat → Nat → Int32) (L : List Int) (a2 : Int32), I 50 0 5 = 0 → mWt I (P.map gMc) → mCd I L → P.length + L.length < 1690 → (∀ (I' : Nat → Nat → Nat → Int32), (∀ k i j, ¬ ((k = 50 ∧ i = 0 ∧ (j = 99 ∨ j = 101)) ∨ (k = 68 ∧ i = 0)) → I' k i j = I k i j) → mWt I' [] → mCd I' (L ++ P) → Q0 none (gwd S I' J h)) → (gq (d + 9) 265 110 [some (.inr (.inr (some (50, 0)))), some (.inl (0)), x2] [] (gwd S I J h) Q0)
  | [], I, L, a2, h5, hw, hc, hl, K => by
    have q : (I 50 0 101).toInt = 0 := hw.1
    rw [List.append_nil] at K
    rw [gb_265_110, if_pos h5, gb_265_117, if_pos (by rw [z_le, z_0]; omega), gb_265_131]
    exact K I (fun _ _ _ _ => rfl) hw hc
  | c :: P, I, L, a2, h5, hw, hc, hl, K => by
    have hw' : mWt I (gMc c :: P.map gMc) := hw
    have hlm : (P.map gMc).length = P.length := List.length_map ..
    have q := hw'.1
    simp only [List.length_cons] at q hl
    rw [gb_265_110, if_pos h5, gb_265_117, if_neg (by rw [z_le, z_0]; omega), gb_265_124]
    refine n_drops hw' hc (by omega) (by omega) fun I1 hF1 hw1 hc1 => ?_
    rw [Option.toList_none, List.nil_append, gb_265_128]
    refine n_tDrop P I1 (L ++ [c]) a2 (by rw [hF1 _ _ _ (by omega)]; exact h5) hw1 hc1 (by rw [List.length_append (as := L)]; simp only [List.length_cons, List.length_nil]; omega) fun I2 hF2 hw2 hc2 => ?_
    rw [List.append_assoc] at hc2
    exact K I2 (fun k i j hn => by rw [hF2 _ _ _ hn, hF1 _ _ _ (by omega)]) hw2 hc2
/-- the model reads a test -/
theorem n_tests {L : List Int} {f : Nat} {x1 x2 : Option gV} (hx : mTx I tp n) (h49 : (I 50 0 49).toInt = t) (ht3 : t ≤ 3) (h6 : o ≤ 6) (hp : mPs I tp n s g o [] L b) (hf : 10 * (n - s) + 9 < f)
    (Kb : ∀ (I' : Nat → Nat → Nat → Int32) q l, rd tp n (alT t) f 9 o s g = (.inl q, l) → FM I I' → mTk I' tp n (.inl q) → Q none (gwd S I' J h))
    (K : ∀ (I' : Nat → Nat → Nat → Int32) s1 g1 l, rd tp n (alT t) f 9 o s g = (.inr (s1, g1), l) → FM I I' → mPs I' tp n s1 g1 o [] (L ++ l) b → Q none (gwd S I' J h)) : (gq (d + 9) 265 0 [some (.inr (.inr (some (50, 0)))), x1, x2] [] (gwd S I J h) Q) := by
  rw [gb_265_0]
  have sp := (n_ts (d := d) (S := S) (h := h) (J := J) (Q0 := Q) (b := b) hx h49 ht3 f).2.2.2.2
  refine sp o s g I [] L h6 FM_refl hp (Or.inl rfl) (fun v hv => by cases hv) hf (fun q l hr I' hF' ht' => Kb I' q l hr hF' ht') (fun I1 s1 g1 l A B L1 hr hF1 hp1 hL hB hA hna hno => ?_) _
  intro a2
  have hn := hx.2.2.1
  have hx1 := mTx_FM hx hF1
  have hsq : ¬ 25 ∈ (B ++ A).map gMc ++ [] := fun hm => (sq_mem hB hA (Or.inl rfl)).mp hm rfl
  refine n_T_skip (P := []) hx1 hp1 (fun q => hsq q.2) fun I2 hF2 hp2 => ?_
  have hx2 := mTx_FM hx1 (FM_2 hF2)
  refine n_T_last hx2 hp2 hna hno (fun _ I3 hF3 hp3 => ?_) (fun hm => absurd hm hsq)
  unfold mTQ
  have hs1 := mTk_sn hp3.1
  have hl3 := hp3.2.2.2.2.1
  rw [List.append_nil] at hp3 hl3
  rw [List.length_map] at hl3
  rw [Option.toList_some, List.singleton_append, gb_265_98, if_pos rfl, gb_265_105, gb_265_106, gb_265_2, if_pos rfl]
  refine n_tDrop (B ++ A) I3 L1 a2 hp3.1.1 hp3.2.2.1 hp3.2.2.2.1 (by omega) fun I4 hF4 hw4 hc4 => ?_
  rw [hL] at hc4
  have hlen : (B ++ A).length + L1.length = (L ++ l).length := by rw [← hL, List.length_append (as := L1)]; omega
  exact K I4 s1 g1 l hr (FM_trans hF1 (fun k i j hn => by rw [hF4 _ _ _ (by omega), hF3 _ _ _ (by omega), hF2 _ _ _ (by omega)])) ⟨mTk_congr hp3.1 (fun j hj => hF4 _ _ _ (by omega)), by rw [hF4 _ _ _ (by omega)]; exact hp3.2.1, hw4, hc4, by simp only [List.length_nil]; omega, by rw [hF4 _ _ _ (by omega)]; exact hp3.2.2.2.2.2⟩
